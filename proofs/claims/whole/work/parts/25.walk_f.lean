set_option maxHeartbeats 4000000 in
set_option maxRecDepth 100000 in
theorem L_BF_isWithin_14 {p : Program} {l : Launch} {e : Env} {s : State} {m : MethodId} {args : Array Value} {below : List Frame} {meth : Method} {c : Code} {D : va_G} {cy : Nat → ClassId} {ad : Nat → Nat} (C : Cx p s m args meth c b_BF_isWithin 3 (some .boolean) "BoostForests" D cy ad) {Q : Int32 → gM → Prop} {M : gM} {H : Heap} {locs : List Loc} {ls : Array Slot} (h : wp_BF_isWithin_14 Q M) (hI : gI D cy ad s M H locs) (hl : lv_has ls 3 []) : W p l e rm_BF_isWithin s m args below meth c H locs 0 0 (MQ below (va_Qi Q (gB D cy ad) (gA ad s.heap.size)) args s 0 0 (gA ad s.heap.size)) (F0 m 14 ls []) := by
  obtain ⟨hx, hb, hml, hown, hts, hr, hlk, hK, hja⟩ := id C
  refine lv_iconst (v := (0 : Int32)) hx hb d_BF_isWithin_14 (by decide) ?_
  exact gr_z C hI rfl h d_BF_isWithin_15
set_option maxHeartbeats 4000000 in
set_option maxRecDepth 100000 in
theorem c_BF_isWithin {l : Launch} {D : va_G} {cy : Nat → ClassId} {ad : Nat → Nat} (hj : gJ ad) {a0 : Int32} {a1 : Int32} {a2 : Int32} {M : gM} {Q : Int32 → gM → Prop} (h : wp_BF_isWithin Q a0 a1 a2 M) : Ci l y_BF_isWithin b_BF_isWithin 3 (some .boolean) rm_BF_isWithin D cy ad [.int a0, .int a1, .int a2] M Q := by
  refine gm (by decide +kernel) hj (Nat.le_of_ble_eq_true rfl) (fun p e s m args below meth c ls C hl hI => ?_)
  have hl : lv_has ls 3 [(0, .int a0), (1, .int a1), (2, .int a2)] := hl
  obtain ⟨hx, hb, hml, hown, hts, hr, hlk, hK, hja⟩ := id C
  refine lv_iload_n hx hb d_BF_isWithin_0 rfl (lv_at hl 0 rfl) ?_
  refine lv_iload_n hx hb d_BF_isWithin_1 rfl (lv_at hl 1 rfl) ?_
  refine lv_icmp_lt (tgt := 14) hx hb d_BF_isWithin_2 (by decide) (fun c2 => ?_) (fun c2 => ?_)
  · have h := h.1 c2
    exact L_BF_isWithin_14 C h hI (lv_sub hl [] rfl)
  · have h := h.2 c2
    refine lv_iload_n hx hb d_BF_isWithin_5 rfl (lv_at hl 0 rfl) ?_
    refine lv_iload_n hx hb d_BF_isWithin_6 rfl (lv_at hl 2 rfl) ?_
    refine lv_icmp_gt (tgt := 14) hx hb d_BF_isWithin_7 (by decide) (fun c1 => ?_) (fun c1 => ?_)
    · have h := h.1 c1
      exact L_BF_isWithin_14 C h hI (lv_sub hl [] rfl)
    · have h := h.2 c1
      refine lv_iconst (v := (1 : Int32)) hx hb d_BF_isWithin_10 (by decide) ?_
      refine lv_goto (tgt := 15) hx hb d_BF_isWithin_11 (by decide) ?_
      exact gr_z C hI rfl h d_BF_isWithin_15
set_option maxHeartbeats 4000000 in
set_option maxRecDepth 100000 in
theorem L_BF_areCells_44 {p : Program} {l : Launch} {e : Env} {s : State} {m : MethodId} {args : Array Value} {below : List Frame} {meth : Method} {c : Code} {D : va_G} {cy : Nat → ClassId} {ad : Nat → Nat} (C : Cx p s m args meth c b_BF_areCells 4 (some .boolean) "BoostForests" D cy ad) {Q : Int32 → gM → Prop} {M : gM} {H : Heap} {locs : List Loc} {ls : Array Slot} (h : wp_BF_areCells_44 Q M) (hI : gI D cy ad s M H locs) (hl : lv_has ls 4 []) : W p l e rm_BF_areCells s m args below meth c H locs 0 0 (MQ below (va_Qi Q (gB D cy ad) (gA ad s.heap.size)) args s 0 0 (gA ad s.heap.size)) (F0 m 44 ls []) := by
  obtain ⟨hx, hb, hml, hown, hts, hr, hlk, hK, hja⟩ := id C
  refine lv_iconst (v := (0 : Int32)) hx hb d_BF_areCells_44 (by decide) ?_
  exact gr_z C hI rfl h d_BF_areCells_45
set_option maxHeartbeats 4000000 in
set_option maxRecDepth 100000 in
theorem c_BF_areCells {l : Launch} {D : va_G} {cy : Nat → ClassId} {ad : Nat → Nat} (hj : gJ ad) {a0 : Int32} {a1 : Int32} {a2 : Int32} {a3 : Int32} {M : gM} {Q : Int32 → gM → Prop} (h : wp_BF_areCells Q a0 a1 a2 a3 M) : Ci l y_BF_areCells b_BF_areCells 4 (some .boolean) rm_BF_areCells D cy ad [.int a0, .int a1, .int a2, .int a3] M Q := by
  refine gm (by decide +kernel) hj (Nat.le_of_ble_eq_true rfl) (fun p e s m args below meth c ls C hl hI => ?_)
  have hl : lv_has ls 4 [(0, .int a0), (1, .int a1), (2, .int a2), (3, .int a3)] := hl
  obtain ⟨hx, hb, hml, hown, hts, hr, hlk, hK, hja⟩ := id C
  refine lv_iload_n hx hb d_BF_areCells_0 rfl (lv_at hl 0 rfl) ?_
  refine lv_iconst (v := (-1 : Int32)) hx hb d_BF_areCells_1 (by decide) ?_
  refine lv_bipush (v := (31 : Int32)) hx hb d_BF_areCells_2 (by decide) ?_
  refine gw_Si C hI hl.1 (As := [.int a0, .int (-1 : Int32), .int (31 : Int32)]) (rest := []) (c_BF_isWithin hja h) kS_BF_42 rfl ⟨rfl, rfl⟩ ⟨Nat.le_of_ble_eq_true rfl, Nat.le_of_ble_eq_true rfl⟩ rfl (Nat.le_of_ble_eq_true rfl) ⟨Nat.zero_le _, Nat.zero_le _⟩ d_BF_areCells_4 (fun r1 M2 H locs h hI => ?_)
  refine lv_if_eq (tgt := 44) hx hb d_BF_areCells_7 (by decide) (fun c12 => ?_) (fun c12 => ?_)
  · have h := h.1 c12
    exact L_BF_areCells_44 C h hI (lv_sub hl [] rfl)
  · have h := h.2 c12
    refine lv_iload_n hx hb d_BF_areCells_10 rfl (lv_at hl 1 rfl) ?_
    refine lv_iconst (v := (-1 : Int32)) hx hb d_BF_areCells_11 (by decide) ?_
    refine lv_bipush (v := (31 : Int32)) hx hb d_BF_areCells_12 (by decide) ?_
    refine gw_Si C hI hl.1 (As := [.int a1, .int (-1 : Int32), .int (31 : Int32)]) (rest := []) (c_BF_isWithin hja h) kS_BF_42 rfl ⟨rfl, rfl⟩ ⟨Nat.le_of_ble_eq_true rfl, Nat.le_of_ble_eq_true rfl⟩ rfl (Nat.le_of_ble_eq_true rfl) ⟨Nat.zero_le _, Nat.zero_le _⟩ d_BF_areCells_14 (fun r3 M4 H locs h hI => ?_)
    refine lv_if_eq (tgt := 44) hx hb d_BF_areCells_17 (by decide) (fun c11 => ?_) (fun c11 => ?_)
    · have h := h.1 c11
      exact L_BF_areCells_44 C h hI (lv_sub hl [] rfl)
    · have h := h.2 c11
      refine lv_iload_n hx hb d_BF_areCells_20 rfl (lv_at hl 2 rfl) ?_
      refine lv_iconst (v := (-1 : Int32)) hx hb d_BF_areCells_21 (by decide) ?_
      refine lv_bipush (v := (31 : Int32)) hx hb d_BF_areCells_22 (by decide) ?_
      refine gw_Si C hI hl.1 (As := [.int a2, .int (-1 : Int32), .int (31 : Int32)]) (rest := []) (c_BF_isWithin hja h) kS_BF_42 rfl ⟨rfl, rfl⟩ ⟨Nat.le_of_ble_eq_true rfl, Nat.le_of_ble_eq_true rfl⟩ rfl (Nat.le_of_ble_eq_true rfl) ⟨Nat.zero_le _, Nat.zero_le _⟩ d_BF_areCells_24 (fun r5 M6 H locs h hI => ?_)
      refine lv_if_eq (tgt := 44) hx hb d_BF_areCells_27 (by decide) (fun c10 => ?_) (fun c10 => ?_)
      · have h := h.1 c10
        exact L_BF_areCells_44 C h hI (lv_sub hl [] rfl)
      · have h := h.2 c10
        refine lv_iload_n hx hb d_BF_areCells_30 rfl (lv_at hl 3 rfl) ?_
        refine lv_iconst (v := (-1 : Int32)) hx hb d_BF_areCells_31 (by decide) ?_
        refine lv_bipush (v := (31 : Int32)) hx hb d_BF_areCells_32 (by decide) ?_
        refine gw_Si C hI hl.1 (As := [.int a3, .int (-1 : Int32), .int (31 : Int32)]) (rest := []) (c_BF_isWithin hja h) kS_BF_42 rfl ⟨rfl, rfl⟩ ⟨Nat.le_of_ble_eq_true rfl, Nat.le_of_ble_eq_true rfl⟩ rfl (Nat.le_of_ble_eq_true rfl) ⟨Nat.zero_le _, Nat.zero_le _⟩ d_BF_areCells_34 (fun r7 M8 H locs h hI => ?_)
        refine lv_if_eq (tgt := 44) hx hb d_BF_areCells_37 (by decide) (fun c9 => ?_) (fun c9 => ?_)
        · have h := h.1 c9
          exact L_BF_areCells_44 C h hI (lv_sub hl [] rfl)
        · have h := h.2 c9
          refine lv_iconst (v := (1 : Int32)) hx hb d_BF_areCells_40 (by decide) ?_
          refine lv_goto (tgt := 45) hx hb d_BF_areCells_41 (by decide) ?_
          exact gr_z C hI rfl h d_BF_areCells_45
set_option maxHeartbeats 4000000 in
set_option maxRecDepth 100000 in
theorem c_BF_keepAsked {l : Launch} {D : va_G} {cy : Nat → ClassId} {ad : Nat → Nat} (hj : gJ ad) {a1 : Int32} {a2 : Int32} {a3 : Int32} {a4 : Int32} {M : gM} {Q : gM → Prop} (h : wp_BF_keepAsked Q a1 a2 a3 a4 M) : Cv l y_BF_keepAsked b_BF_keepAsked 5 none rm_BF_keepAsked D cy ad [.ref (ad 0), .int a1, .int a2, .int a3, .int a4] M Q := by
  refine gm (by decide +kernel) hj (Nat.le_of_ble_eq_true rfl) (fun p e s m args below meth c ls C hl hI => ?_)
  have hl : lv_has ls 5 [(0, .ref (ad 0)), (1, .int a1), (2, .int a2), (3, .int a3), (4, .int a4)] := hl
  obtain ⟨hx, hb, hml, hown, hts, hr, hlk, hK, hja⟩ := id C
  refine lv_aload_n hx hb d_BF_keepAsked_0 rfl (lv_at hl 0 rfl) ?_
  refine gw_get (v := .ref (ad 272)) C hI lay_0 i_BF rfl 3 (by decide) kw_1_235 rfl rfl d_BF_keepAsked_1 ?_
  refine lv_iconst (v := (0 : Int32)) hx hb d_BF_keepAsked_4 (by decide) ?_
  refine lv_iload_n hx hb d_BF_keepAsked_5 rfl (lv_at hl 1 rfl) ?_
  refine gw_iast C hI lay_272 (j := 0) (by decide) (vi_lit (0 : Int32) 4 (by decide)) d_BF_keepAsked_6 (fun H locs hI => ?_)
  refine lv_aload_n hx hb d_BF_keepAsked_7 rfl (lv_at hl 0 rfl) ?_
  refine gw_get (v := .ref (ad 272)) C hI lay_0 i_BF rfl 3 (by decide) kw_1_235 rfl rfl d_BF_keepAsked_8 ?_
  refine lv_iconst (v := (1 : Int32)) hx hb d_BF_keepAsked_11 (by decide) ?_
  refine lv_iload_n hx hb d_BF_keepAsked_12 rfl (lv_at hl 2 rfl) ?_
  refine gw_iast C hI lay_272 (j := 1) (by decide) (vi_lit (1 : Int32) 4 (by decide)) d_BF_keepAsked_13 (fun H locs hI => ?_)
  refine lv_aload_n hx hb d_BF_keepAsked_14 rfl (lv_at hl 0 rfl) ?_
  refine gw_get (v := .ref (ad 272)) C hI lay_0 i_BF rfl 3 (by decide) kw_1_235 rfl rfl d_BF_keepAsked_15 ?_
  refine lv_iconst (v := (2 : Int32)) hx hb d_BF_keepAsked_18 (by decide) ?_
  refine lv_iload_n hx hb d_BF_keepAsked_19 rfl (lv_at hl 3 rfl) ?_
  refine gw_iast C hI lay_272 (j := 2) (by decide) (vi_lit (2 : Int32) 4 (by decide)) d_BF_keepAsked_20 (fun H locs hI => ?_)
  refine lv_aload_n hx hb d_BF_keepAsked_21 rfl (lv_at hl 0 rfl) ?_
  refine gw_get (v := .ref (ad 272)) C hI lay_0 i_BF rfl 3 (by decide) kw_1_235 rfl rfl d_BF_keepAsked_22 ?_
  refine lv_iconst (v := (3 : Int32)) hx hb d_BF_keepAsked_25 (by decide) ?_
  refine lv_iload hx hb d_BF_keepAsked_26 (lv_at hl 4 rfl) ?_
  refine gw_iast C hI lay_272 (j := 3) (by decide) (vi_lit (3 : Int32) 4 (by decide)) d_BF_keepAsked_28 (fun H locs hI => ?_)
  exact gr_v C hI h d_BF_keepAsked_29
set_option maxHeartbeats 4000000 in
set_option maxRecDepth 100000 in
theorem L_BF_row_34 {p : Program} {l : Launch} {e : Env} {s : State} {m : MethodId} {args : Array Value} {below : List Frame} {meth : Method} {c : Code} {D : va_G} {cy : Nat → ClassId} {ad : Nat → Nat} (C : Cx p s m args meth c b_BF_row 7 (some .int) "BoostForests" D cy ad) {Q : Int32 → gM → Prop} {M : gM} {H : Heap} {locs : List Loc} {ls : Array Slot} (h : wp_BF_row_34 Q M) (hI : gI D cy ad s M H locs) (hl : lv_has ls 7 []) : W p l e rm_BF_row s m args below meth c H locs 0 0 (MQ below (va_Qi Q (gB D cy ad) (gA ad s.heap.size)) args s 0 0 (gA ad s.heap.size)) (F0 m 34 ls []) := by
  obtain ⟨hx, hb, hml, hown, hts, hr, hlk, hK, hja⟩ := id C
  refine lv_bipush (v := (-2 : Int32)) hx hb d_BF_row_34 (by decide) ?_
  exact gr_i C hI h d_BF_row_36
set_option maxHeartbeats 4000000 in
set_option maxRecDepth 100000 in
theorem c_BF_row {l : Launch} {D : va_G} {cy : Nat → ClassId} {ad : Nat → Nat} (hj : gJ ad) {a1 : Int32} {a2 : Int32} {a3 : Int32} {a4 : Int32} {a5 : Int32} {a6 : Int32} {M : gM} {Q : Int32 → gM → Prop} (h : wp_BF_row Q a1 a2 a3 a4 a5 a6 M) : Ci l y_BF_row b_BF_row 7 (some .int) rm_BF_row D cy ad [.ref (ad 0), .int a1, .int a2, .int a3, .int a4, .int a5, .int a6] M Q := by
  refine gm (by decide +kernel) hj (Nat.le_of_ble_eq_true rfl) (fun p e s m args below meth c ls C hl hI => ?_)
  have hl : lv_has ls 7 [(0, .ref (ad 0)), (1, .int a1), (2, .int a2), (3, .int a3), (4, .int a4), (5, .int a5), (6, .int a6)] := hl
  obtain ⟨hx, hb, hml, hown, hts, hr, hlk, hK, hja⟩ := id C
  refine lv_iload_n hx hb d_BF_row_0 rfl (lv_at hl 1 rfl) ?_
  refine lv_iload_n hx hb d_BF_row_1 rfl (lv_at hl 2 rfl) ?_
  refine lv_iload_n hx hb d_BF_row_2 rfl (lv_at hl 3 rfl) ?_
  refine lv_iload hx hb d_BF_row_3 (lv_at hl 4 rfl) ?_
  refine gw_Si C hI hl.1 (As := [.int a1, .int a2, .int a3, .int a4]) (rest := []) (c_BF_areCells hja h) kS_BF_38 rfl ⟨rfl, rfl⟩ ⟨Nat.le_of_ble_eq_true rfl, Nat.le_of_ble_eq_true rfl⟩ rfl (Nat.le_of_ble_eq_true rfl) ⟨Nat.zero_le _, Nat.zero_le _⟩ d_BF_row_5 (fun r1 M2 H locs h hI => ?_)
  refine lv_if_eq (tgt := 34) hx hb d_BF_row_8 (by decide) (fun c13 => ?_) (fun c13 => ?_)
  · have h := h.1 c13
    exact L_BF_row_34 C h hI (lv_sub hl [] rfl)
  · have h := h.2 c13
    refine lv_iload hx hb d_BF_row_11 (lv_at hl 5 rfl) ?_
    refine lv_bipush (v := (-100 : Int32)) hx hb d_BF_row_13 (by decide) ?_
    refine lv_bipush (v := (100 : Int32)) hx hb d_BF_row_15 (by decide) ?_
    refine gw_Si C hI hl.1 (As := [.int a5, .int (-100 : Int32), .int (100 : Int32)]) (rest := []) (c_BF_isWithin hja h) kS_BF_42 rfl ⟨rfl, rfl⟩ ⟨Nat.le_of_ble_eq_true rfl, Nat.le_of_ble_eq_true rfl⟩ rfl (Nat.le_of_ble_eq_true rfl) ⟨Nat.zero_le _, Nat.zero_le _⟩ d_BF_row_17 (fun r3 M4 H locs h hI => ?_)
    refine lv_if_eq (tgt := 34) hx hb d_BF_row_20 (by decide) (fun c12 => ?_) (fun c12 => ?_)
    · have h := h.1 c12
      exact L_BF_row_34 C h hI (lv_sub hl [] rfl)
    · have h := h.2 c12
      refine lv_iload hx hb d_BF_row_23 (lv_at hl 6 rfl) ?_
      refine lv_iconst (v := (1 : Int32)) hx hb d_BF_row_25 (by decide) ?_
      refine lv_bipush (v := (8 : Int32)) hx hb d_BF_row_26 (by decide) ?_
      refine gw_Si C hI hl.1 (As := [.int a6, .int (1 : Int32), .int (8 : Int32)]) (rest := []) (c_BF_isWithin hja h) kS_BF_42 rfl ⟨rfl, rfl⟩ ⟨Nat.le_of_ble_eq_true rfl, Nat.le_of_ble_eq_true rfl⟩ rfl (Nat.le_of_ble_eq_true rfl) ⟨Nat.zero_le _, Nat.zero_le _⟩ d_BF_row_28 (fun r5 M6 H locs h hI => ?_)
      refine lv_if_ne (tgt := 37) hx hb d_BF_row_31 (by decide) (fun c11 => ?_) (fun c11 => ?_)
      · have h := h.1 c11
        refine lv_aload_n hx hb d_BF_row_37 rfl (lv_at hl 0 rfl) ?_
        refine lv_iload_n hx hb d_BF_row_38 rfl (lv_at hl 1 rfl) ?_
        refine lv_iload_n hx hb d_BF_row_39 rfl (lv_at hl 2 rfl) ?_
        refine lv_iload_n hx hb d_BF_row_40 rfl (lv_at hl 3 rfl) ?_
        refine lv_iload hx hb d_BF_row_41 (lv_at hl 4 rfl) ?_
        refine gw_Vv C hI hl.1 (As := [.int a1, .int a2, .int a3, .int a4]) (rest := []) (c_BF_keepAsked hja h) kV_BF_46 lay_0 rfl rfl ⟨rfl, rfl⟩ ⟨Nat.le_of_ble_eq_true rfl, Nat.le_of_ble_eq_true rfl⟩ rfl (Nat.le_of_ble_eq_true rfl) ⟨Nat.zero_le _, Nat.zero_le _⟩ d_BF_row_43 (fun M8 H locs h hI => ?_)
        refine lv_aload_n hx hb d_BF_row_46 rfl (lv_at hl 0 rfl) ?_
        refine gw_get (v := .ref (ad 1)) C hI lay_0 i_BF rfl 0 (by decide) kw_1_232 rfl rfl d_BF_row_47 ?_
        refine lv_aload_n hx hb d_BF_row_50 rfl (lv_at hl 0 rfl) ?_
        refine gw_get (v := .ref (ad 272)) C hI lay_0 i_BF rfl 3 (by decide) kw_1_235 rfl rfl d_BF_row_51 ?_
        refine lv_iload hx hb d_BF_row_54 (lv_at hl 5 rfl) ?_
        refine lv_iload hx hb d_BF_row_56 (lv_at hl 6 rfl) ?_
        refine gw_Vi C hI hl.1 (As := [.ref (ad 272), .int a5, .int a6]) (rest := []) (c_TB_append hja isTB_1 lay_272 h) kV_BF_50 isTB_1.1 rfl rfl ⟨rfl, rfl⟩ ⟨Nat.le_of_ble_eq_true rfl, Nat.le_of_ble_eq_true rfl⟩ rfl (Nat.le_of_ble_eq_true rfl) ⟨Nat.zero_le _, Nat.zero_le _⟩ d_BF_row_58 (fun r9 M10 H locs h hI => ?_)
        exact gr_i C hI h d_BF_row_61
      · have h := h.2 c11
        exact L_BF_row_34 C h hI (lv_sub hl [] rfl)
set_option maxHeartbeats 4000000 in
set_option maxRecDepth 100000 in
theorem L_BF_isIndex_13 {p : Program} {l : Launch} {e : Env} {s : State} {m : MethodId} {args : Array Value} {below : List Frame} {meth : Method} {c : Code} {D : va_G} {cy : Nat → ClassId} {ad : Nat → Nat} (C : Cx p s m args meth c b_BF_isIndex 2 (some .boolean) "BoostForests" D cy ad) {Q : Int32 → gM → Prop} {M : gM} {H : Heap} {locs : List Loc} {ls : Array Slot} (h : wp_BF_isIndex_13 Q M) (hI : gI D cy ad s M H locs) (hl : lv_has ls 2 []) : W p l e rm_BF_isIndex s m args below meth c H locs 0 0 (MQ below (va_Qi Q (gB D cy ad) (gA ad s.heap.size)) args s 0 0 (gA ad s.heap.size)) (F0 m 13 ls []) := by
  obtain ⟨hx, hb, hml, hown, hts, hr, hlk, hK, hja⟩ := id C
  refine lv_iconst (v := (0 : Int32)) hx hb d_BF_isIndex_13 (by decide) ?_
  exact gr_z C hI rfl h d_BF_isIndex_14
set_option maxHeartbeats 4000000 in
set_option maxRecDepth 100000 in
theorem c_BF_isIndex {l : Launch} {D : va_G} {cy : Nat → ClassId} {ad : Nat → Nat} (hj : gJ ad) {a0 : Int32} {a1 : Int32} {M : gM} {Q : Int32 → gM → Prop} (h : wp_BF_isIndex Q a0 a1 M) : Ci l y_BF_isIndex b_BF_isIndex 2 (some .boolean) rm_BF_isIndex D cy ad [.int a0, .int a1] M Q := by
  refine gm (by decide +kernel) hj (Nat.le_of_ble_eq_true rfl) (fun p e s m args below meth c ls C hl hI => ?_)
  have hl : lv_has ls 2 [(0, .int a0), (1, .int a1)] := hl
  obtain ⟨hx, hb, hml, hown, hts, hr, hlk, hK, hja⟩ := id C
  refine lv_iload_n hx hb d_BF_isIndex_0 rfl (lv_at hl 0 rfl) ?_
  refine lv_if_lt (tgt := 13) hx hb d_BF_isIndex_1 (by decide) (fun c2 => ?_) (fun c2 => ?_)
  · have h := h.1 c2
    exact L_BF_isIndex_13 C h hI (lv_sub hl [] rfl)
  · have h := h.2 c2
    refine lv_iload_n hx hb d_BF_isIndex_4 rfl (lv_at hl 0 rfl) ?_
    refine lv_iload_n hx hb d_BF_isIndex_5 rfl (lv_at hl 1 rfl) ?_
    refine lv_icmp_ge (tgt := 13) hx hb d_BF_isIndex_6 (by decide) (fun c1 => ?_) (fun c1 => ?_)
    · have h := h.1 c1
      exact L_BF_isIndex_13 C h hI (lv_sub hl [] rfl)
    · have h := h.2 c1
      refine lv_iconst (v := (1 : Int32)) hx hb d_BF_isIndex_9 (by decide) ?_
      refine lv_goto (tgt := 14) hx hb d_BF_isIndex_10 (by decide) ?_
      exact gr_z C hI rfl h d_BF_isIndex_14
set_option maxHeartbeats 4000000 in
set_option maxRecDepth 100000 in
theorem L_BF_hold_62 {p : Program} {l : Launch} {e : Env} {s : State} {m : MethodId} {args : Array Value} {below : List Frame} {meth : Method} {c : Code} {D : va_G} {cy : Nat → ClassId} {ad : Nat → Nat} (C : Cx p s m args meth c b_BF_hold 4 (some .int) "BoostForests" D cy ad) {Q : Int32 → gM → Prop} {x3 : Int32} {s0 : Int32} {s1 : Int32} {M : gM} {H : Heap} {locs : List Loc} {ls : Array Slot} (h : wp_BF_hold_62 Q x3 s0 s1 M) (hI : gI D cy ad s M H locs) (hl : lv_has ls 4 [(3, .int x3)]) : W p l e rm_BF_hold s m args below meth c H locs 0 0 (MQ below (va_Qi Q (gB D cy ad) (gA ad s.heap.size)) args s 0 0 (gA ad s.heap.size)) (F0 m 62 ls [.int s0, .int s1, .ref (ad 45)]) := by
  obtain ⟨hx, hb, hml, hown, hts, hr, hlk, hK, hja⟩ := id C
  obtain ⟨g1, h⟩ := h
  refine gw_zast C hI isTB_1.2.2.2.2.2 (j := s1.toNatClampNeg) rfl g1 d_BF_hold_62 (fun H locs hI => ?_)
  refine lv_iload_n hx hb d_BF_hold_63 rfl (lv_at hl 0 rfl) ?_
  exact gr_i C hI h d_BF_hold_64
set_option maxHeartbeats 4000000 in
set_option maxRecDepth 100000 in
theorem L_BF_hold_43 {p : Program} {l : Launch} {e : Env} {s : State} {m : MethodId} {args : Array Value} {below : List Frame} {meth : Method} {c : Code} {D : va_G} {cy : Nat → ClassId} {ad : Nat → Nat} (C : Cx p s m args meth c b_BF_hold 4 (some .int) "BoostForests" D cy ad) {Q : Int32 → gM → Prop} {x1 : Int32} {x2 : Int32} {s0 : Int32} {M : gM} {H : Heap} {locs : List Loc} {ls : Array Slot} (h : wp_BF_hold_43 Q x1 x2 s0 M) (hI : gI D cy ad s M H locs) (hl : lv_has ls 4 [(0, .ref (ad 0)), (1, .int x1), (2, .int x2)]) : W p l e rm_BF_hold s m args below meth c H locs 0 0 (MQ below (va_Qi Q (gB D cy ad) (gA ad s.heap.size)) args s 0 0 (gA ad s.heap.size)) (F0 m 43 ls [.int s0]) := by
  obtain ⟨hx, hb, hml, hown, hts, hr, hlk, hK, hja⟩ := id C
  refine lv_istore_n (lv' := [(3, .int s0), (0, .ref (ad 0)), (1, .int x1), (2, .int x2)]) hx hb d_BF_hold_43 rfl hl (by decide) rfl (fun ls hl => ?_)
  refine lv_aload_n hx hb d_BF_hold_44 rfl (lv_at hl 1 rfl) ?_
  refine gw_get (v := .ref (ad 1)) C hI lay_0 i_BF rfl 0 (by decide) kw_1_232 rfl rfl d_BF_hold_45 ?_
  refine gw_get (v := .ref (ad 45)) C hI isTB_1.1 i_TB rfl 3 (by decide) kw_1_38 rfl rfl d_BF_hold_48 ?_
  refine lv_iload_n hx hb d_BF_hold_51 rfl (lv_at hl 2 rfl) ?_
  refine lv_iload_n hx hb d_BF_hold_52 rfl (lv_at hl 3 rfl) ?_
  refine lv_iconst (v := (1 : Int32)) hx hb d_BF_hold_53 (by decide) ?_
  refine lv_icmp_ne (tgt := 61) hx hb d_BF_hold_54 (by decide) (fun c2 => ?_) (fun c2 => ?_)
  · have h := h.1 c2
    refine lv_iconst (v := (0 : Int32)) hx hb d_BF_hold_61 (by decide) ?_
    exact L_BF_hold_62 C h hI (lv_sub hl [0] rfl)
  · have h := h.2 c2
    refine lv_iconst (v := (1 : Int32)) hx hb d_BF_hold_57 (by decide) ?_
    refine lv_goto (tgt := 62) hx hb d_BF_hold_58 (by decide) ?_
    exact L_BF_hold_62 C h hI (lv_sub hl [0] rfl)
set_option maxHeartbeats 4000000 in
set_option maxRecDepth 100000 in
theorem L_BF_hold_23 {p : Program} {l : Launch} {e : Env} {s : State} {m : MethodId} {args : Array Value} {below : List Frame} {meth : Method} {c : Code} {D : va_G} {cy : Nat → ClassId} {ad : Nat → Nat} (C : Cx p s m args meth c b_BF_hold 4 (some .int) "BoostForests" D cy ad) {Q : Int32 → gM → Prop} {M : gM} {H : Heap} {locs : List Loc} {ls : Array Slot} (h : wp_BF_hold_23 Q M) (hI : gI D cy ad s M H locs) (hl : lv_has ls 4 []) : W p l e rm_BF_hold s m args below meth c H locs 0 0 (MQ below (va_Qi Q (gB D cy ad) (gA ad s.heap.size)) args s 0 0 (gA ad s.heap.size)) (F0 m 23 ls []) := by
  obtain ⟨hx, hb, hml, hown, hts, hr, hlk, hK, hja⟩ := id C
  refine lv_bipush (v := (-2 : Int32)) hx hb d_BF_hold_23 (by decide) ?_
  exact gr_i C hI h d_BF_hold_25
set_option maxHeartbeats 4000000 in
set_option maxRecDepth 100000 in
theorem c_BF_hold {l : Launch} {D : va_G} {cy : Nat → ClassId} {ad : Nat → Nat} (hj : gJ ad) {a1 : Int32} {a2 : Int32} {M : gM} {Q : Int32 → gM → Prop} (h : wp_BF_hold Q a1 a2 M) : Ci l y_BF_hold b_BF_hold 4 (some .int) rm_BF_hold D cy ad [.ref (ad 0), .int a1, .int a2] M Q := by
  refine gm (by decide +kernel) hj (Nat.le_of_ble_eq_true rfl) (fun p e s m args below meth c ls C hl hI => ?_)
  have hl : lv_has ls 4 [(0, .ref (ad 0)), (1, .int a1), (2, .int a2)] := hl
  obtain ⟨hx, hb, hml, hown, hts, hr, hlk, hK, hja⟩ := id C
  refine lv_iload_n hx hb d_BF_hold_0 rfl (lv_at hl 1 rfl) ?_
  refine lv_aload_n hx hb d_BF_hold_1 rfl (lv_at hl 0 rfl) ?_
  refine gw_get (v := .ref (ad 1)) C hI lay_0 i_BF rfl 0 (by decide) kw_1_232 rfl rfl d_BF_hold_2 ?_
  refine gw_get (v := .int (M.1 1 4)) C hI isTB_1.1 i_TB rfl 4 (by decide) kw_1_43 rfl rfl d_BF_hold_5 ?_
  refine gw_Si C hI hl.1 (As := [.int a1, .int (M.1 1 4)]) (rest := []) (c_BF_isIndex hja h) kS_BF_58 rfl ⟨rfl, rfl⟩ ⟨Nat.le_of_ble_eq_true rfl, Nat.le_of_ble_eq_true rfl⟩ rfl (Nat.le_of_ble_eq_true rfl) ⟨Nat.zero_le _, Nat.zero_le _⟩ d_BF_hold_8 (fun r3 M4 H locs h hI => ?_)
  refine lv_if_eq (tgt := 23) hx hb d_BF_hold_11 (by decide) (fun c10 => ?_) (fun c10 => ?_)
  · have h := h.1 c10
    exact L_BF_hold_23 C h hI (lv_sub hl [] rfl)
  · have h := h.2 c10
    refine lv_iload_n hx hb d_BF_hold_14 rfl (lv_at hl 2 rfl) ?_
    refine lv_iconst (v := (0 : Int32)) hx hb d_BF_hold_15 (by decide) ?_
    refine lv_iconst (v := (1 : Int32)) hx hb d_BF_hold_16 (by decide) ?_
    refine gw_Si C hI hl.1 (As := [.int a2, .int (0 : Int32), .int (1 : Int32)]) (rest := []) (c_BF_isWithin hja h) kS_BF_42 rfl ⟨rfl, rfl⟩ ⟨Nat.le_of_ble_eq_true rfl, Nat.le_of_ble_eq_true rfl⟩ rfl (Nat.le_of_ble_eq_true rfl) ⟨Nat.zero_le _, Nat.zero_le _⟩ d_BF_hold_17 (fun r5 M6 H locs h hI => ?_)
    refine lv_if_ne (tgt := 26) hx hb d_BF_hold_20 (by decide) (fun c9 => ?_) (fun c9 => ?_)
    · have h := h.1 c9
      refine lv_aload_n hx hb d_BF_hold_26 rfl (lv_at hl 0 rfl) ?_
      refine gw_get (v := .ref (ad 1)) C hI lay_0 i_BF rfl 0 (by decide) kw_1_232 rfl rfl d_BF_hold_27 ?_
      refine gw_get (v := .ref (ad 45)) C hI isTB_1.1 i_TB rfl 3 (by decide) kw_1_38 rfl rfl d_BF_hold_30 ?_
      refine lv_iload_n hx hb d_BF_hold_33 rfl (lv_at hl 1 rfl) ?_
      obtain ⟨g7, h⟩ := h
      refine gw_zald C hI isTB_1.2.2.2.2.2 (j := a1.toNatClampNeg) rfl (v := M6.1 45 a1.toNatClampNeg) rfl g7 d_BF_hold_34 ?_
      refine lv_if_eq (tgt := 42) hx hb d_BF_hold_35 (by decide) (fun c8 => ?_) (fun c8 => ?_)
      · have h := h.1 c8
        refine lv_iconst (v := (0 : Int32)) hx hb d_BF_hold_42 (by decide) ?_
        exact L_BF_hold_43 C h hI (lv_sub hl [0, 1, 2] rfl)
      · have h := h.2 c8
        refine lv_iconst (v := (1 : Int32)) hx hb d_BF_hold_38 (by decide) ?_
        refine lv_goto (tgt := 43) hx hb d_BF_hold_39 (by decide) ?_
        exact L_BF_hold_43 C h hI (lv_sub hl [0, 1, 2] rfl)
    · have h := h.2 c9
      exact L_BF_hold_23 C h hI (lv_sub hl [] rfl)
set_option maxHeartbeats 4000000 in
set_option maxRecDepth 100000 in
theorem L_BF_set_26 {p : Program} {l : Launch} {e : Env} {s : State} {m : MethodId} {args : Array Value} {below : List Frame} {meth : Method} {c : Code} {D : va_G} {cy : Nat → ClassId} {ad : Nat → Nat} (C : Cx p s m args meth c b_BF_set 4 (some .int) "BoostForests" D cy ad) {Q : Int32 → gM → Prop} {M : gM} {H : Heap} {locs : List Loc} {ls : Array Slot} (h : wp_BF_set_26 Q M) (hI : gI D cy ad s M H locs) (hl : lv_has ls 4 []) : W p l e rm_BF_set s m args below meth c H locs 0 0 (MQ below (va_Qi Q (gB D cy ad) (gA ad s.heap.size)) args s 0 0 (gA ad s.heap.size)) (F0 m 26 ls []) := by
  obtain ⟨hx, hb, hml, hown, hts, hr, hlk, hK, hja⟩ := id C
  refine lv_bipush (v := (-2 : Int32)) hx hb d_BF_set_26 (by decide) ?_
  exact gr_i C hI h d_BF_set_28
set_option maxHeartbeats 4000000 in
set_option maxRecDepth 100000 in
theorem c_BF_set {l : Launch} {D : va_G} {cy : Nat → ClassId} {ad : Nat → Nat} {t_LOWEST t_HIGHEST : Nat} (hj : gJ ad) {a1 : Int32} {a2 : Int32} {M : gM} {Q : Int32 → gM → Prop} (h : wp_BF_set Q a1 a2 M) : CiS l y_BF_set b_BF_set 4 (some .int) rm_BF_set D cy ad t_LOWEST t_HIGHEST [.ref (ad 0), .int a1, .int a2] M Q := by
  refine gmS (by decide +kernel) hj (Nat.le_of_ble_eq_true rfl) (fun p e s m args below meth c ls C hl hI hSt => ?_)
  obtain ⟨hZ_LOWEST, hT_LOWEST, hZ_HIGHEST, hT_HIGHEST⟩ := hSt
  have hl : lv_has ls 4 [(0, .ref (ad 0)), (1, .int a1), (2, .int a2)] := hl
  obtain ⟨hx, hb, hml, hown, hts, hr, hlk, hK, hja⟩ := id C
  refine lv_iload_n hx hb d_BF_set_0 rfl (lv_at hl 1 rfl) ?_
  refine lv_bipush (v := (15 : Int32)) hx hb d_BF_set_1 (by decide) ?_
  refine gw_Si C hI hl.1 (As := [.int a1, .int (15 : Int32)]) (rest := []) (c_BF_isIndex hja h) kS_BF_58 rfl ⟨rfl, rfl⟩ ⟨Nat.le_of_ble_eq_true rfl, Nat.le_of_ble_eq_true rfl⟩ rfl (Nat.le_of_ble_eq_true rfl) ⟨Nat.zero_le _, Nat.zero_le _⟩ d_BF_set_3 (fun r1 M2 H locs h hI => ?_)
  refine lv_if_eq (tgt := 26) hx hb d_BF_set_6 (by decide) (fun c7 => ?_) (fun c7 => ?_)
  · have h := h.1 c7
    exact L_BF_set_26 C h hI (lv_sub hl [] rfl)
  · have h := h.2 c7
    refine lv_iload_n hx hb d_BF_set_9 rfl (lv_at hl 2 rfl) ?_
    refine va_gets hx hb hZ_LOWEST hI.2 hown (hts _ kw_2_37) (fun _ h => h) d_BF_set_10 ?_
    refine lv_iload_n hx hb d_BF_set_13 rfl (lv_at hl 1 rfl) ?_
    obtain ⟨g3, h⟩ := h
    refine va_ti (v := .int (c_LOWEST a1.toNatClampNeg)) hx hb hT_LOWEST hI.2 g3 rfl d_BF_set_14 ?_
    refine va_gets hx hb hZ_HIGHEST hI.2 hown (hts _ kw_2_39) (fun _ h => h) d_BF_set_15 ?_
    refine lv_iload_n hx hb d_BF_set_18 rfl (lv_at hl 1 rfl) ?_
    refine va_ti (v := .int (c_HIGHEST a1.toNatClampNeg)) hx hb hT_HIGHEST hI.2 g3 rfl d_BF_set_19 ?_
    refine gw_Si C hI hl.1 (As := [.int a2, .int (c_LOWEST a1.toNatClampNeg), .int (c_HIGHEST a1.toNatClampNeg)]) (rest := []) (c_BF_isWithin hja h) kS_BF_42 rfl ⟨rfl, rfl⟩ ⟨Nat.le_of_ble_eq_true rfl, Nat.le_of_ble_eq_true rfl⟩ rfl (Nat.le_of_ble_eq_true rfl) ⟨Nat.zero_le _, Nat.zero_le _⟩ d_BF_set_20 (fun r4 M5 H locs h hI => ?_)
    refine lv_if_ne (tgt := 29) hx hb d_BF_set_23 (by decide) (fun c6 => ?_) (fun c6 => ?_)
    · have h := h.1 c6
      refine lv_aload_n hx hb d_BF_set_29 rfl (lv_at hl 0 rfl) ?_
      refine gw_get (v := .ref (ad 46)) C hI lay_0 i_BF rfl 1 (by decide) kw_1_233 rfl rfl d_BF_set_30 ?_
      refine lv_iload_n hx hb d_BF_set_33 rfl (lv_at hl 1 rfl) ?_
      refine gw_iald C hI lay_46 (j := a1.toNatClampNeg) rfl (v := M5.1 46 a1.toNatClampNeg) rfl g3 d_BF_set_34 ?_
      refine lv_istore_n (lv' := [(3, .int (M5.1 46 a1.toNatClampNeg)), (0, .ref (ad 0)), (1, .int a1), (2, .int a2)]) hx hb d_BF_set_35 rfl hl (by decide) rfl (fun ls hl => ?_)
      refine lv_aload_n hx hb d_BF_set_36 rfl (lv_at hl 1 rfl) ?_
      refine gw_get (v := .ref (ad 46)) C hI lay_0 i_BF rfl 1 (by decide) kw_1_233 rfl rfl d_BF_set_37 ?_
      refine lv_iload_n hx hb d_BF_set_40 rfl (lv_at hl 2 rfl) ?_
      refine lv_iload_n hx hb d_BF_set_41 rfl (lv_at hl 3 rfl) ?_
      refine gw_iast C hI lay_46 (j := a1.toNatClampNeg) rfl g3 d_BF_set_42 (fun H locs hI => ?_)
      refine lv_iload_n hx hb d_BF_set_43 rfl (lv_at hl 0 rfl) ?_
      exact gr_i C hI h d_BF_set_44
    · have h := h.2 c6
      exact L_BF_set_26 C h hI (lv_sub hl [] rfl)
set_option maxHeartbeats 4000000 in
set_option maxRecDepth 100000 in
theorem c_BF_clear {l : Launch} {D : va_G} {cy : Nat → ClassId} {ad : Nat → Nat} (hj : gJ ad) {M : gM} {Q : Int32 → gM → Prop} (h : wp_BF_clear Q M) : Ci l y_BF_clear b_BF_clear 2 (some .int) rm_BF_clear D cy ad [.ref (ad 0)] M Q := by
  refine gm (by decide +kernel) hj (Nat.le_of_ble_eq_true rfl) (fun p e s m args below meth c ls C hl hI => ?_)
  have hl : lv_has ls 2 [(0, .ref (ad 0))] := hl
  obtain ⟨hx, hb, hml, hown, hts, hr, hlk, hK, hja⟩ := id C
  refine lv_aload_n hx hb d_BF_clear_0 rfl (lv_at hl 0 rfl) ?_
  refine gw_get (v := .ref (ad 1)) C hI lay_0 i_BF rfl 0 (by decide) kw_1_232 rfl rfl d_BF_clear_1 ?_
  refine gw_get (v := .int (M.1 1 4)) C hI isTB_1.1 i_TB rfl 4 (by decide) kw_1_43 rfl rfl d_BF_clear_4 ?_
  refine lv_istore_n (lv' := [(1, .int (M.1 1 4)), (0, .ref (ad 0))]) hx hb d_BF_clear_7 rfl hl (by decide) rfl (fun ls hl => ?_)
  refine lv_aload_n hx hb d_BF_clear_8 rfl (lv_at hl 1 rfl) ?_
  refine gw_get (v := .ref (ad 1)) C hI lay_0 i_BF rfl 0 (by decide) kw_1_232 rfl rfl d_BF_clear_9 ?_
  refine lv_iconst (v := (0 : Int32)) hx hb d_BF_clear_12 (by decide) ?_
  refine gw_puti C hI isTB_1.1 i_TB rfl t_TB_ok n_TB 4 (by decide) kw_1_43 rfl rfl rfl rfl rfl d_BF_clear_13 (fun H locs hI => ?_)
  refine lv_iload_n hx hb d_BF_clear_16 rfl (lv_at hl 0 rfl) ?_
  exact gr_i C hI h d_BF_clear_17
set_option maxHeartbeats 4000000 in
set_option maxRecDepth 100000 in
theorem c_BF_train {l : Launch} {D : va_G} {cy : Nat → ClassId} {ad : Nat → Nat} (hj : gJ ad) {M : gM} {Q : Int32 → gM → Prop} (h : wp_BF_train Q M) : Ci l y_BF_train b_BF_train 1 (some .int) rm_BF_train D cy ad [.ref (ad 0)] M Q := by
  refine gm (by decide +kernel) hj (Nat.le_of_ble_eq_true rfl) (fun p e s m args below meth c ls C hl hI => ?_)
  have hl : lv_has ls 1 [(0, .ref (ad 0))] := hl
  obtain ⟨hx, hb, hml, hown, hts, hr, hlk, hK, hja⟩ := id C
  refine lv_aload_n hx hb d_BF_train_0 rfl (lv_at hl 0 rfl) ?_
  refine gw_get (v := .ref (ad 1)) C hI lay_0 i_BF rfl 0 (by decide) kw_1_232 rfl rfl d_BF_train_1 ?_
  refine gw_Vi C hI hl.1 (As := []) (rest := []) (c_TB_heldRows hja isTB_1 h) kV_BF_72 isTB_1.1 rfl rfl ⟨rfl, rfl⟩ ⟨Nat.le_of_ble_eq_true rfl, Nat.le_of_ble_eq_true rfl⟩ rfl (Nat.le_of_ble_eq_true rfl) ⟨Nat.zero_le _, Nat.zero_le _⟩ d_BF_train_4 (fun r1 M2 H locs h hI => ?_)
  refine lv_aload_n hx hb d_BF_train_7 rfl (lv_at hl 0 rfl) ?_
  refine gw_get (v := .ref (ad 1)) C hI lay_0 i_BF rfl 0 (by decide) kw_1_232 rfl rfl d_BF_train_8 ?_
  refine gw_get (v := .int (M2.1 1 4)) C hI isTB_1.1 i_TB rfl 4 (by decide) kw_1_43 rfl rfl d_BF_train_11 ?_
  refine lv_icmp_ne (tgt := 20) hx hb d_BF_train_14 (by decide) (fun c5 => ?_) (fun c5 => ?_)
  · have h := h.1 c5
    refine lv_aload_n hx hb d_BF_train_20 rfl (lv_at hl 0 rfl) ?_
    refine gw_get (v := .ref (ad 47)) C hI lay_0 i_BF rfl 2 (by decide) kw_1_234 rfl rfl d_BF_train_21 ?_
    refine lv_aload_n hx hb d_BF_train_24 rfl (lv_at hl 0 rfl) ?_
    refine gw_get (v := .ref (ad 1)) C hI lay_0 i_BF rfl 0 (by decide) kw_1_232 rfl rfl d_BF_train_25 ?_
    refine lv_aload_n hx hb d_BF_train_28 rfl (lv_at hl 0 rfl) ?_
    refine gw_get (v := .ref (ad 46)) C hI lay_0 i_BF rfl 1 (by decide) kw_1_233 rfl rfl d_BF_train_29 ?_
    refine gw_Vv C hI hl.1 (As := [.ref (ad 1), .ref (ad 46)]) (rest := []) (c_TG_run hja h) kV_BF_76 lay_47 rfl rfl ⟨rfl, rfl⟩ ⟨Nat.le_of_ble_eq_true rfl, Nat.le_of_ble_eq_true rfl⟩ rfl (Nat.le_of_ble_eq_true rfl) ⟨Nat.zero_le _, Nat.zero_le _⟩ d_BF_train_32 (fun M4 H locs h hI => ?_)
    refine lv_aload_n hx hb d_BF_train_35 rfl (lv_at hl 0 rfl) ?_
    refine gw_get (v := .ref (ad 47)) C hI lay_0 i_BF rfl 2 (by decide) kw_1_234 rfl rfl d_BF_train_36 ?_
    refine gw_get (v := .int (M4.1 47 9)) C hI lay_47 i_TG rfl 9 (by decide) kw_1_210 rfl rfl d_BF_train_39 ?_
    exact gr_i C hI h d_BF_train_42
  · have h := h.2 c5
    refine lv_bipush (v := (-2 : Int32)) hx hb d_BF_train_17 (by decide) ?_
    exact gr_i C hI h d_BF_train_19
set_option maxHeartbeats 4000000 in
set_option maxRecDepth 100000 in
theorem L_BF_isNode_37 {p : Program} {l : Launch} {e : Env} {s : State} {m : MethodId} {args : Array Value} {below : List Frame} {meth : Method} {c : Code} {D : va_G} {cy : Nat → ClassId} {ad : Nat → Nat} (C : Cx p s m args meth c b_BF_isNode 3 (some .boolean) "BoostForests" D cy ad) {Q : Int32 → gM → Prop} {M : gM} {H : Heap} {locs : List Loc} {ls : Array Slot} (h : wp_BF_isNode_37 Q M) (hI : gI D cy ad s M H locs) (hl : lv_has ls 3 []) : W p l e rm_BF_isNode s m args below meth c H locs 0 0 (MQ below (va_Qi Q (gB D cy ad) (gA ad s.heap.size)) args s 0 0 (gA ad s.heap.size)) (F0 m 37 ls []) := by
  obtain ⟨hx, hb, hml, hown, hts, hr, hlk, hK, hja⟩ := id C
  refine lv_iconst (v := (0 : Int32)) hx hb d_BF_isNode_37 (by decide) ?_
  exact gr_z C hI rfl h d_BF_isNode_38
set_option maxHeartbeats 4000000 in
set_option maxRecDepth 100000 in
theorem c_BF_isNode {l : Launch} {D : va_G} {cy : Nat → ClassId} {ad : Nat → Nat} (hj : gJ ad) {a1 : Int32} {a2 : Int32} {M : gM} {Q : Int32 → gM → Prop} (h : wp_BF_isNode Q a1 a2 M) : Ci l y_BF_isNode b_BF_isNode 3 (some .boolean) rm_BF_isNode D cy ad [.ref (ad 0), .int a1, .int a2] M Q := by
  refine gm (by decide +kernel) hj (Nat.le_of_ble_eq_true rfl) (fun p e s m args below meth c ls C hl hI => ?_)
  have hl : lv_has ls 3 [(0, .ref (ad 0)), (1, .int a1), (2, .int a2)] := hl
  obtain ⟨hx, hb, hml, hown, hts, hr, hlk, hK, hja⟩ := id C
  refine lv_iload_n hx hb d_BF_isNode_0 rfl (lv_at hl 1 rfl) ?_
  refine lv_aload_n hx hb d_BF_isNode_1 rfl (lv_at hl 0 rfl) ?_
  refine gw_get (v := .ref (ad 47)) C hI lay_0 i_BF rfl 2 (by decide) kw_1_234 rfl rfl d_BF_isNode_2 ?_
  refine gw_get (v := .int (M.1 47 9)) C hI lay_47 i_TG rfl 9 (by decide) kw_1_210 rfl rfl d_BF_isNode_5 ?_
  refine gw_Si C hI hl.1 (As := [.int a1, .int (M.1 47 9)]) (rest := []) (c_BF_isIndex hja h) kS_BF_58 rfl ⟨rfl, rfl⟩ ⟨Nat.le_of_ble_eq_true rfl, Nat.le_of_ble_eq_true rfl⟩ rfl (Nat.le_of_ble_eq_true rfl) ⟨Nat.zero_le _, Nat.zero_le _⟩ d_BF_isNode_8 (fun r1 M2 H locs h hI => ?_)
  refine lv_if_eq (tgt := 37) hx hb d_BF_isNode_11 (by decide) (fun c7 => ?_) (fun c7 => ?_)
  · have h := h.1 c7
    exact L_BF_isNode_37 C h hI (lv_sub hl [] rfl)
  · have h := h.2 c7
    refine lv_iload_n hx hb d_BF_isNode_14 rfl (lv_at hl 2 rfl) ?_
    refine lv_aload_n hx hb d_BF_isNode_15 rfl (lv_at hl 0 rfl) ?_
    refine gw_get (v := .ref (ad 47)) C hI lay_0 i_BF rfl 2 (by decide) kw_1_234 rfl rfl d_BF_isNode_16 ?_
    refine gw_get (v := .ref (ad 109)) C hI lay_47 i_TG rfl 3 (by decide) kw_1_200 rfl rfl d_BF_isNode_19 ?_
    refine lv_iload_n hx hb d_BF_isNode_22 rfl (lv_at hl 1 rfl) ?_
    obtain ⟨g3, h⟩ := h
    refine gw_aald C hI lay_109 rfl rfl (j := a1.toNatClampNeg) rfl (k' := (116 + 13 * a1.toNatClampNeg)) (by omega) g3 d_BF_isNode_23 ?_
    refine gw_get (v := .int (M2.1 (116 + 13 * a1.toNatClampNeg) 2)) C hI (isTR_at _ (vi_lt g3)).1 i_TR rfl 2 (by decide) kw_1_186 rfl rfl d_BF_isNode_24 ?_
    refine gw_Si C hI hl.1 (As := [.int a2, .int (M2.1 (116 + 13 * a1.toNatClampNeg) 2)]) (rest := []) (c_BF_isIndex hja h) kS_BF_58 rfl ⟨rfl, rfl⟩ ⟨Nat.le_of_ble_eq_true rfl, Nat.le_of_ble_eq_true rfl⟩ rfl (Nat.le_of_ble_eq_true rfl) ⟨Nat.zero_le _, Nat.zero_le _⟩ d_BF_isNode_27 (fun r4 M5 H locs h hI => ?_)
    refine lv_if_eq (tgt := 37) hx hb d_BF_isNode_30 (by decide) (fun c6 => ?_) (fun c6 => ?_)
    · have h := h.1 c6
      exact L_BF_isNode_37 C h hI (lv_sub hl [] rfl)
    · have h := h.2 c6
      refine lv_iconst (v := (1 : Int32)) hx hb d_BF_isNode_33 (by decide) ?_
      refine lv_goto (tgt := 38) hx hb d_BF_isNode_34 (by decide) ?_
      exact gr_z C hI rfl h d_BF_isNode_38
set_option maxHeartbeats 4000000 in
set_option maxRecDepth 100000 in
theorem L_BF_node_18 {p : Program} {l : Launch} {e : Env} {s : State} {m : MethodId} {args : Array Value} {below : List Frame} {meth : Method} {c : Code} {D : va_G} {cy : Nat → ClassId} {ad : Nat → Nat} (C : Cx p s m args meth c b_BF_node 4 (some .int) "BoostForests" D cy ad) {Q : Int32 → gM → Prop} {M : gM} {H : Heap} {locs : List Loc} {ls : Array Slot} (h : wp_BF_node_18 Q M) (hI : gI D cy ad s M H locs) (hl : lv_has ls 4 []) : W p l e rm_BF_node s m args below meth c H locs 0 0 (MQ below (va_Qi Q (gB D cy ad) (gA ad s.heap.size)) args s 0 0 (gA ad s.heap.size)) (F0 m 18 ls []) := by
  obtain ⟨hx, hb, hml, hown, hts, hr, hlk, hK, hja⟩ := id C
  refine lv_bipush (v := (-2 : Int32)) hx hb d_BF_node_18 (by decide) ?_
  exact gr_i C hI h d_BF_node_20
set_option maxHeartbeats 4000000 in
set_option maxRecDepth 100000 in
theorem c_BF_node {l : Launch} {D : va_G} {cy : Nat → ClassId} {ad : Nat → Nat} (hj : gJ ad) {a1 : Int32} {a2 : Int32} {a3 : Int32} {M : gM} {Q : Int32 → gM → Prop} (h : wp_BF_node Q a1 a2 a3 M) : Ci l y_BF_node b_BF_node 4 (some .int) rm_BF_node D cy ad [.ref (ad 0), .int a1, .int a2, .int a3] M Q := by
  refine gm (by decide +kernel) hj (Nat.le_of_ble_eq_true rfl) (fun p e s m args below meth c ls C hl hI => ?_)
  have hl : lv_has ls 4 [(0, .ref (ad 0)), (1, .int a1), (2, .int a2), (3, .int a3)] := hl
  obtain ⟨hx, hb, hml, hown, hts, hr, hlk, hK, hja⟩ := id C
  refine lv_aload_n hx hb d_BF_node_0 rfl (lv_at hl 0 rfl) ?_
  refine lv_iload_n hx hb d_BF_node_1 rfl (lv_at hl 1 rfl) ?_
  refine lv_iload_n hx hb d_BF_node_2 rfl (lv_at hl 2 rfl) ?_
  refine gw_Vi C hI hl.1 (As := [.int a1, .int a2]) (rest := []) (c_BF_isNode hja h) kV_BF_83 lay_0 rfl rfl ⟨rfl, rfl⟩ ⟨Nat.le_of_ble_eq_true rfl, Nat.le_of_ble_eq_true rfl⟩ rfl (Nat.le_of_ble_eq_true rfl) ⟨Nat.zero_le _, Nat.zero_le _⟩ d_BF_node_3 (fun r1 M2 H locs h hI => ?_)
  refine lv_if_eq (tgt := 18) hx hb d_BF_node_6 (by decide) (fun c9 => ?_) (fun c9 => ?_)
  · have h := h.1 c9
    exact L_BF_node_18 C h hI (lv_sub hl [] rfl)
  · have h := h.2 c9
    refine lv_iload_n hx hb d_BF_node_9 rfl (lv_at hl 3 rfl) ?_
    refine lv_bipush (v := (7 : Int32)) hx hb d_BF_node_10 (by decide) ?_
    refine gw_Si C hI hl.1 (As := [.int a3, .int (7 : Int32)]) (rest := []) (c_BF_isIndex hja h) kS_BF_58 rfl ⟨rfl, rfl⟩ ⟨Nat.le_of_ble_eq_true rfl, Nat.le_of_ble_eq_true rfl⟩ rfl (Nat.le_of_ble_eq_true rfl) ⟨Nat.zero_le _, Nat.zero_le _⟩ d_BF_node_12 (fun r3 M4 H locs h hI => ?_)
    refine lv_if_ne (tgt := 21) hx hb d_BF_node_15 (by decide) (fun c8 => ?_) (fun c8 => ?_)
    · have h := h.1 c8
      refine lv_aload_n hx hb d_BF_node_21 rfl (lv_at hl 0 rfl) ?_
      refine gw_get (v := .ref (ad 47)) C hI lay_0 i_BF rfl 2 (by decide) kw_1_234 rfl rfl d_BF_node_22 ?_
      refine gw_get (v := .ref (ad 109)) C hI lay_47 i_TG rfl 3 (by decide) kw_1_200 rfl rfl d_BF_node_25 ?_
      refine lv_iload_n hx hb d_BF_node_28 rfl (lv_at hl 1 rfl) ?_
      obtain ⟨g5, h⟩ := h
      refine gw_aald C hI lay_109 rfl rfl (j := a1.toNatClampNeg) rfl (k' := (116 + 13 * a1.toNatClampNeg)) (by omega) g5 d_BF_node_29 ?_
      refine gw_get (v := .ref (ad ((116 + 13 * a1.toNatClampNeg) + 1))) C hI (isTR_at _ (vi_lt g5)).1 i_TR rfl 0 (by decide) kw_1_179 rfl rfl d_BF_node_30 ?_
      refine lv_iload_n hx hb d_BF_node_33 rfl (lv_at hl 3 rfl) ?_
      obtain ⟨g6, h⟩ := h
      refine gw_aald C hI (isTR_at _ (vi_lt g5)).2.1 rfl rfl (j := a3.toNatClampNeg) rfl (k' := (116 + 13 * a1.toNatClampNeg) + 2 + a3.toNatClampNeg) (by omega) g6 d_BF_node_34 ?_
      refine lv_iload_n hx hb d_BF_node_35 rfl (lv_at hl 2 rfl) ?_
      obtain ⟨g7, h⟩ := h
      refine gw_iald C hI ((isTR_at _ (vi_lt g5)).2.2.1 _ (vi_lt g6)) (j := a2.toNatClampNeg) rfl (v := M4.1 ((116 + 13 * a1.toNatClampNeg) + 2 + a3.toNatClampNeg) a2.toNatClampNeg) rfl g7 d_BF_node_36 ?_
      exact gr_i C hI h d_BF_node_37
    · have h := h.2 c8
      exact L_BF_node_18 C h hI (lv_sub hl [] rfl)
set_option maxHeartbeats 4000000 in
set_option maxRecDepth 100000 in
theorem L_BF_sum_17 {p : Program} {l : Launch} {e : Env} {s : State} {m : MethodId} {args : Array Value} {below : List Frame} {meth : Method} {c : Code} {D : va_G} {cy : Nat → ClassId} {ad : Nat → Nat} (C : Cx p s m args meth c b_BF_sum 4 (some .long) "BoostForests" D cy ad) {Q : Int64 → gM → Prop} {M : gM} {H : Heap} {locs : List Loc} {ls : Array Slot} (h : wp_BF_sum_17 Q M) (hI : gI D cy ad s M H locs) (hl : lv_has ls 4 []) : W p l e rm_BF_sum s m args below meth c H locs 0 0 (MQ below (va_Ql Q (gB D cy ad) (gA ad s.heap.size)) args s 0 0 (gA ad s.heap.size)) (F0 m 17 ls []) := by
  obtain ⟨hx, hb, hml, hown, hts, hr, hlk, hK, hja⟩ := id C
  refine lv_lconst (v := 0) hx hb d_BF_sum_17 (by decide) ?_
  exact gr_l C hI h d_BF_sum_18
set_option maxHeartbeats 4000000 in
set_option maxRecDepth 100000 in
theorem c_BF_sum {l : Launch} {D : va_G} {cy : Nat → ClassId} {ad : Nat → Nat} (hj : gJ ad) {a1 : Int32} {a2 : Int32} {a3 : Int32} {M : gM} {Q : Int64 → gM → Prop} (h : wp_BF_sum Q a1 a2 a3 M) : Cl l y_BF_sum b_BF_sum 4 (some .long) rm_BF_sum D cy ad [.ref (ad 0), .int a1, .int a2, .int a3] M Q := by
  refine gm (by decide +kernel) hj (Nat.le_of_ble_eq_true rfl) (fun p e s m args below meth c ls C hl hI => ?_)
  have hl : lv_has ls 4 [(0, .ref (ad 0)), (1, .int a1), (2, .int a2), (3, .int a3)] := hl
  obtain ⟨hx, hb, hml, hown, hts, hr, hlk, hK, hja⟩ := id C
  refine lv_aload_n hx hb d_BF_sum_0 rfl (lv_at hl 0 rfl) ?_
  refine lv_iload_n hx hb d_BF_sum_1 rfl (lv_at hl 1 rfl) ?_
  refine lv_iload_n hx hb d_BF_sum_2 rfl (lv_at hl 2 rfl) ?_
  refine gw_Vi C hI hl.1 (As := [.int a1, .int a2]) (rest := []) (c_BF_isNode hja h) kV_BF_83 lay_0 rfl rfl ⟨rfl, rfl⟩ ⟨Nat.le_of_ble_eq_true rfl, Nat.le_of_ble_eq_true rfl⟩ rfl (Nat.le_of_ble_eq_true rfl) ⟨Nat.zero_le _, Nat.zero_le _⟩ d_BF_sum_3 (fun r1 M2 H locs h hI => ?_)
  refine lv_if_eq (tgt := 17) hx hb d_BF_sum_6 (by decide) (fun c9 => ?_) (fun c9 => ?_)
  · have h := h.1 c9
    exact L_BF_sum_17 C h hI (lv_sub hl [] rfl)
  · have h := h.2 c9
    refine lv_iload_n hx hb d_BF_sum_9 rfl (lv_at hl 3 rfl) ?_
    refine lv_iconst (v := (3 : Int32)) hx hb d_BF_sum_10 (by decide) ?_
    refine gw_Si C hI hl.1 (As := [.int a3, .int (3 : Int32)]) (rest := []) (c_BF_isIndex hja h) kS_BF_58 rfl ⟨rfl, rfl⟩ ⟨Nat.le_of_ble_eq_true rfl, Nat.le_of_ble_eq_true rfl⟩ rfl (Nat.le_of_ble_eq_true rfl) ⟨Nat.zero_le _, Nat.zero_le _⟩ d_BF_sum_11 (fun r3 M4 H locs h hI => ?_)
    refine lv_if_ne (tgt := 19) hx hb d_BF_sum_14 (by decide) (fun c8 => ?_) (fun c8 => ?_)
    · have h := h.1 c8
      refine lv_aload_n hx hb d_BF_sum_19 rfl (lv_at hl 0 rfl) ?_
      refine gw_get (v := .ref (ad 47)) C hI lay_0 i_BF rfl 2 (by decide) kw_1_234 rfl rfl d_BF_sum_20 ?_
      refine gw_get (v := .ref (ad 109)) C hI lay_47 i_TG rfl 3 (by decide) kw_1_200 rfl rfl d_BF_sum_23 ?_
      refine lv_iload_n hx hb d_BF_sum_26 rfl (lv_at hl 1 rfl) ?_
      obtain ⟨g5, h⟩ := h
      refine gw_aald C hI lay_109 rfl rfl (j := a1.toNatClampNeg) rfl (k' := (116 + 13 * a1.toNatClampNeg)) (by omega) g5 d_BF_sum_27 ?_
      refine gw_get (v := .ref (ad ((116 + 13 * a1.toNatClampNeg) + 9))) C hI (isTR_at _ (vi_lt g5)).1 i_TR rfl 1 (by decide) kw_1_182 rfl rfl d_BF_sum_28 ?_
      refine lv_iload_n hx hb d_BF_sum_31 rfl (lv_at hl 3 rfl) ?_
      obtain ⟨g6, h⟩ := h
      refine gw_aald C hI (isTR_at _ (vi_lt g5)).2.2.2.1 rfl rfl (j := a3.toNatClampNeg) rfl (k' := (116 + 13 * a1.toNatClampNeg) + 10 + a3.toNatClampNeg) (by omega) g6 d_BF_sum_32 ?_
      refine lv_iload_n hx hb d_BF_sum_33 rfl (lv_at hl 2 rfl) ?_
      obtain ⟨g7, h⟩ := h
      refine gw_lald C hI ((isTR_at _ (vi_lt g5)).2.2.2.2 _ (vi_lt g6)) (j := a2.toNatClampNeg) rfl (v := M4.2 ((116 + 13 * a1.toNatClampNeg) + 10 + a3.toNatClampNeg) a2.toNatClampNeg) rfl g7 d_BF_sum_34 ?_
      exact gr_l C hI h d_BF_sum_35
    · have h := h.2 c8
      exact L_BF_sum_17 C h hI (lv_sub hl [] rfl)
set_option maxHeartbeats 4000000 in
set_option maxRecDepth 100000 in
theorem c_BF_size {l : Launch} {D : va_G} {cy : Nat → ClassId} {ad : Nat → Nat} (hj : gJ ad) {a1 : Int32} {M : gM} {Q : Int32 → gM → Prop} (h : wp_BF_size Q a1 M) : Ci l y_BF_size b_BF_size 2 (some .int) rm_BF_size D cy ad [.ref (ad 0), .int a1] M Q := by
  refine gm (by decide +kernel) hj (Nat.le_of_ble_eq_true rfl) (fun p e s m args below meth c ls C hl hI => ?_)
  have hl : lv_has ls 2 [(0, .ref (ad 0)), (1, .int a1)] := hl
  obtain ⟨hx, hb, hml, hown, hts, hr, hlk, hK, hja⟩ := id C
  refine lv_iload_n hx hb d_BF_size_0 rfl (lv_at hl 1 rfl) ?_
  refine lv_aload_n hx hb d_BF_size_1 rfl (lv_at hl 0 rfl) ?_
  refine gw_get (v := .ref (ad 47)) C hI lay_0 i_BF rfl 2 (by decide) kw_1_234 rfl rfl d_BF_size_2 ?_
  refine gw_get (v := .int (M.1 47 9)) C hI lay_47 i_TG rfl 9 (by decide) kw_1_210 rfl rfl d_BF_size_5 ?_
  refine gw_Si C hI hl.1 (As := [.int a1, .int (M.1 47 9)]) (rest := []) (c_BF_isIndex hja h) kS_BF_58 rfl ⟨rfl, rfl⟩ ⟨Nat.le_of_ble_eq_true rfl, Nat.le_of_ble_eq_true rfl⟩ rfl (Nat.le_of_ble_eq_true rfl) ⟨Nat.zero_le _, Nat.zero_le _⟩ d_BF_size_8 (fun r1 M2 H locs h hI => ?_)
  refine lv_if_eq (tgt := 29) hx hb d_BF_size_11 (by decide) (fun c4 => ?_) (fun c4 => ?_)
  · have h := h.1 c4
    refine lv_bipush (v := (-2 : Int32)) hx hb d_BF_size_29 (by decide) ?_
    exact gr_i C hI h d_BF_size_31
  · have h := h.2 c4
    refine lv_aload_n hx hb d_BF_size_14 rfl (lv_at hl 0 rfl) ?_
    refine gw_get (v := .ref (ad 47)) C hI lay_0 i_BF rfl 2 (by decide) kw_1_234 rfl rfl d_BF_size_15 ?_
    refine gw_get (v := .ref (ad 109)) C hI lay_47 i_TG rfl 3 (by decide) kw_1_200 rfl rfl d_BF_size_18 ?_
    refine lv_iload_n hx hb d_BF_size_21 rfl (lv_at hl 1 rfl) ?_
    obtain ⟨g3, h⟩ := h
    refine gw_aald C hI lay_109 rfl rfl (j := a1.toNatClampNeg) rfl (k' := (116 + 13 * a1.toNatClampNeg)) (by omega) g3 d_BF_size_22 ?_
    refine gw_get (v := .int (M2.1 (116 + 13 * a1.toNatClampNeg) 2)) C hI (isTR_at _ (vi_lt g3)).1 i_TR rfl 2 (by decide) kw_1_186 rfl rfl d_BF_size_23 ?_
    refine lv_goto (tgt := 31) hx hb d_BF_size_26 (by decide) ?_
    exact gr_i C hI h d_BF_size_31
set_option maxHeartbeats 4000000 in
set_option maxRecDepth 100000 in
theorem L_BF_leaf_26 {p : Program} {l : Launch} {e : Env} {s : State} {m : MethodId} {args : Array Value} {below : List Frame} {meth : Method} {c : Code} {D : va_G} {cy : Nat → ClassId} {ad : Nat → Nat} (C : Cx p s m args meth c b_BF_leaf 6 (some .int) "BoostForests" D cy ad) {Q : Int32 → gM → Prop} {M : gM} {H : Heap} {locs : List Loc} {ls : Array Slot} (h : wp_BF_leaf_26 Q M) (hI : gI D cy ad s M H locs) (hl : lv_has ls 6 []) : W p l e rm_BF_leaf s m args below meth c H locs 0 0 (MQ below (va_Qi Q (gB D cy ad) (gA ad s.heap.size)) args s 0 0 (gA ad s.heap.size)) (F0 m 26 ls []) := by
  obtain ⟨hx, hb, hml, hown, hts, hr, hlk, hK, hja⟩ := id C
  refine lv_bipush (v := (-2 : Int32)) hx hb d_BF_leaf_26 (by decide) ?_
  exact gr_i C hI h d_BF_leaf_28
set_option maxHeartbeats 4000000 in
set_option maxRecDepth 100000 in
theorem c_BF_leaf {l : Launch} {D : va_G} {cy : Nat → ClassId} {ad : Nat → Nat} (hj : gJ ad) {a1 : Int32} {a2 : Int32} {a3 : Int32} {a4 : Int32} {a5 : Int32} {M : gM} {Q : Int32 → gM → Prop} (h : wp_BF_leaf Q a1 a2 a3 a4 a5 M) : Ci l y_BF_leaf b_BF_leaf 6 (some .int) rm_BF_leaf D cy ad [.ref (ad 0), .int a1, .int a2, .int a3, .int a4, .int a5] M Q := by
  refine gm (by decide +kernel) hj (Nat.le_of_ble_eq_true rfl) (fun p e s m args below meth c ls C hl hI => ?_)
  have hl : lv_has ls 6 [(0, .ref (ad 0)), (1, .int a1), (2, .int a2), (3, .int a3), (4, .int a4), (5, .int a5)] := hl
  obtain ⟨hx, hb, hml, hown, hts, hr, hlk, hK, hja⟩ := id C
  refine lv_iload_n hx hb d_BF_leaf_0 rfl (lv_at hl 1 rfl) ?_
  refine lv_aload_n hx hb d_BF_leaf_1 rfl (lv_at hl 0 rfl) ?_
  refine gw_get (v := .ref (ad 47)) C hI lay_0 i_BF rfl 2 (by decide) kw_1_234 rfl rfl d_BF_leaf_2 ?_
  refine gw_get (v := .int (M.1 47 9)) C hI lay_47 i_TG rfl 9 (by decide) kw_1_210 rfl rfl d_BF_leaf_5 ?_
  refine gw_Si C hI hl.1 (As := [.int a1, .int (M.1 47 9)]) (rest := []) (c_BF_isIndex hja h) kS_BF_58 rfl ⟨rfl, rfl⟩ ⟨Nat.le_of_ble_eq_true rfl, Nat.le_of_ble_eq_true rfl⟩ rfl (Nat.le_of_ble_eq_true rfl) ⟨Nat.zero_le _, Nat.zero_le _⟩ d_BF_leaf_8 (fun r1 M2 H locs h hI => ?_)
  refine lv_if_eq (tgt := 26) hx hb d_BF_leaf_11 (by decide) (fun c11 => ?_) (fun c11 => ?_)
  · have h := h.1 c11
    exact L_BF_leaf_26 C h hI (lv_sub hl [] rfl)
  · have h := h.2 c11
    refine lv_iload_n hx hb d_BF_leaf_14 rfl (lv_at hl 2 rfl) ?_
    refine lv_iload_n hx hb d_BF_leaf_15 rfl (lv_at hl 3 rfl) ?_
    refine lv_iload hx hb d_BF_leaf_16 (lv_at hl 4 rfl) ?_
    refine lv_iload hx hb d_BF_leaf_18 (lv_at hl 5 rfl) ?_
    refine gw_Si C hI hl.1 (As := [.int a2, .int a3, .int a4, .int a5]) (rest := []) (c_BF_areCells hja h) kS_BF_38 rfl ⟨rfl, rfl⟩ ⟨Nat.le_of_ble_eq_true rfl, Nat.le_of_ble_eq_true rfl⟩ rfl (Nat.le_of_ble_eq_true rfl) ⟨Nat.zero_le _, Nat.zero_le _⟩ d_BF_leaf_20 (fun r3 M4 H locs h hI => ?_)
    refine lv_if_ne (tgt := 29) hx hb d_BF_leaf_23 (by decide) (fun c10 => ?_) (fun c10 => ?_)
    · have h := h.1 c10
      refine lv_aload_n hx hb d_BF_leaf_29 rfl (lv_at hl 0 rfl) ?_
      refine lv_iload_n hx hb d_BF_leaf_30 rfl (lv_at hl 2 rfl) ?_
      refine lv_iload_n hx hb d_BF_leaf_31 rfl (lv_at hl 3 rfl) ?_
      refine lv_iload hx hb d_BF_leaf_32 (lv_at hl 4 rfl) ?_
      refine lv_iload hx hb d_BF_leaf_34 (lv_at hl 5 rfl) ?_
      refine gw_Vv C hI hl.1 (As := [.int a2, .int a3, .int a4, .int a5]) (rest := []) (c_BF_keepAsked hja h) kV_BF_46 lay_0 rfl rfl ⟨rfl, rfl⟩ ⟨Nat.le_of_ble_eq_true rfl, Nat.le_of_ble_eq_true rfl⟩ rfl (Nat.le_of_ble_eq_true rfl) ⟨Nat.zero_le _, Nat.zero_le _⟩ d_BF_leaf_36 (fun M6 H locs h hI => ?_)
      refine lv_aload_n hx hb d_BF_leaf_39 rfl (lv_at hl 0 rfl) ?_
      refine gw_get (v := .ref (ad 47)) C hI lay_0 i_BF rfl 2 (by decide) kw_1_234 rfl rfl d_BF_leaf_40 ?_
      refine gw_get (v := .ref (ad 109)) C hI lay_47 i_TG rfl 3 (by decide) kw_1_200 rfl rfl d_BF_leaf_43 ?_
      refine lv_iload_n hx hb d_BF_leaf_46 rfl (lv_at hl 1 rfl) ?_
      obtain ⟨g7, h⟩ := h
      refine gw_aald C hI lay_109 rfl rfl (j := a1.toNatClampNeg) rfl (k' := (116 + 13 * a1.toNatClampNeg)) (by omega) g7 d_BF_leaf_47 ?_
      refine lv_aload_n hx hb d_BF_leaf_48 rfl (lv_at hl 0 rfl) ?_
      refine gw_get (v := .ref (ad 272)) C hI lay_0 i_BF rfl 3 (by decide) kw_1_235 rfl rfl d_BF_leaf_49 ?_
      refine gw_Vi C hI hl.1 (As := [.ref (ad 272)]) (rest := []) (c_TR_leafOf hja (isTR_at _ (vi_lt g7)) lay_272 h) kV_BF_103 (isTR_at _ (vi_lt g7)).1 rfl rfl ⟨rfl, rfl⟩ ⟨Nat.le_of_ble_eq_true rfl, Nat.le_of_ble_eq_true rfl⟩ rfl (Nat.le_of_ble_eq_true rfl) ⟨Nat.zero_le _, Nat.zero_le _⟩ d_BF_leaf_52 (fun r8 M9 H locs h hI => ?_)
      exact gr_i C hI h d_BF_leaf_55
    · have h := h.2 c10
      exact L_BF_leaf_26 C h hI (lv_sub hl [] rfl)
set_option maxHeartbeats 4000000 in
set_option maxRecDepth 100000 in
theorem L_BF_answer_37 {p : Program} {l : Launch} {e : Env} {s : State} {m : MethodId} {args : Array Value} {below : List Frame} {meth : Method} {c : Code} {D : va_G} {cy : Nat → ClassId} {ad : Nat → Nat} (C : Cx p s m args meth c b_BF_answer 6 (some .long) "BoostForests" D cy ad) {Q : Int64 → gM → Prop} {M : gM} {H : Heap} {locs : List Loc} {ls : Array Slot} (h : wp_BF_answer_37 Q M) (hI : gI D cy ad s M H locs) (hl : lv_has ls 6 []) : W p l e rm_BF_answer s m args below meth c H locs 0 0 (MQ below (va_Ql Q (gB D cy ad) (gA ad s.heap.size)) args s 0 0 (gA ad s.heap.size)) (F0 m 37 ls []) := by
  obtain ⟨hx, hb, hml, hown, hts, hr, hlk, hK, hja⟩ := id C
  refine lv_lconst (v := 0) hx hb d_BF_answer_37 (by decide) ?_
  exact gr_l C hI h d_BF_answer_38
set_option maxHeartbeats 4000000 in
set_option maxRecDepth 100000 in
theorem c_BF_answer {l : Launch} {D : va_G} {cy : Nat → ClassId} {ad : Nat → Nat} (hj : gJ ad) {a1 : Int32} {a2 : Int32} {a3 : Int32} {a4 : Int32} {a5 : Int32} {M : gM} {Q : Int64 → gM → Prop} (h : wp_BF_answer Q a1 a2 a3 a4 a5 M) : Cl l y_BF_answer b_BF_answer 6 (some .long) rm_BF_answer D cy ad [.ref (ad 0), .int a1, .int a2, .int a3, .int a4, .int a5] M Q := by
  refine gm (by decide +kernel) hj (Nat.le_of_ble_eq_true rfl) (fun p e s m args below meth c ls C hl hI => ?_)
  have hl : lv_has ls 6 [(0, .ref (ad 0)), (1, .int a1), (2, .int a2), (3, .int a3), (4, .int a4), (5, .int a5)] := hl
  obtain ⟨hx, hb, hml, hown, hts, hr, hlk, hK, hja⟩ := id C
  refine lv_aload_n hx hb d_BF_answer_0 rfl (lv_at hl 0 rfl) ?_
  refine gw_get (v := .ref (ad 47)) C hI lay_0 i_BF rfl 2 (by decide) kw_1_234 rfl rfl d_BF_answer_1 ?_
  refine gw_get (v := .int (M.1 47 8)) C hI lay_47 i_TG rfl 8 (by decide) kw_1_208 rfl rfl d_BF_answer_4 ?_
  refine lv_if_eq (tgt := 37) hx hb d_BF_answer_7 (by decide) (fun c11 => ?_) (fun c11 => ?_)
  · have h := h.1 c11
    exact L_BF_answer_37 C h hI (lv_sub hl [] rfl)
  · have h := h.2 c11
    refine lv_iload_n hx hb d_BF_answer_10 rfl (lv_at hl 1 rfl) ?_
    refine lv_iconst (v := (0 : Int32)) hx hb d_BF_answer_11 (by decide) ?_
    refine lv_aload_n hx hb d_BF_answer_12 rfl (lv_at hl 0 rfl) ?_
    refine gw_get (v := .ref (ad 47)) C hI lay_0 i_BF rfl 2 (by decide) kw_1_234 rfl rfl d_BF_answer_13 ?_
    refine gw_get (v := .int (M.1 47 9)) C hI lay_47 i_TG rfl 9 (by decide) kw_1_210 rfl rfl d_BF_answer_16 ?_
    refine gw_Si C hI hl.1 (As := [.int a1, .int (0 : Int32), .int (M.1 47 9)]) (rest := []) (c_BF_isWithin hja h) kS_BF_42 rfl ⟨rfl, rfl⟩ ⟨Nat.le_of_ble_eq_true rfl, Nat.le_of_ble_eq_true rfl⟩ rfl (Nat.le_of_ble_eq_true rfl) ⟨Nat.zero_le _, Nat.zero_le _⟩ d_BF_answer_19 (fun r1 M2 H locs h hI => ?_)
    refine lv_if_eq (tgt := 37) hx hb d_BF_answer_22 (by decide) (fun c10 => ?_) (fun c10 => ?_)
    · have h := h.1 c10
      exact L_BF_answer_37 C h hI (lv_sub hl [] rfl)
    · have h := h.2 c10
      refine lv_iload_n hx hb d_BF_answer_25 rfl (lv_at hl 2 rfl) ?_
      refine lv_iload_n hx hb d_BF_answer_26 rfl (lv_at hl 3 rfl) ?_
      refine lv_iload hx hb d_BF_answer_27 (lv_at hl 4 rfl) ?_
      refine lv_iload hx hb d_BF_answer_29 (lv_at hl 5 rfl) ?_
      refine gw_Si C hI hl.1 (As := [.int a2, .int a3, .int a4, .int a5]) (rest := []) (c_BF_areCells hja h) kS_BF_38 rfl ⟨rfl, rfl⟩ ⟨Nat.le_of_ble_eq_true rfl, Nat.le_of_ble_eq_true rfl⟩ rfl (Nat.le_of_ble_eq_true rfl) ⟨Nat.zero_le _, Nat.zero_le _⟩ d_BF_answer_31 (fun r3 M4 H locs h hI => ?_)
      refine lv_if_ne (tgt := 39) hx hb d_BF_answer_34 (by decide) (fun c9 => ?_) (fun c9 => ?_)
      · have h := h.1 c9
        refine lv_aload_n hx hb d_BF_answer_39 rfl (lv_at hl 0 rfl) ?_
        refine lv_iload_n hx hb d_BF_answer_40 rfl (lv_at hl 2 rfl) ?_
        refine lv_iload_n hx hb d_BF_answer_41 rfl (lv_at hl 3 rfl) ?_
        refine lv_iload hx hb d_BF_answer_42 (lv_at hl 4 rfl) ?_
        refine lv_iload hx hb d_BF_answer_44 (lv_at hl 5 rfl) ?_
        refine gw_Vv C hI hl.1 (As := [.int a2, .int a3, .int a4, .int a5]) (rest := []) (c_BF_keepAsked hja h) kV_BF_46 lay_0 rfl rfl ⟨rfl, rfl⟩ ⟨Nat.le_of_ble_eq_true rfl, Nat.le_of_ble_eq_true rfl⟩ rfl (Nat.le_of_ble_eq_true rfl) ⟨Nat.zero_le _, Nat.zero_le _⟩ d_BF_answer_46 (fun M6 H locs h hI => ?_)
        refine lv_aload_n hx hb d_BF_answer_49 rfl (lv_at hl 0 rfl) ?_
        refine gw_get (v := .ref (ad 47)) C hI lay_0 i_BF rfl 2 (by decide) kw_1_234 rfl rfl d_BF_answer_50 ?_
        refine lv_iload_n hx hb d_BF_answer_53 rfl (lv_at hl 1 rfl) ?_
        refine lv_aload_n hx hb d_BF_answer_54 rfl (lv_at hl 0 rfl) ?_
        refine gw_get (v := .ref (ad 272)) C hI lay_0 i_BF rfl 3 (by decide) kw_1_235 rfl rfl d_BF_answer_55 ?_
        refine gw_Vl C hI hl.1 (As := [.int a1, .ref (ad 272)]) (rest := []) (c_TG_answerBy hja h) kV_BF_111 lay_47 rfl rfl ⟨rfl, rfl⟩ ⟨Nat.le_of_ble_eq_true rfl, Nat.le_of_ble_eq_true rfl⟩ rfl (Nat.le_of_ble_eq_true rfl) ⟨Nat.zero_le _, Nat.zero_le _⟩ d_BF_answer_58 (fun r7 M8 H locs h hI => ?_)
        exact gr_l C hI h d_BF_answer_61
      · have h := h.2 c9
        exact L_BF_answer_37 C h hI (lv_sub hl [] rfl)
set_option maxHeartbeats 4000000 in
set_option maxRecDepth 100000 in
theorem L_BF_loss_34 {p : Program} {l : Launch} {e : Env} {s : State} {m : MethodId} {args : Array Value} {below : List Frame} {meth : Method} {c : Code} {D : va_G} {cy : Nat → ClassId} {ad : Nat → Nat} (C : Cx p s m args meth c b_BF_loss 3 (some .long) "BoostForests" D cy ad) {Q : Int64 → gM → Prop} {M : gM} {H : Heap} {locs : List Loc} {ls : Array Slot} (h : wp_BF_loss_34 Q M) (hI : gI D cy ad s M H locs) (hl : lv_has ls 3 []) : W p l e rm_BF_loss s m args below meth c H locs 0 0 (MQ below (va_Ql Q (gB D cy ad) (gA ad s.heap.size)) args s 0 0 (gA ad s.heap.size)) (F0 m 34 ls []) := by
  obtain ⟨hx, hb, hml, hown, hts, hr, hlk, hK, hja⟩ := id C
  refine lv_ldc2 hx hb hown (hts _ kw_2_232) d_BF_loss_34 ?_
  exact gr_l C hI h d_BF_loss_37
set_option maxHeartbeats 4000000 in
set_option maxRecDepth 100000 in
theorem c_BF_loss {l : Launch} {D : va_G} {cy : Nat → ClassId} {ad : Nat → Nat} (hj : gJ ad) {a1 : Int32} {a2 : Int32} {M : gM} {Q : Int64 → gM → Prop} (h : wp_BF_loss Q a1 a2 M) : Cl l y_BF_loss b_BF_loss 3 (some .long) rm_BF_loss D cy ad [.ref (ad 0), .int a1, .int a2] M Q := by
  refine gm (by decide +kernel) hj (Nat.le_of_ble_eq_true rfl) (fun p e s m args below meth c ls C hl hI => ?_)
  have hl : lv_has ls 3 [(0, .ref (ad 0)), (1, .int a1), (2, .int a2)] := hl
  obtain ⟨hx, hb, hml, hown, hts, hr, hlk, hK, hja⟩ := id C
  refine lv_aload_n hx hb d_BF_loss_0 rfl (lv_at hl 0 rfl) ?_
  refine gw_get (v := .ref (ad 47)) C hI lay_0 i_BF rfl 2 (by decide) kw_1_234 rfl rfl d_BF_loss_1 ?_
  refine gw_get (v := .int (M.1 47 8)) C hI lay_47 i_TG rfl 8 (by decide) kw_1_208 rfl rfl d_BF_loss_4 ?_
  refine lv_if_eq (tgt := 34) hx hb d_BF_loss_7 (by decide) (fun c9 => ?_) (fun c9 => ?_)
  · have h := h.1 c9
    exact L_BF_loss_34 C h hI (lv_sub hl [] rfl)
  · have h := h.2 c9
    refine lv_iload_n hx hb d_BF_loss_10 rfl (lv_at hl 1 rfl) ?_
    refine lv_iconst (v := (0 : Int32)) hx hb d_BF_loss_11 (by decide) ?_
    refine lv_aload_n hx hb d_BF_loss_12 rfl (lv_at hl 0 rfl) ?_
    refine gw_get (v := .ref (ad 47)) C hI lay_0 i_BF rfl 2 (by decide) kw_1_234 rfl rfl d_BF_loss_13 ?_
    refine gw_get (v := .int (M.1 47 9)) C hI lay_47 i_TG rfl 9 (by decide) kw_1_210 rfl rfl d_BF_loss_16 ?_
    refine gw_Si C hI hl.1 (As := [.int a1, .int (0 : Int32), .int (M.1 47 9)]) (rest := []) (c_BF_isWithin hja h) kS_BF_42 rfl ⟨rfl, rfl⟩ ⟨Nat.le_of_ble_eq_true rfl, Nat.le_of_ble_eq_true rfl⟩ rfl (Nat.le_of_ble_eq_true rfl) ⟨Nat.zero_le _, Nat.zero_le _⟩ d_BF_loss_19 (fun r1 M2 H locs h hI => ?_)
    refine lv_if_eq (tgt := 34) hx hb d_BF_loss_22 (by decide) (fun c8 => ?_) (fun c8 => ?_)
    · have h := h.1 c8
      exact L_BF_loss_34 C h hI (lv_sub hl [] rfl)
    · have h := h.2 c8
      refine lv_iload_n hx hb d_BF_loss_25 rfl (lv_at hl 2 rfl) ?_
      refine lv_iconst (v := (0 : Int32)) hx hb d_BF_loss_26 (by decide) ?_
      refine lv_iconst (v := (1 : Int32)) hx hb d_BF_loss_27 (by decide) ?_
      refine gw_Si C hI hl.1 (As := [.int a2, .int (0 : Int32), .int (1 : Int32)]) (rest := []) (c_BF_isWithin hja h) kS_BF_42 rfl ⟨rfl, rfl⟩ ⟨Nat.le_of_ble_eq_true rfl, Nat.le_of_ble_eq_true rfl⟩ rfl (Nat.le_of_ble_eq_true rfl) ⟨Nat.zero_le _, Nat.zero_le _⟩ d_BF_loss_28 (fun r3 M4 H locs h hI => ?_)
      refine lv_if_ne (tgt := 38) hx hb d_BF_loss_31 (by decide) (fun c7 => ?_) (fun c7 => ?_)
      · have h := h.1 c7
        refine lv_aload_n hx hb d_BF_loss_38 rfl (lv_at hl 0 rfl) ?_
        refine gw_get (v := .ref (ad 47)) C hI lay_0 i_BF rfl 2 (by decide) kw_1_234 rfl rfl d_BF_loss_39 ?_
        refine gw_get (v := .ref (ad 112)) C hI lay_47 i_TG rfl 6 (by decide) kw_1_205 rfl rfl d_BF_loss_42 ?_
        refine lv_iload_n hx hb d_BF_loss_45 rfl (lv_at hl 2 rfl) ?_
        obtain ⟨g5, h⟩ := h
        refine gw_aald C hI lay_112 rfl rfl (j := a2.toNatClampNeg) rfl (k' := 113 + a2.toNatClampNeg) (by omega) g5 d_BF_loss_46 ?_
        refine lv_iload_n hx hb d_BF_loss_47 rfl (lv_at hl 1 rfl) ?_
        obtain ⟨g6, h⟩ := h
        refine gw_lald C hI (lay_losses _ (vi_lt g5)) (j := a1.toNatClampNeg) rfl (v := M4.2 (113 + a2.toNatClampNeg) a1.toNatClampNeg) rfl g6 d_BF_loss_48 ?_
        exact gr_l C hI h d_BF_loss_49
      · have h := h.2 c7
        exact L_BF_loss_34 C h hI (lv_sub hl [] rfl)
set_option maxHeartbeats 4000000 in
set_option maxRecDepth 100000 in
theorem c_BF_best {l : Launch} {D : va_G} {cy : Nat → ClassId} {ad : Nat → Nat} (hj : gJ ad) {M : gM} {Q : Int32 → gM → Prop} (h : wp_BF_best Q M) : Ci l y_BF_best b_BF_best 1 (some .int) rm_BF_best D cy ad [.ref (ad 0)] M Q := by
  refine gm (by decide +kernel) hj (Nat.le_of_ble_eq_true rfl) (fun p e s m args below meth c ls C hl hI => ?_)
  have hl : lv_has ls 1 [(0, .ref (ad 0))] := hl
  obtain ⟨hx, hb, hml, hown, hts, hr, hlk, hK, hja⟩ := id C
  refine lv_aload_n hx hb d_BF_best_0 rfl (lv_at hl 0 rfl) ?_
  refine gw_get (v := .ref (ad 47)) C hI lay_0 i_BF rfl 2 (by decide) kw_1_234 rfl rfl d_BF_best_1 ?_
  refine gw_get (v := .int (M.1 47 8)) C hI lay_47 i_TG rfl 8 (by decide) kw_1_208 rfl rfl d_BF_best_4 ?_
  refine lv_if_eq (tgt := 20) hx hb d_BF_best_7 (by decide) (fun c3 => ?_) (fun c3 => ?_)
  · have h := h.1 c3
    refine lv_bipush (v := (-2 : Int32)) hx hb d_BF_best_20 (by decide) ?_
    exact gr_i C hI h d_BF_best_22
  · have h := h.2 c3
    refine lv_aload_n hx hb d_BF_best_10 rfl (lv_at hl 0 rfl) ?_
    refine gw_get (v := .ref (ad 47)) C hI lay_0 i_BF rfl 2 (by decide) kw_1_234 rfl rfl d_BF_best_11 ?_
    refine gw_Vi C hI hl.1 (As := []) (rest := []) (c_TG_treesOfLeastLoss hja h) kV_BF_120 lay_47 rfl rfl ⟨rfl, rfl⟩ ⟨Nat.le_of_ble_eq_true rfl, Nat.le_of_ble_eq_true rfl⟩ rfl (Nat.le_of_ble_eq_true rfl) ⟨Nat.zero_le _, Nat.zero_le _⟩ d_BF_best_14 (fun r1 M2 H locs h hI => ?_)
    refine lv_goto (tgt := 22) hx hb d_BF_best_17 (by decide) ?_
    exact gr_i C hI h d_BF_best_22
set_option maxHeartbeats 4000000 in
set_option maxRecDepth 100000 in
theorem L_BF_isTrainedRow_31 {p : Program} {l : Launch} {e : Env} {s : State} {m : MethodId} {args : Array Value} {below : List Frame} {meth : Method} {c : Code} {D : va_G} {cy : Nat → ClassId} {ad : Nat → Nat} (C : Cx p s m args meth c b_BF_isTrainedRow 2 (some .boolean) "BoostForests" D cy ad) {Q : Int32 → gM → Prop} {M : gM} {H : Heap} {locs : List Loc} {ls : Array Slot} (h : wp_BF_isTrainedRow_31 Q M) (hI : gI D cy ad s M H locs) (hl : lv_has ls 2 []) : W p l e rm_BF_isTrainedRow s m args below meth c H locs 0 0 (MQ below (va_Qi Q (gB D cy ad) (gA ad s.heap.size)) args s 0 0 (gA ad s.heap.size)) (F0 m 31 ls []) := by
  obtain ⟨hx, hb, hml, hown, hts, hr, hlk, hK, hja⟩ := id C
  refine lv_iconst (v := (0 : Int32)) hx hb d_BF_isTrainedRow_31 (by decide) ?_
  exact gr_z C hI rfl h d_BF_isTrainedRow_32
set_option maxHeartbeats 4000000 in
set_option maxRecDepth 100000 in
theorem c_BF_isTrainedRow {l : Launch} {D : va_G} {cy : Nat → ClassId} {ad : Nat → Nat} (hj : gJ ad) {a1 : Int32} {M : gM} {Q : Int32 → gM → Prop} (h : wp_BF_isTrainedRow Q a1 M) : Ci l y_BF_isTrainedRow b_BF_isTrainedRow 2 (some .boolean) rm_BF_isTrainedRow D cy ad [.ref (ad 0), .int a1] M Q := by
  refine gm (by decide +kernel) hj (Nat.le_of_ble_eq_true rfl) (fun p e s m args below meth c ls C hl hI => ?_)
  have hl : lv_has ls 2 [(0, .ref (ad 0)), (1, .int a1)] := hl
  obtain ⟨hx, hb, hml, hown, hts, hr, hlk, hK, hja⟩ := id C
  refine lv_aload_n hx hb d_BF_isTrainedRow_0 rfl (lv_at hl 0 rfl) ?_
  refine gw_get (v := .ref (ad 47)) C hI lay_0 i_BF rfl 2 (by decide) kw_1_234 rfl rfl d_BF_isTrainedRow_1 ?_
  refine gw_get (v := .int (M.1 47 8)) C hI lay_47 i_TG rfl 8 (by decide) kw_1_208 rfl rfl d_BF_isTrainedRow_4 ?_
  refine lv_if_eq (tgt := 31) hx hb d_BF_isTrainedRow_7 (by decide) (fun c4 => ?_) (fun c4 => ?_)
  · have h := h.1 c4
    exact L_BF_isTrainedRow_31 C h hI (lv_sub hl [] rfl)
  · have h := h.2 c4
    refine lv_iload_n hx hb d_BF_isTrainedRow_10 rfl (lv_at hl 1 rfl) ?_
    refine lv_aload_n hx hb d_BF_isTrainedRow_11 rfl (lv_at hl 0 rfl) ?_
    refine gw_get (v := .ref (ad 47)) C hI lay_0 i_BF rfl 2 (by decide) kw_1_234 rfl rfl d_BF_isTrainedRow_12 ?_
    refine gw_get (v := .ref (ad 49)) C hI lay_47 i_TG rfl 1 (by decide) kw_1_197 rfl rfl d_BF_isTrainedRow_15 ?_
    refine gw_get (v := .int (M.1 49 4)) C hI isTB_49.1 i_TB rfl 4 (by decide) kw_1_43 rfl rfl d_BF_isTrainedRow_18 ?_
    refine gw_Si C hI hl.1 (As := [.int a1, .int (M.1 49 4)]) (rest := []) (c_BF_isIndex hja h) kS_BF_58 rfl ⟨rfl, rfl⟩ ⟨Nat.le_of_ble_eq_true rfl, Nat.le_of_ble_eq_true rfl⟩ rfl (Nat.le_of_ble_eq_true rfl) ⟨Nat.zero_le _, Nat.zero_le _⟩ d_BF_isTrainedRow_21 (fun r1 M2 H locs h hI => ?_)
    refine lv_if_eq (tgt := 31) hx hb d_BF_isTrainedRow_24 (by decide) (fun c3 => ?_) (fun c3 => ?_)
    · have h := h.1 c3
      exact L_BF_isTrainedRow_31 C h hI (lv_sub hl [] rfl)
    · have h := h.2 c3
      refine lv_iconst (v := (1 : Int32)) hx hb d_BF_isTrainedRow_27 (by decide) ?_
      refine lv_goto (tgt := 32) hx hb d_BF_isTrainedRow_28 (by decide) ?_
      exact gr_z C hI rfl h d_BF_isTrainedRow_32
set_option maxHeartbeats 4000000 in
set_option maxRecDepth 100000 in
theorem c_BF_without {l : Launch} {D : va_G} {cy : Nat → ClassId} {ad : Nat → Nat} (hj : gJ ad) {a1 : Int32} {M : gM} {Q : Int64 → gM → Prop} (h : wp_BF_without Q a1 M) : Cl l y_BF_without b_BF_without 2 (some .long) rm_BF_without D cy ad [.ref (ad 0), .int a1] M Q := by
  refine gm (by decide +kernel) hj (Nat.le_of_ble_eq_true rfl) (fun p e s m args below meth c ls C hl hI => ?_)
  have hl : lv_has ls 2 [(0, .ref (ad 0)), (1, .int a1)] := hl
  obtain ⟨hx, hb, hml, hown, hts, hr, hlk, hK, hja⟩ := id C
  refine lv_aload_n hx hb d_BF_without_0 rfl (lv_at hl 0 rfl) ?_
  refine lv_iload_n hx hb d_BF_without_1 rfl (lv_at hl 1 rfl) ?_
  refine gw_Vi C hI hl.1 (As := [.int a1]) (rest := []) (c_BF_isTrainedRow hja h) kV_BF_123 lay_0 rfl rfl ⟨rfl, rfl⟩ ⟨Nat.le_of_ble_eq_true rfl, Nat.le_of_ble_eq_true rfl⟩ rfl (Nat.le_of_ble_eq_true rfl) ⟨Nat.zero_le _, Nat.zero_le _⟩ d_BF_without_2 (fun r1 M2 H locs h hI => ?_)
  refine lv_if_eq (tgt := 19) hx hb d_BF_without_5 (by decide) (fun c5 => ?_) (fun c5 => ?_)
  · have h := h.1 c5
    refine lv_lconst (v := 0) hx hb d_BF_without_19 (by decide) ?_
    exact gr_l C hI h d_BF_without_20
  · have h := h.2 c5
    refine lv_aload_n hx hb d_BF_without_8 rfl (lv_at hl 0 rfl) ?_
    refine gw_get (v := .ref (ad 47)) C hI lay_0 i_BF rfl 2 (by decide) kw_1_234 rfl rfl d_BF_without_9 ?_
    refine lv_iload_n hx hb d_BF_without_12 rfl (lv_at hl 1 rfl) ?_
    refine gw_Vl C hI hl.1 (As := [.int a1]) (rest := []) (c_TG_leftOut hja h) kV_BF_127 lay_47 rfl rfl ⟨rfl, rfl⟩ ⟨Nat.le_of_ble_eq_true rfl, Nat.le_of_ble_eq_true rfl⟩ rfl (Nat.le_of_ble_eq_true rfl) ⟨Nat.zero_le _, Nat.zero_le _⟩ d_BF_without_13 (fun r3 M4 H locs h hI => ?_)
    refine lv_goto (tgt := 20) hx hb d_BF_without_16 (by decide) ?_
    exact gr_l C hI h d_BF_without_20
set_option maxHeartbeats 4000000 in
set_option maxRecDepth 100000 in
theorem c_BF_took {l : Launch} {D : va_G} {cy : Nat → ClassId} {ad : Nat → Nat} (hj : gJ ad) {a1 : Int32} {M : gM} {Q : Int32 → gM → Prop} (h : wp_BF_took Q a1 M) : Ci l y_BF_took b_BF_took 2 (some .int) rm_BF_took D cy ad [.ref (ad 0), .int a1] M Q := by
  refine gm (by decide +kernel) hj (Nat.le_of_ble_eq_true rfl) (fun p e s m args below meth c ls C hl hI => ?_)
  have hl : lv_has ls 2 [(0, .ref (ad 0)), (1, .int a1)] := hl
  obtain ⟨hx, hb, hml, hown, hts, hr, hlk, hK, hja⟩ := id C
  refine lv_aload_n hx hb d_BF_took_0 rfl (lv_at hl 0 rfl) ?_
  refine lv_iload_n hx hb d_BF_took_1 rfl (lv_at hl 1 rfl) ?_
  refine gw_Vi C hI hl.1 (As := [.int a1]) (rest := []) (c_BF_isTrainedRow hja h) kV_BF_123 lay_0 rfl rfl ⟨rfl, rfl⟩ ⟨Nat.le_of_ble_eq_true rfl, Nat.le_of_ble_eq_true rfl⟩ rfl (Nat.le_of_ble_eq_true rfl) ⟨Nat.zero_le _, Nat.zero_le _⟩ d_BF_took_2 (fun r1 M2 H locs h hI => ?_)
  refine lv_if_eq (tgt := 23) hx hb d_BF_took_5 (by decide) (fun c6 => ?_) (fun c6 => ?_)
  · have h := h.1 c6
    refine lv_bipush (v := (-2 : Int32)) hx hb d_BF_took_23 (by decide) ?_
    exact gr_i C hI h d_BF_took_25
  · have h := h.2 c6
    refine lv_aload_n hx hb d_BF_took_8 rfl (lv_at hl 0 rfl) ?_
    refine gw_get (v := .ref (ad 47)) C hI lay_0 i_BF rfl 2 (by decide) kw_1_234 rfl rfl d_BF_took_9 ?_
    refine gw_get (v := .ref (ad 111)) C hI lay_47 i_TG rfl 5 (by decide) kw_1_203 rfl rfl d_BF_took_12 ?_
    refine lv_iload_n hx hb d_BF_took_15 rfl (lv_at hl 1 rfl) ?_
    obtain ⟨g3, h⟩ := h
    refine gw_iald C hI lay_111 (j := a1.toNatClampNeg) rfl (v := M2.1 111 a1.toNatClampNeg) rfl g3 d_BF_took_16 ?_
    refine gw_Si C hI hl.1 (As := [.int (M2.1 111 a1.toNatClampNeg)]) (rest := []) (c_JI_bitCount hja h) kS_BF_134 rfl ⟨rfl, rfl⟩ ⟨Nat.le_of_ble_eq_true rfl, Nat.le_of_ble_eq_true rfl⟩ rfl (Nat.le_of_ble_eq_true rfl) ⟨Nat.zero_le _, Nat.zero_le _⟩ d_BF_took_17 (fun r4 M5 H locs h hI => ?_)
    refine lv_goto (tgt := 25) hx hb d_BF_took_20 (by decide) ?_
    exact gr_i C hI h d_BF_took_25
set_option maxHeartbeats 4000000 in
set_option maxRecDepth 100000 in
theorem c_BF_gain {l : Launch} {D : va_G} {cy : Nat → ClassId} {ad : Nat → Nat} (hj : gJ ad) {a1 : Int32} {M : gM} {Q : Int64 → gM → Prop} (h : wp_BF_gain Q a1 M) : Cl l y_BF_gain b_BF_gain 2 (some .long) rm_BF_gain D cy ad [.ref (ad 0), .int a1] M Q := by
  refine gm (by decide +kernel) hj (Nat.le_of_ble_eq_true rfl) (fun p e s m args below meth c ls C hl hI => ?_)
  have hl : lv_has ls 2 [(0, .ref (ad 0)), (1, .int a1)] := hl
  obtain ⟨hx, hb, hml, hown, hts, hr, hlk, hK, hja⟩ := id C
  refine lv_iload_n hx hb d_BF_gain_0 rfl (lv_at hl 1 rfl) ?_
  refine lv_iconst (v := (4 : Int32)) hx hb d_BF_gain_1 (by decide) ?_
  refine gw_Si C hI hl.1 (As := [.int a1, .int (4 : Int32)]) (rest := []) (c_BF_isIndex hja h) kS_BF_58 rfl ⟨rfl, rfl⟩ ⟨Nat.le_of_ble_eq_true rfl, Nat.le_of_ble_eq_true rfl⟩ rfl (Nat.le_of_ble_eq_true rfl) ⟨Nat.zero_le _, Nat.zero_le _⟩ d_BF_gain_2 (fun r1 M2 H locs h hI => ?_)
  refine lv_if_eq (tgt := 19) hx hb d_BF_gain_5 (by decide) (fun c5 => ?_) (fun c5 => ?_)
  · have h := h.1 c5
    refine lv_lconst (v := 0) hx hb d_BF_gain_19 (by decide) ?_
    exact gr_l C hI h d_BF_gain_20
  · have h := h.2 c5
    refine lv_aload_n hx hb d_BF_gain_8 rfl (lv_at hl 0 rfl) ?_
    refine gw_get (v := .ref (ad 47)) C hI lay_0 i_BF rfl 2 (by decide) kw_1_234 rfl rfl d_BF_gain_9 ?_
    refine lv_iload_n hx hb d_BF_gain_12 rfl (lv_at hl 1 rfl) ?_
    refine gw_Vl C hI hl.1 (As := [.int a1]) (rest := []) (c_TG_gainBy hja h) kV_BF_140 lay_47 rfl rfl ⟨rfl, rfl⟩ ⟨Nat.le_of_ble_eq_true rfl, Nat.le_of_ble_eq_true rfl⟩ rfl (Nat.le_of_ble_eq_true rfl) ⟨Nat.zero_le _, Nat.zero_le _⟩ d_BF_gain_13 (fun r3 M4 H locs h hI => ?_)
    refine lv_goto (tgt := 20) hx hb d_BF_gain_16 (by decide) ?_
    exact gr_l C hI h d_BF_gain_20
set_option maxHeartbeats 4000000 in
set_option maxRecDepth 100000 in
theorem L_BF_told_31 {p : Program} {l : Launch} {e : Env} {s : State} {m : MethodId} {args : Array Value} {below : List Frame} {meth : Method} {c : Code} {D : va_G} {cy : Nat → ClassId} {ad : Nat → Nat} (C : Cx p s m args meth c b_BF_told 6 (some .long) "BoostForests" D cy ad) {Q : Int64 → gM → Prop} {M : gM} {H : Heap} {locs : List Loc} {ls : Array Slot} (h : wp_BF_told_31 Q M) (hI : gI D cy ad s M H locs) (hl : lv_has ls 6 []) : W p l e rm_BF_told s m args below meth c H locs 0 0 (MQ below (va_Ql Q (gB D cy ad) (gA ad s.heap.size)) args s 0 0 (gA ad s.heap.size)) (F0 m 31 ls []) := by
  obtain ⟨hx, hb, hml, hown, hts, hr, hlk, hK, hja⟩ := id C
  refine lv_lconst (v := 0) hx hb d_BF_told_31 (by decide) ?_
  exact gr_l C hI h d_BF_told_32
set_option maxHeartbeats 4000000 in
set_option maxRecDepth 100000 in
theorem c_BF_told {l : Launch} {D : va_G} {cy : Nat → ClassId} {ad : Nat → Nat} (hj : gJ ad) {a1 : Int32} {a2 : Int32} {a3 : Int32} {a4 : Int32} {a5 : Int32} {M : gM} {Q : Int64 → gM → Prop} (h : wp_BF_told Q a1 a2 a3 a4 a5 M) : Cl l y_BF_told b_BF_told 6 (some .long) rm_BF_told D cy ad [.ref (ad 0), .int a1, .int a2, .int a3, .int a4, .int a5] M Q := by
  refine gm (by decide +kernel) hj (Nat.le_of_ble_eq_true rfl) (fun p e s m args below meth c ls C hl hI => ?_)
  have hl : lv_has ls 6 [(0, .ref (ad 0)), (1, .int a1), (2, .int a2), (3, .int a3), (4, .int a4), (5, .int a5)] := hl
  obtain ⟨hx, hb, hml, hown, hts, hr, hlk, hK, hja⟩ := id C
  refine lv_aload_n hx hb d_BF_told_0 rfl (lv_at hl 0 rfl) ?_
  refine gw_get (v := .ref (ad 47)) C hI lay_0 i_BF rfl 2 (by decide) kw_1_234 rfl rfl d_BF_told_1 ?_
  refine gw_get (v := .int (M.1 47 8)) C hI lay_47 i_TG rfl 8 (by decide) kw_1_208 rfl rfl d_BF_told_4 ?_
  refine lv_if_eq (tgt := 31) hx hb d_BF_told_7 (by decide) (fun c11 => ?_) (fun c11 => ?_)
  · have h := h.1 c11
    exact L_BF_told_31 C h hI (lv_sub hl [] rfl)
  · have h := h.2 c11
    refine lv_iload_n hx hb d_BF_told_10 rfl (lv_at hl 1 rfl) ?_
    refine lv_bipush (v := (16 : Int32)) hx hb d_BF_told_11 (by decide) ?_
    refine gw_Si C hI hl.1 (As := [.int a1, .int (16 : Int32)]) (rest := []) (c_BF_isIndex hja h) kS_BF_58 rfl ⟨rfl, rfl⟩ ⟨Nat.le_of_ble_eq_true rfl, Nat.le_of_ble_eq_true rfl⟩ rfl (Nat.le_of_ble_eq_true rfl) ⟨Nat.zero_le _, Nat.zero_le _⟩ d_BF_told_13 (fun r1 M2 H locs h hI => ?_)
    refine lv_if_eq (tgt := 31) hx hb d_BF_told_16 (by decide) (fun c10 => ?_) (fun c10 => ?_)
    · have h := h.1 c10
      exact L_BF_told_31 C h hI (lv_sub hl [] rfl)
    · have h := h.2 c10
      refine lv_iload_n hx hb d_BF_told_19 rfl (lv_at hl 2 rfl) ?_
      refine lv_iload_n hx hb d_BF_told_20 rfl (lv_at hl 3 rfl) ?_
      refine lv_iload hx hb d_BF_told_21 (lv_at hl 4 rfl) ?_
      refine lv_iload hx hb d_BF_told_23 (lv_at hl 5 rfl) ?_
      refine gw_Si C hI hl.1 (As := [.int a2, .int a3, .int a4, .int a5]) (rest := []) (c_BF_areCells hja h) kS_BF_38 rfl ⟨rfl, rfl⟩ ⟨Nat.le_of_ble_eq_true rfl, Nat.le_of_ble_eq_true rfl⟩ rfl (Nat.le_of_ble_eq_true rfl) ⟨Nat.zero_le _, Nat.zero_le _⟩ d_BF_told_25 (fun r3 M4 H locs h hI => ?_)
      refine lv_if_ne (tgt := 33) hx hb d_BF_told_28 (by decide) (fun c9 => ?_) (fun c9 => ?_)
      · have h := h.1 c9
        refine lv_aload_n hx hb d_BF_told_33 rfl (lv_at hl 0 rfl) ?_
        refine lv_iload_n hx hb d_BF_told_34 rfl (lv_at hl 2 rfl) ?_
        refine lv_iload_n hx hb d_BF_told_35 rfl (lv_at hl 3 rfl) ?_
        refine lv_iload hx hb d_BF_told_36 (lv_at hl 4 rfl) ?_
        refine lv_iload hx hb d_BF_told_38 (lv_at hl 5 rfl) ?_
        refine gw_Vv C hI hl.1 (As := [.int a2, .int a3, .int a4, .int a5]) (rest := []) (c_BF_keepAsked hja h) kV_BF_46 lay_0 rfl rfl ⟨rfl, rfl⟩ ⟨Nat.le_of_ble_eq_true rfl, Nat.le_of_ble_eq_true rfl⟩ rfl (Nat.le_of_ble_eq_true rfl) ⟨Nat.zero_le _, Nat.zero_le _⟩ d_BF_told_40 (fun M6 H locs h hI => ?_)
        refine lv_aload_n hx hb d_BF_told_43 rfl (lv_at hl 0 rfl) ?_
        refine gw_get (v := .ref (ad 47)) C hI lay_0 i_BF rfl 2 (by decide) kw_1_234 rfl rfl d_BF_told_44 ?_
        refine lv_iload_n hx hb d_BF_told_47 rfl (lv_at hl 1 rfl) ?_
        refine lv_aload_n hx hb d_BF_told_48 rfl (lv_at hl 0 rfl) ?_
        refine gw_get (v := .ref (ad 272)) C hI lay_0 i_BF rfl 3 (by decide) kw_1_235 rfl rfl d_BF_told_49 ?_
        refine gw_Vl C hI hl.1 (As := [.int a1, .ref (ad 272)]) (rest := []) (c_TG_tellAll hja h) kV_BF_143 lay_47 rfl rfl ⟨rfl, rfl⟩ ⟨Nat.le_of_ble_eq_true rfl, Nat.le_of_ble_eq_true rfl⟩ rfl (Nat.le_of_ble_eq_true rfl) ⟨Nat.zero_le _, Nat.zero_le _⟩ d_BF_told_52 (fun r7 M8 H locs h hI => ?_)
        exact gr_l C hI h d_BF_told_55
      · have h := h.2 c9
        exact L_BF_told_31 C h hI (lv_sub hl [] rfl)
set_option maxHeartbeats 4000000 in
set_option maxRecDepth 100000 in
theorem L_BF_share_30 {p : Program} {l : Launch} {e : Env} {s : State} {m : MethodId} {args : Array Value} {below : List Frame} {meth : Method} {c : Code} {D : va_G} {cy : Nat → ClassId} {ad : Nat → Nat} (C : Cx p s m args meth c b_BF_share 6 (some .long) "BoostForests" D cy ad) {Q : Int64 → gM → Prop} {M : gM} {H : Heap} {locs : List Loc} {ls : Array Slot} (h : wp_BF_share_30 Q M) (hI : gI D cy ad s M H locs) (hl : lv_has ls 6 []) : W p l e rm_BF_share s m args below meth c H locs 0 0 (MQ below (va_Ql Q (gB D cy ad) (gA ad s.heap.size)) args s 0 0 (gA ad s.heap.size)) (F0 m 30 ls []) := by
  obtain ⟨hx, hb, hml, hown, hts, hr, hlk, hK, hja⟩ := id C
  refine lv_lconst (v := 0) hx hb d_BF_share_30 (by decide) ?_
  exact gr_l C hI h d_BF_share_31
set_option maxHeartbeats 4000000 in
set_option maxRecDepth 100000 in
theorem c_BF_share {l : Launch} {D : va_G} {cy : Nat → ClassId} {ad : Nat → Nat} (hj : gJ ad) {a1 : Int32} {a2 : Int32} {a3 : Int32} {a4 : Int32} {a5 : Int32} {M : gM} {Q : Int64 → gM → Prop} (h : wp_BF_share Q a1 a2 a3 a4 a5 M) : Cl l y_BF_share b_BF_share 6 (some .long) rm_BF_share D cy ad [.ref (ad 0), .int a1, .int a2, .int a3, .int a4, .int a5] M Q := by
  refine gm (by decide +kernel) hj (Nat.le_of_ble_eq_true rfl) (fun p e s m args below meth c ls C hl hI => ?_)
  have hl : lv_has ls 6 [(0, .ref (ad 0)), (1, .int a1), (2, .int a2), (3, .int a3), (4, .int a4), (5, .int a5)] := hl
  obtain ⟨hx, hb, hml, hown, hts, hr, hlk, hK, hja⟩ := id C
  refine lv_aload_n hx hb d_BF_share_0 rfl (lv_at hl 0 rfl) ?_
  refine gw_get (v := .ref (ad 47)) C hI lay_0 i_BF rfl 2 (by decide) kw_1_234 rfl rfl d_BF_share_1 ?_
  refine gw_get (v := .int (M.1 47 8)) C hI lay_47 i_TG rfl 8 (by decide) kw_1_208 rfl rfl d_BF_share_4 ?_
  refine lv_if_eq (tgt := 30) hx hb d_BF_share_7 (by decide) (fun c11 => ?_) (fun c11 => ?_)
  · have h := h.1 c11
    exact L_BF_share_30 C h hI (lv_sub hl [] rfl)
  · have h := h.2 c11
    refine lv_iload_n hx hb d_BF_share_10 rfl (lv_at hl 1 rfl) ?_
    refine lv_iconst (v := (4 : Int32)) hx hb d_BF_share_11 (by decide) ?_
    refine gw_Si C hI hl.1 (As := [.int a1, .int (4 : Int32)]) (rest := []) (c_BF_isIndex hja h) kS_BF_58 rfl ⟨rfl, rfl⟩ ⟨Nat.le_of_ble_eq_true rfl, Nat.le_of_ble_eq_true rfl⟩ rfl (Nat.le_of_ble_eq_true rfl) ⟨Nat.zero_le _, Nat.zero_le _⟩ d_BF_share_12 (fun r1 M2 H locs h hI => ?_)
    refine lv_if_eq (tgt := 30) hx hb d_BF_share_15 (by decide) (fun c10 => ?_) (fun c10 => ?_)
    · have h := h.1 c10
      exact L_BF_share_30 C h hI (lv_sub hl [] rfl)
    · have h := h.2 c10
      refine lv_iload_n hx hb d_BF_share_18 rfl (lv_at hl 2 rfl) ?_
      refine lv_iload_n hx hb d_BF_share_19 rfl (lv_at hl 3 rfl) ?_
      refine lv_iload hx hb d_BF_share_20 (lv_at hl 4 rfl) ?_
      refine lv_iload hx hb d_BF_share_22 (lv_at hl 5 rfl) ?_
      refine gw_Si C hI hl.1 (As := [.int a2, .int a3, .int a4, .int a5]) (rest := []) (c_BF_areCells hja h) kS_BF_38 rfl ⟨rfl, rfl⟩ ⟨Nat.le_of_ble_eq_true rfl, Nat.le_of_ble_eq_true rfl⟩ rfl (Nat.le_of_ble_eq_true rfl) ⟨Nat.zero_le _, Nat.zero_le _⟩ d_BF_share_24 (fun r3 M4 H locs h hI => ?_)
      refine lv_if_ne (tgt := 32) hx hb d_BF_share_27 (by decide) (fun c9 => ?_) (fun c9 => ?_)
      · have h := h.1 c9
        refine lv_aload_n hx hb d_BF_share_32 rfl (lv_at hl 0 rfl) ?_
        refine lv_iload_n hx hb d_BF_share_33 rfl (lv_at hl 2 rfl) ?_
        refine lv_iload_n hx hb d_BF_share_34 rfl (lv_at hl 3 rfl) ?_
        refine lv_iload hx hb d_BF_share_35 (lv_at hl 4 rfl) ?_
        refine lv_iload hx hb d_BF_share_37 (lv_at hl 5 rfl) ?_
        refine gw_Vv C hI hl.1 (As := [.int a2, .int a3, .int a4, .int a5]) (rest := []) (c_BF_keepAsked hja h) kV_BF_46 lay_0 rfl rfl ⟨rfl, rfl⟩ ⟨Nat.le_of_ble_eq_true rfl, Nat.le_of_ble_eq_true rfl⟩ rfl (Nat.le_of_ble_eq_true rfl) ⟨Nat.zero_le _, Nat.zero_le _⟩ d_BF_share_39 (fun M6 H locs h hI => ?_)
        refine lv_aload_n hx hb d_BF_share_42 rfl (lv_at hl 0 rfl) ?_
        refine gw_get (v := .ref (ad 47)) C hI lay_0 i_BF rfl 2 (by decide) kw_1_234 rfl rfl d_BF_share_43 ?_
        refine lv_iload_n hx hb d_BF_share_46 rfl (lv_at hl 1 rfl) ?_
        refine lv_aload_n hx hb d_BF_share_47 rfl (lv_at hl 0 rfl) ?_
        refine gw_get (v := .ref (ad 272)) C hI lay_0 i_BF rfl 3 (by decide) kw_1_235 rfl rfl d_BF_share_48 ?_
        refine gw_Vl C hI hl.1 (As := [.int a1, .ref (ad 272)]) (rest := []) (c_TG_fairShare hja h) kV_BF_146 lay_47 rfl rfl ⟨rfl, rfl⟩ ⟨Nat.le_of_ble_eq_true rfl, Nat.le_of_ble_eq_true rfl⟩ rfl (Nat.le_of_ble_eq_true rfl) ⟨Nat.zero_le _, Nat.zero_le _⟩ d_BF_share_51 (fun r7 M8 H locs h hI => ?_)
        exact gr_l C hI h d_BF_share_54
      · have h := h.2 c9
        exact L_BF_share_30 C h hI (lv_sub hl [] rfl)
set_option maxHeartbeats 4000000 in
set_option maxRecDepth 100000 in
theorem c_BF_count {l : Launch} {D : va_G} {cy : Nat → ClassId} {ad : Nat → Nat} (hj : gJ ad) {a1 : Int32} {M : gM} {Q : Int32 → gM → Prop} (h : wp_BF_count Q a1 M) : Ci l y_BF_count b_BF_count 2 (some .int) rm_BF_count D cy ad [.ref (ad 0), .int a1] M Q := by
  refine gm (by decide +kernel) hj (Nat.le_of_ble_eq_true rfl) (fun p e s m args below meth c ls C hl hI => ?_)
  have hl : lv_has ls 2 [(0, .ref (ad 0)), (1, .int a1)] := hl
  obtain ⟨hx, hb, hml, hown, hts, hr, hlk, hK, hja⟩ := id C
  refine lv_iload_n hx hb d_BF_count_0 rfl (lv_at hl 1 rfl) ?_
  rcases Classical.em (a1 = 0) with c1 | c1
  · have h := h.1 c1
    refine lv_tableIn (tgt := 32) hx hb d_BF_count_1 (by rw [c1]; decide) (by rw [c1]; decide) (by rw [c1]; rfl) (by decide) ?_
    refine lv_aload_n hx hb d_BF_count_32 rfl (lv_at hl 0 rfl) ?_
    refine gw_get (v := .ref (ad 1)) C hI lay_0 i_BF rfl 0 (by decide) kw_1_232 rfl rfl d_BF_count_33 ?_
    refine gw_get (v := .int (M.1 1 4)) C hI isTB_1.1 i_TB rfl 4 (by decide) kw_1_43 rfl rfl d_BF_count_36 ?_
    exact gr_i C hI h d_BF_count_39
  · have h := h.2 c1
    rcases Classical.em (a1 = 1) with c2 | c2
    · have h := h.1 c2
      refine lv_tableIn (tgt := 40) hx hb d_BF_count_1 (by rw [c2]; decide) (by rw [c2]; decide) (by rw [c2]; rfl) (by decide) ?_
      refine lv_aload_n hx hb d_BF_count_40 rfl (lv_at hl 0 rfl) ?_
      refine gw_get (v := .ref (ad 1)) C hI lay_0 i_BF rfl 0 (by decide) kw_1_232 rfl rfl d_BF_count_41 ?_
      refine gw_Vi C hI hl.1 (As := []) (rest := []) (c_TB_heldRows hja isTB_1 h) kV_BF_72 isTB_1.1 rfl rfl ⟨rfl, rfl⟩ ⟨Nat.le_of_ble_eq_true rfl, Nat.le_of_ble_eq_true rfl⟩ rfl (Nat.le_of_ble_eq_true rfl) ⟨Nat.zero_le _, Nat.zero_le _⟩ d_BF_count_44 (fun r3 M4 H locs h hI => ?_)
      exact gr_i C hI h d_BF_count_47
    · have h := h.2 c2
      rcases Classical.em (a1 = 2) with c5 | c5
      · have h := h.1 c5
        refine lv_tableIn (tgt := 48) hx hb d_BF_count_1 (by rw [c5]; decide) (by rw [c5]; decide) (by rw [c5]; rfl) (by decide) ?_
        refine lv_aload_n hx hb d_BF_count_48 rfl (lv_at hl 0 rfl) ?_
        refine gw_get (v := .ref (ad 47)) C hI lay_0 i_BF rfl 2 (by decide) kw_1_234 rfl rfl d_BF_count_49 ?_
        refine gw_get (v := .int (M.1 47 9)) C hI lay_47 i_TG rfl 9 (by decide) kw_1_210 rfl rfl d_BF_count_52 ?_
        exact gr_i C hI h d_BF_count_55
      · have h := h.2 c5
        rcases Classical.em (a1 = 3) with c6 | c6
        · have h := h.1 c6
          refine lv_tableIn (tgt := 56) hx hb d_BF_count_1 (by rw [c6]; decide) (by rw [c6]; decide) (by rw [c6]; rfl) (by decide) ?_
          refine lv_aload_n hx hb d_BF_count_56 rfl (lv_at hl 0 rfl) ?_
          refine gw_get (v := .ref (ad 47)) C hI lay_0 i_BF rfl 2 (by decide) kw_1_234 rfl rfl d_BF_count_57 ?_
          refine gw_get (v := .int (M.1 47 8)) C hI lay_47 i_TG rfl 8 (by decide) kw_1_208 rfl rfl d_BF_count_60 ?_
          refine lv_if_eq (tgt := 79) hx hb d_BF_count_63 (by decide) (fun c7 => ?_) (fun c7 => ?_)
          · have h := h.1 c7
            refine lv_iconst (v := (0 : Int32)) hx hb d_BF_count_79 (by decide) ?_
            exact gr_i C hI h d_BF_count_80
          · have h := h.2 c7
            refine lv_aload_n hx hb d_BF_count_66 rfl (lv_at hl 0 rfl) ?_
            refine gw_get (v := .ref (ad 47)) C hI lay_0 i_BF rfl 2 (by decide) kw_1_234 rfl rfl d_BF_count_67 ?_
            refine gw_get (v := .ref (ad 49)) C hI lay_47 i_TG rfl 1 (by decide) kw_1_197 rfl rfl d_BF_count_70 ?_
            refine gw_get (v := .int (M.1 49 4)) C hI isTB_49.1 i_TB rfl 4 (by decide) kw_1_43 rfl rfl d_BF_count_73 ?_
            refine lv_goto (tgt := 80) hx hb d_BF_count_76 (by decide) ?_
            exact gr_i C hI h d_BF_count_80
        · have h := h.2 c6
          refine lv_tableOut (tgt := 81) hx hb d_BF_count_1 (by have := lv_neT (a := 0) c1 rfl; have := lv_neT (a := 1) c2 rfl; have := lv_neT (a := 2) c5 rfl; have := lv_neT (a := 3) c6 rfl; omega) (by decide) ?_
          refine lv_iload_n hx hb d_BF_count_81 rfl (lv_at hl 1 rfl) ?_
          refine lv_iconst (v := (4 : Int32)) hx hb d_BF_count_82 (by decide) ?_
          refine lv_bipush (v := (18 : Int32)) hx hb d_BF_count_83 (by decide) ?_
          refine gw_Si C hI hl.1 (As := [.int a1, .int (4 : Int32), .int (18 : Int32)]) (rest := []) (c_BF_isWithin hja h) kS_BF_42 rfl ⟨rfl, rfl⟩ ⟨Nat.le_of_ble_eq_true rfl, Nat.le_of_ble_eq_true rfl⟩ rfl (Nat.le_of_ble_eq_true rfl) ⟨Nat.zero_le _, Nat.zero_le _⟩ d_BF_count_85 (fun r8 M9 H locs h hI => ?_)
          refine lv_if_eq (tgt := 102) hx hb d_BF_count_88 (by decide) (fun c11 => ?_) (fun c11 => ?_)
          · have h := h.1 c11
            refine lv_bipush (v := (-2 : Int32)) hx hb d_BF_count_102 (by decide) ?_
            exact gr_i C hI h d_BF_count_104
          · have h := h.2 c11
            refine lv_aload_n hx hb d_BF_count_91 rfl (lv_at hl 0 rfl) ?_
            refine gw_get (v := .ref (ad 46)) C hI lay_0 i_BF rfl 1 (by decide) kw_1_233 rfl rfl d_BF_count_92 ?_
            refine lv_iload_n hx hb d_BF_count_95 rfl (lv_at hl 1 rfl) ?_
            refine lv_iconst (v := (4 : Int32)) hx hb d_BF_count_96 (by decide) ?_
            refine lv_isub hx hb d_BF_count_97 ?_
            obtain ⟨g10, h⟩ := h
            refine gw_iald C hI lay_46 (j := (a1 - (4 : Int32)).toNatClampNeg) rfl (v := M9.1 46 ((a1 - (4 : Int32)).toNatClampNeg)) rfl g10 d_BF_count_98 ?_
            refine lv_goto (tgt := 104) hx hb d_BF_count_99 (by decide) ?_
            exact gr_i C hI h d_BF_count_104

set_option maxHeartbeats 4000000 in
set_option maxRecDepth 100000 in
theorem c_SM_empty {l : Launch} {D : va_G} {cy : Nat → ClassId} {ad : Nat → Nat} (hj : gJ ad) {b0 : Nat} (hb0 : isSM b0) {M : gM} {Q : gM → Prop} (h : wp_SM_empty Q b0 M) : Cv l y_SM_empty b_SM_empty 1 none rm_SM_empty D cy ad [.ref (ad b0)] M Q := by
  refine gm (by decide +kernel) hj (Nat.le_of_ble_eq_true rfl) (fun p e s m args below meth c ls C hl hI => ?_)
  have hl : lv_has ls 1 [(0, .ref (ad b0))] := hl
  obtain ⟨hx, hb, hml, hown, hts, hr, hlk, hK, hja⟩ := id C
  refine lv_aload_n hx hb d_SM_empty_0 rfl (lv_at hl 0 rfl) ?_
  refine lv_iconst (v := (0 : Int32)) hx hb d_SM_empty_1 (by decide) ?_
  refine gw_puti C hI hb0 i_SM rfl t_SM_ok n_SM 0 (by decide) kw_1_88 rfl rfl rfl rfl rfl d_SM_empty_2 (fun H locs hI => ?_)
  refine lv_aload_n hx hb d_SM_empty_5 rfl (lv_at hl 0 rfl) ?_
  refine lv_iconst (v := (0 : Int32)) hx hb d_SM_empty_6 (by decide) ?_
  refine gw_puti C hI hb0 i_SM rfl t_SM_ok n_SM 1 (by decide) kw_1_91 rfl rfl rfl rfl rfl d_SM_empty_7 (fun H locs hI => ?_)
  refine lv_aload_n hx hb d_SM_empty_10 rfl (lv_at hl 0 rfl) ?_
  refine lv_lconst (v := 0) hx hb d_SM_empty_11 (by decide) ?_
  refine gw_putl C hI hb0 i_SM rfl t_SM_ok n_SM 2 (by decide) kw_1_93 rfl rfl rfl rfl rfl d_SM_empty_12 (fun H locs hI => ?_)
  exact gr_v C hI h d_SM_empty_15
set_option maxHeartbeats 4000000 in
set_option maxRecDepth 100000 in
theorem c_SM_addRow {l : Launch} {D : va_G} {cy : Nat → ClassId} {ad : Nat → Nat} (hj : gJ ad) {b0 : Nat} (hb0 : isSM b0) {a1 : Int64} {a3 : Int32} {M : gM} {Q : gM → Prop} (h : wp_SM_addRow Q b0 a1 a3 M) : Cv l y_SM_addRow b_SM_addRow 4 none rm_SM_addRow D cy ad [.ref (ad b0), .long a1, .int a3] M Q := by
  refine gm (by decide +kernel) hj (Nat.le_of_ble_eq_true rfl) (fun p e s m args below meth c ls C hl hI => ?_)
  have hl : lv_has ls 4 [(0, .ref (ad b0)), (1, .long a1), (3, .int a3)] := hl
  obtain ⟨hx, hb, hml, hown, hts, hr, hlk, hK, hja⟩ := id C
  refine lv_aload_n hx hb d_SM_addRow_0 rfl (lv_at hl 0 rfl) ?_
  refine lv_dup hx hb d_SM_addRow_1 rfl ?_
  refine gw_get (v := .int (M.1 b0 0)) C hI hb0 i_SM rfl 0 (by decide) kw_1_88 rfl rfl d_SM_addRow_2 ?_
  refine lv_iconst (v := (1 : Int32)) hx hb d_SM_addRow_5 (by decide) ?_
  refine lv_iadd hx hb d_SM_addRow_6 ?_
  refine gw_puti C hI hb0 i_SM rfl t_SM_ok n_SM 0 (by decide) kw_1_88 rfl rfl rfl rfl rfl d_SM_addRow_7 (fun H locs hI => ?_)
  refine lv_aload_n hx hb d_SM_addRow_10 rfl (lv_at hl 0 rfl) ?_
  refine lv_dup hx hb d_SM_addRow_11 rfl ?_
  refine gw_get (v := .int ((wi M b0 0 ((M.1 b0 0) + (1 : Int32))).1 b0 1)) C hI hb0 i_SM rfl 1 (by decide) kw_1_91 rfl rfl d_SM_addRow_12 ?_
  refine lv_iload_n hx hb d_SM_addRow_15 rfl (lv_at hl 2 rfl) ?_
  refine lv_iadd hx hb d_SM_addRow_16 ?_
  refine gw_puti C hI hb0 i_SM rfl t_SM_ok n_SM 1 (by decide) kw_1_91 rfl rfl rfl rfl rfl d_SM_addRow_17 (fun H locs hI => ?_)
  refine lv_aload_n hx hb d_SM_addRow_20 rfl (lv_at hl 0 rfl) ?_
  refine lv_dup hx hb d_SM_addRow_21 rfl ?_
  refine gw_get (v := .long (M.2 b0 2)) C hI hb0 i_SM rfl 2 (by decide) kw_1_93 rfl rfl d_SM_addRow_22 ?_
  refine lv_lload_n hx hb d_SM_addRow_25 rfl (lv_at hl 1 rfl) ?_
  refine lv_ladd hx hb d_SM_addRow_26 ?_
  refine gw_putl C hI hb0 i_SM rfl t_SM_ok n_SM 2 (by decide) kw_1_93 rfl rfl rfl rfl rfl d_SM_addRow_27 (fun H locs hI => ?_)
  exact gr_v C hI h d_SM_addRow_30
set_option maxHeartbeats 4000000 in
set_option maxRecDepth 100000 in
theorem c_SM_valueWith {l : Launch} {D : va_G} {cy : Nat → ClassId} {ad : Nat → Nat} (hj : gJ ad) {b0 : Nat} (hb0 : isSM b0) {a1 : Int32} {M : gM} {Q : Int64 → gM → Prop} (h : wp_SM_valueWith Q b0 a1 M) : Cl l y_SM_valueWith b_SM_valueWith 4 (some .long) rm_SM_valueWith D cy ad [.ref (ad b0), .int a1] M Q := by
  refine gm (by decide +kernel) hj (Nat.le_of_ble_eq_true rfl) (fun p e s m args below meth c ls C hl hI => ?_)
  have hl : lv_has ls 4 [(0, .ref (ad b0)), (1, .int a1)] := hl
  obtain ⟨hx, hb, hml, hown, hts, hr, hlk, hK, hja⟩ := id C
  refine lv_aload_n hx hb d_SM_valueWith_0 rfl (lv_at hl 0 rfl) ?_
  refine gw_get (v := .int (M.1 b0 1)) C hI hb0 i_SM rfl 1 (by decide) kw_1_91 rfl rfl d_SM_valueWith_1 ?_
  refine lv_i2l hx hb d_SM_valueWith_4 rfl ?_
  refine lv_iload_n hx hb d_SM_valueWith_5 rfl (lv_at hl 1 rfl) ?_
  refine lv_i2l hx hb d_SM_valueWith_6 rfl ?_
  refine lv_ladd hx hb d_SM_valueWith_7 ?_
  refine lv_lstore_n (lv' := [(2, .long (((M.1 b0 1).toInt64) + a1.toInt64)), (0, .ref (ad b0)), (1, .int a1)]) hx hb d_SM_valueWith_8 rfl hl (by decide) rfl (fun ls hl => ?_)
  refine lv_lload_n hx hb d_SM_valueWith_9 rfl (lv_at hl 0 rfl) ?_
  refine lv_lconst (v := 0) hx hb d_SM_valueWith_10 (by decide) ?_
  refine gl_ne (tgt := 19) C d_SM_valueWith_11 d_SM_valueWith_12 (by decide) (fun c2 => ?_) (fun c2 => ?_)
  · have h := h.1 c2
    refine lv_aload_n hx hb d_SM_valueWith_19 rfl (lv_at hl 1 rfl) ?_
    refine gw_get (v := .long (M.2 b0 2)) C hI hb0 i_SM rfl 2 (by decide) kw_1_93 rfl rfl d_SM_valueWith_20 ?_
    refine lv_lneg hx hb d_SM_valueWith_23 ?_
    refine lv_lload_n hx hb d_SM_valueWith_24 rfl (lv_at hl 0 rfl) ?_
    obtain ⟨g1, h⟩ := h
    refine lv_ldiv hx hb d_SM_valueWith_25 g1 ?_
    exact gr_l C hI h d_SM_valueWith_26
  · have h := h.2 c2
    refine lv_lconst (v := 0) hx hb d_SM_valueWith_15 (by decide) ?_
    refine lv_goto (tgt := 26) hx hb d_SM_valueWith_16 (by decide) ?_
    exact gr_l C hI h d_SM_valueWith_26
set_option maxHeartbeats 4000000 in
set_option maxRecDepth 100000 in
theorem c_SP_become {l : Launch} {D : va_G} {cy : Nat → ClassId} {ad : Nat → Nat} (hj : gJ ad) {a1 : Int32} {a2 : Int32} {a3 : Int32} {a4 : Int64} {M : gM} {Q : gM → Prop} (h : wp_SP_become Q a1 a2 a3 a4 M) : Cv l y_SP_become b_SP_become 6 none rm_SP_become D cy ad [.ref (ad 108), .int a1, .int a2, .int a3, .long a4] M Q := by
  refine gm (by decide +kernel) hj (Nat.le_of_ble_eq_true rfl) (fun p e s m args below meth c ls C hl hI => ?_)
  have hl : lv_has ls 6 [(0, .ref (ad 108)), (1, .int a1), (2, .int a2), (3, .int a3), (4, .long a4)] := hl
  obtain ⟨hx, hb, hml, hown, hts, hr, hlk, hK, hja⟩ := id C
  refine lv_aload_n hx hb d_SP_become_0 rfl (lv_at hl 0 rfl) ?_
  refine lv_iload_n hx hb d_SP_become_1 rfl (lv_at hl 1 rfl) ?_
  refine gw_puti C hI lay_108 i_SP rfl t_SP_ok n_SP 0 (by decide) kw_1_109 rfl rfl rfl rfl rfl d_SP_become_2 (fun H locs hI => ?_)
  refine lv_aload_n hx hb d_SP_become_5 rfl (lv_at hl 0 rfl) ?_
  refine lv_iload_n hx hb d_SP_become_6 rfl (lv_at hl 2 rfl) ?_
  refine gw_puti C hI lay_108 i_SP rfl t_SP_ok n_SP 1 (by decide) kw_1_112 rfl rfl rfl rfl rfl d_SP_become_7 (fun H locs hI => ?_)
  refine lv_aload_n hx hb d_SP_become_10 rfl (lv_at hl 0 rfl) ?_
  refine lv_iload_n hx hb d_SP_become_11 rfl (lv_at hl 3 rfl) ?_
  refine gw_puti C hI lay_108 i_SP rfl t_SP_ok n_SP 2 (by decide) kw_1_114 rfl rfl rfl rfl rfl d_SP_become_12 (fun H locs hI => ?_)
  refine lv_aload_n hx hb d_SP_become_15 rfl (lv_at hl 0 rfl) ?_
  refine lv_lload hx hb d_SP_become_16 (lv_at hl 4 rfl) ?_
  refine gw_putl C hI lay_108 i_SP rfl t_SP_ok n_SP 3 (by decide) kw_1_116 rfl rfl rfl rfl rfl d_SP_become_18 (fun H locs hI => ?_)
  exact gr_v C hI h d_SP_become_21
set_option maxHeartbeats 4000000 in
set_option maxRecDepth 100000 in
theorem c_SP_forget {l : Launch} {D : va_G} {cy : Nat → ClassId} {ad : Nat → Nat} (hj : gJ ad) {a1 : Int64} {M : gM} {Q : gM → Prop} (h : wp_SP_forget Q a1 M) : Cv l y_SP_forget b_SP_forget 3 none rm_SP_forget D cy ad [.ref (ad 108), .long a1] M Q := by
  refine gm (by decide +kernel) hj (Nat.le_of_ble_eq_true rfl) (fun p e s m args below meth c ls C hl hI => ?_)
  have hl : lv_has ls 3 [(0, .ref (ad 108)), (1, .long a1)] := hl
  obtain ⟨hx, hb, hml, hown, hts, hr, hlk, hK, hja⟩ := id C
  refine lv_aload_n hx hb d_SP_forget_0 rfl (lv_at hl 0 rfl) ?_
  refine lv_iconst (v := (-1 : Int32)) hx hb d_SP_forget_1 (by decide) ?_
  refine lv_iconst (v := (-1 : Int32)) hx hb d_SP_forget_2 (by decide) ?_
  refine lv_iconst (v := (-1 : Int32)) hx hb d_SP_forget_3 (by decide) ?_
  refine lv_lload_n hx hb d_SP_forget_4 rfl (lv_at hl 1 rfl) ?_
  refine gw_Vv C hI hl.1 (As := [.int (-1 : Int32), .int (-1 : Int32), .int (-1 : Int32), .long a1]) (rest := []) (c_SP_become hja h) kV_SP_9 lay_108 rfl rfl ⟨rfl, rfl⟩ ⟨Nat.le_of_ble_eq_true rfl, Nat.le_of_ble_eq_true rfl⟩ rfl (Nat.le_of_ble_eq_true rfl) ⟨Nat.zero_le _, Nat.zero_le _⟩ d_SP_forget_5 (fun M2 H locs h hI => ?_)
  exact gr_v C hI h d_SP_forget_8
set_option maxHeartbeats 4000000 in
set_option maxRecDepth 100000 in
theorem c_SM_becomeSum {l : Launch} {D : va_G} {cy : Nat → ClassId} {ad : Nat → Nat} (hj : gJ ad) {b0 : Nat} {b1 : Nat} {b2 : Nat} (hb0 : isSM b0) (hb1 : isSM b1) (hb2 : isSM b2) {M : gM} {Q : gM → Prop} (h : wp_SM_becomeSum Q b0 b1 b2 M) : Cv l y_SM_becomeSum b_SM_becomeSum 3 none rm_SM_becomeSum D cy ad [.ref (ad b0), .ref (ad b1), .ref (ad b2)] M Q := by
  refine gm (by decide +kernel) hj (Nat.le_of_ble_eq_true rfl) (fun p e s m args below meth c ls C hl hI => ?_)
  have hl : lv_has ls 3 [(0, .ref (ad b0)), (1, .ref (ad b1)), (2, .ref (ad b2))] := hl
  obtain ⟨hx, hb, hml, hown, hts, hr, hlk, hK, hja⟩ := id C
  refine lv_aload_n hx hb d_SM_becomeSum_0 rfl (lv_at hl 0 rfl) ?_
  refine lv_aload_n hx hb d_SM_becomeSum_1 rfl (lv_at hl 1 rfl) ?_
  refine gw_get (v := .int (M.1 b1 0)) C hI hb1 i_SM rfl 0 (by decide) kw_1_88 rfl rfl d_SM_becomeSum_2 ?_
  refine lv_aload_n hx hb d_SM_becomeSum_5 rfl (lv_at hl 2 rfl) ?_
  refine gw_get (v := .int (M.1 b2 0)) C hI hb2 i_SM rfl 0 (by decide) kw_1_88 rfl rfl d_SM_becomeSum_6 ?_
  refine lv_iadd hx hb d_SM_becomeSum_9 ?_
  refine gw_puti C hI hb0 i_SM rfl t_SM_ok n_SM 0 (by decide) kw_1_88 rfl rfl rfl rfl rfl d_SM_becomeSum_10 (fun H locs hI => ?_)
  refine lv_aload_n hx hb d_SM_becomeSum_13 rfl (lv_at hl 0 rfl) ?_
  refine lv_aload_n hx hb d_SM_becomeSum_14 rfl (lv_at hl 1 rfl) ?_
  refine gw_get (v := .int ((wi M b0 0 ((M.1 b1 0) + (M.1 b2 0))).1 b1 1)) C hI hb1 i_SM rfl 1 (by decide) kw_1_91 rfl rfl d_SM_becomeSum_15 ?_
  refine lv_aload_n hx hb d_SM_becomeSum_18 rfl (lv_at hl 2 rfl) ?_
  refine gw_get (v := .int ((wi M b0 0 ((M.1 b1 0) + (M.1 b2 0))).1 b2 1)) C hI hb2 i_SM rfl 1 (by decide) kw_1_91 rfl rfl d_SM_becomeSum_19 ?_
  refine lv_iadd hx hb d_SM_becomeSum_22 ?_
  refine gw_puti C hI hb0 i_SM rfl t_SM_ok n_SM 1 (by decide) kw_1_91 rfl rfl rfl rfl rfl d_SM_becomeSum_23 (fun H locs hI => ?_)
  refine lv_aload_n hx hb d_SM_becomeSum_26 rfl (lv_at hl 0 rfl) ?_
  refine lv_aload_n hx hb d_SM_becomeSum_27 rfl (lv_at hl 1 rfl) ?_
  refine gw_get (v := .long (M.2 b1 2)) C hI hb1 i_SM rfl 2 (by decide) kw_1_93 rfl rfl d_SM_becomeSum_28 ?_
  refine lv_aload_n hx hb d_SM_becomeSum_31 rfl (lv_at hl 2 rfl) ?_
  refine gw_get (v := .long (M.2 b2 2)) C hI hb2 i_SM rfl 2 (by decide) kw_1_93 rfl rfl d_SM_becomeSum_32 ?_
  refine lv_ladd hx hb d_SM_becomeSum_35 ?_
  refine gw_putl C hI hb0 i_SM rfl t_SM_ok n_SM 2 (by decide) kw_1_93 rfl rfl rfl rfl rfl d_SM_becomeSum_36 (fun H locs hI => ?_)
  exact gr_v C hI h d_SM_becomeSum_39
set_option maxHeartbeats 4000000 in
set_option maxRecDepth 100000 in
theorem c_SM_becomeRest {l : Launch} {D : va_G} {cy : Nat → ClassId} {ad : Nat → Nat} (hj : gJ ad) {b0 : Nat} {b1 : Nat} {b2 : Nat} (hb0 : isSM b0) (hb1 : isSM b1) (hb2 : isSM b2) {M : gM} {Q : gM → Prop} (h : wp_SM_becomeRest Q b0 b1 b2 M) : Cv l y_SM_becomeRest b_SM_becomeRest 3 none rm_SM_becomeRest D cy ad [.ref (ad b0), .ref (ad b1), .ref (ad b2)] M Q := by
  refine gm (by decide +kernel) hj (Nat.le_of_ble_eq_true rfl) (fun p e s m args below meth c ls C hl hI => ?_)
  have hl : lv_has ls 3 [(0, .ref (ad b0)), (1, .ref (ad b1)), (2, .ref (ad b2))] := hl
  obtain ⟨hx, hb, hml, hown, hts, hr, hlk, hK, hja⟩ := id C
  refine lv_aload_n hx hb d_SM_becomeRest_0 rfl (lv_at hl 0 rfl) ?_
  refine lv_aload_n hx hb d_SM_becomeRest_1 rfl (lv_at hl 1 rfl) ?_
  refine gw_get (v := .int (M.1 b1 0)) C hI hb1 i_SM rfl 0 (by decide) kw_1_88 rfl rfl d_SM_becomeRest_2 ?_
  refine lv_aload_n hx hb d_SM_becomeRest_5 rfl (lv_at hl 2 rfl) ?_
  refine gw_get (v := .int (M.1 b2 0)) C hI hb2 i_SM rfl 0 (by decide) kw_1_88 rfl rfl d_SM_becomeRest_6 ?_
  refine lv_isub hx hb d_SM_becomeRest_9 ?_
  refine gw_puti C hI hb0 i_SM rfl t_SM_ok n_SM 0 (by decide) kw_1_88 rfl rfl rfl rfl rfl d_SM_becomeRest_10 (fun H locs hI => ?_)
  refine lv_aload_n hx hb d_SM_becomeRest_13 rfl (lv_at hl 0 rfl) ?_
  refine lv_aload_n hx hb d_SM_becomeRest_14 rfl (lv_at hl 1 rfl) ?_
  refine gw_get (v := .int ((wi M b0 0 ((M.1 b1 0) - (M.1 b2 0))).1 b1 1)) C hI hb1 i_SM rfl 1 (by decide) kw_1_91 rfl rfl d_SM_becomeRest_15 ?_
  refine lv_aload_n hx hb d_SM_becomeRest_18 rfl (lv_at hl 2 rfl) ?_
  refine gw_get (v := .int ((wi M b0 0 ((M.1 b1 0) - (M.1 b2 0))).1 b2 1)) C hI hb2 i_SM rfl 1 (by decide) kw_1_91 rfl rfl d_SM_becomeRest_19 ?_
  refine lv_isub hx hb d_SM_becomeRest_22 ?_
  refine gw_puti C hI hb0 i_SM rfl t_SM_ok n_SM 1 (by decide) kw_1_91 rfl rfl rfl rfl rfl d_SM_becomeRest_23 (fun H locs hI => ?_)
  refine lv_aload_n hx hb d_SM_becomeRest_26 rfl (lv_at hl 0 rfl) ?_
  refine lv_aload_n hx hb d_SM_becomeRest_27 rfl (lv_at hl 1 rfl) ?_
  refine gw_get (v := .long (M.2 b1 2)) C hI hb1 i_SM rfl 2 (by decide) kw_1_93 rfl rfl d_SM_becomeRest_28 ?_
  refine lv_aload_n hx hb d_SM_becomeRest_31 rfl (lv_at hl 2 rfl) ?_
  refine gw_get (v := .long (M.2 b2 2)) C hI hb2 i_SM rfl 2 (by decide) kw_1_93 rfl rfl d_SM_becomeRest_32 ?_
  refine lv_lsub hx hb d_SM_becomeRest_35 ?_
  refine gw_putl C hI hb0 i_SM rfl t_SM_ok n_SM 2 (by decide) kw_1_93 rfl rfl rfl rfl rfl d_SM_becomeRest_36 (fun H locs hI => ?_)
  exact gr_v C hI h d_SM_becomeRest_39
set_option maxHeartbeats 4000000 in
set_option maxRecDepth 100000 in
theorem c_SM_worthWith {l : Launch} {D : va_G} {cy : Nat → ClassId} {ad : Nat → Nat} (hj : gJ ad) {b0 : Nat} (hb0 : isSM b0) {a1 : Int32} {M : gM} {Q : Int64 → gM → Prop} (h : wp_SM_worthWith Q b0 a1 M) : Cl l y_SM_worthWith b_SM_worthWith 4 (some .long) rm_SM_worthWith D cy ad [.ref (ad b0), .int a1] M Q := by
  refine gm (by decide +kernel) hj (Nat.le_of_ble_eq_true rfl) (fun p e s m args below meth c ls C hl hI => ?_)
  have hl : lv_has ls 4 [(0, .ref (ad b0)), (1, .int a1)] := hl
  obtain ⟨hx, hb, hml, hown, hts, hr, hlk, hK, hja⟩ := id C
  refine lv_aload_n hx hb d_SM_worthWith_0 rfl (lv_at hl 0 rfl) ?_
  refine gw_get (v := .int (M.1 b0 1)) C hI hb0 i_SM rfl 1 (by decide) kw_1_91 rfl rfl d_SM_worthWith_1 ?_
  refine lv_i2l hx hb d_SM_worthWith_4 rfl ?_
  refine lv_iload_n hx hb d_SM_worthWith_5 rfl (lv_at hl 1 rfl) ?_
  refine lv_i2l hx hb d_SM_worthWith_6 rfl ?_
  refine lv_ladd hx hb d_SM_worthWith_7 ?_
  refine lv_lstore_n (lv' := [(2, .long (((M.1 b0 1).toInt64) + a1.toInt64)), (0, .ref (ad b0)), (1, .int a1)]) hx hb d_SM_worthWith_8 rfl hl (by decide) rfl (fun ls hl => ?_)
  refine lv_lload_n hx hb d_SM_worthWith_9 rfl (lv_at hl 0 rfl) ?_
  refine lv_lconst (v := 0) hx hb d_SM_worthWith_10 (by decide) ?_
  refine gl_ne (tgt := 19) C d_SM_worthWith_11 d_SM_worthWith_12 (by decide) (fun c2 => ?_) (fun c2 => ?_)
  · have h := h.1 c2
    refine lv_aload_n hx hb d_SM_worthWith_19 rfl (lv_at hl 1 rfl) ?_
    refine gw_get (v := .long (M.2 b0 2)) C hI hb0 i_SM rfl 2 (by decide) kw_1_93 rfl rfl d_SM_worthWith_20 ?_
    refine lv_aload_n hx hb d_SM_worthWith_23 rfl (lv_at hl 1 rfl) ?_
    refine gw_get (v := .long (M.2 b0 2)) C hI hb0 i_SM rfl 2 (by decide) kw_1_93 rfl rfl d_SM_worthWith_24 ?_
    refine lv_lmul hx hb d_SM_worthWith_27 ?_
    refine lv_lload_n hx hb d_SM_worthWith_28 rfl (lv_at hl 0 rfl) ?_
    obtain ⟨g1, h⟩ := h
    refine lv_ldiv hx hb d_SM_worthWith_29 g1 ?_
    exact gr_l C hI h d_SM_worthWith_30
  · have h := h.2 c2
    refine lv_lconst (v := 0) hx hb d_SM_worthWith_15 (by decide) ?_
    refine lv_goto (tgt := 30) hx hb d_SM_worthWith_16 (by decide) ?_
    exact gr_l C hI h d_SM_worthWith_30
set_option maxHeartbeats 4000000 in
set_option maxRecDepth 100000 in
theorem c_JM_min {l : Launch} {D : va_G} {cy : Nat → ClassId} {ad : Nat → Nat} (hj : gJ ad) {a0 : Int64} {a2 : Int64} {M : gM} {Q : Int64 → gM → Prop} (h : wp_JM_min Q a0 a2 M) : Cl l y_JM_min b_JM_min 4 (some .long) rm_JM_min D cy ad [.long a0, .long a2] M Q := by
  refine gm (by decide +kernel) hj (Nat.le_of_ble_eq_true rfl) (fun p e s m args below meth c ls C hl hI => ?_)
  have hl : lv_has ls 4 [(0, .long a0), (2, .long a2)] := hl
  obtain ⟨hx, hb, hml, hown, hts, hr, hlk, hK, hja⟩ := id C
  refine lv_lload_n hx hb d_JM_min_0 rfl (lv_at hl 0 rfl) ?_
  refine lv_lload_n hx hb d_JM_min_1 rfl (lv_at hl 1 rfl) ?_
  refine gl_gt (tgt := 10) C d_JM_min_2 d_JM_min_3 (by decide) (fun c1 => ?_) (fun c1 => ?_)
  · have h := h.1 c1
    refine lv_lload_n hx hb d_JM_min_10 rfl (lv_at hl 1 rfl) ?_
    exact gr_l C hI h d_JM_min_11
  · have h := h.2 c1
    refine lv_lload_n hx hb d_JM_min_6 rfl (lv_at hl 0 rfl) ?_
    refine lv_goto (tgt := 11) hx hb d_JM_min_7 (by decide) ?_
    exact gr_l C hI h d_JM_min_11
set_option maxHeartbeats 4000000 in
set_option maxRecDepth 100000 in
theorem c_JI_bitCount {l : Launch} {D : va_G} {cy : Nat → ClassId} {ad : Nat → Nat} (hj : gJ ad) {a0 : Int32} {M : gM} {Q : Int32 → gM → Prop} (h : wp_JI_bitCount Q a0 M) : Ci l y_JI_bitCount b_JI_bitCount 1 (some .int) rm_JI_bitCount D cy ad [.int a0] M Q := by
  refine gm (by decide +kernel) hj (Nat.le_of_ble_eq_true rfl) (fun p e s m args below meth c ls C hl hI => ?_)
  have hl : lv_has ls 1 [(0, .int a0)] := hl
  obtain ⟨hx, hb, hml, hown, hts, hr, hlk, hK, hja⟩ := id C
  refine lv_iload_n hx hb d_JI_bitCount_0 rfl (lv_at hl 0 rfl) ?_
  refine lv_iload_n hx hb d_JI_bitCount_1 rfl (lv_at hl 0 rfl) ?_
  refine lv_iconst (v := (1 : Int32)) hx hb d_JI_bitCount_2 (by decide) ?_
  refine lv_iushr (v := ushr a0 (1 : Int32)) hx hb d_JI_bitCount_3 rfl ?_
  refine lv_ldcw hx hb hown (hts _ kw_3_20) d_JI_bitCount_4 ?_
  refine lv_iand hx hb d_JI_bitCount_7 ?_
  refine lv_isub hx hb d_JI_bitCount_8 ?_
  refine lv_istore_n (lv' := [(0, .int (a0 - ((ushr a0 (1 : Int32)) &&& (1431655765 : Int32))))]) hx hb d_JI_bitCount_9 rfl hl (by decide) rfl (fun ls hl => ?_)
  refine lv_iload_n hx hb d_JI_bitCount_10 rfl (lv_at hl 0 rfl) ?_
  refine lv_ldcw hx hb hown (hts _ kw_3_21) d_JI_bitCount_11 ?_
  refine lv_iand hx hb d_JI_bitCount_14 ?_
  refine lv_iload_n hx hb d_JI_bitCount_15 rfl (lv_at hl 0 rfl) ?_
  refine lv_iconst (v := (2 : Int32)) hx hb d_JI_bitCount_16 (by decide) ?_
  refine lv_iushr (v := ushr (a0 - ((ushr a0 (1 : Int32)) &&& (1431655765 : Int32))) (2 : Int32)) hx hb d_JI_bitCount_17 rfl ?_
  refine lv_ldcw hx hb hown (hts _ kw_3_21) d_JI_bitCount_18 ?_
  refine lv_iand hx hb d_JI_bitCount_21 ?_
  refine lv_iadd hx hb d_JI_bitCount_22 ?_
  refine lv_istore_n (lv' := [(0, .int (((a0 - ((ushr a0 (1 : Int32)) &&& (1431655765 : Int32))) &&& (858993459 : Int32)) + ((ushr (a0 - ((ushr a0 (1 : Int32)) &&& (1431655765 : Int32))) (2 : Int32)) &&& (858993459 : Int32))))]) hx hb d_JI_bitCount_23 rfl hl (by decide) rfl (fun ls hl => ?_)
  refine lv_iload_n hx hb d_JI_bitCount_24 rfl (lv_at hl 0 rfl) ?_
  refine lv_iload_n hx hb d_JI_bitCount_25 rfl (lv_at hl 0 rfl) ?_
  refine lv_iconst (v := (4 : Int32)) hx hb d_JI_bitCount_26 (by decide) ?_
  refine lv_iushr (v := ushr (((a0 - ((ushr a0 (1 : Int32)) &&& (1431655765 : Int32))) &&& (858993459 : Int32)) + ((ushr (a0 - ((ushr a0 (1 : Int32)) &&& (1431655765 : Int32))) (2 : Int32)) &&& (858993459 : Int32))) (4 : Int32)) hx hb d_JI_bitCount_27 rfl ?_
  refine lv_iadd hx hb d_JI_bitCount_28 ?_
  refine lv_ldcw hx hb hown (hts _ kw_3_22) d_JI_bitCount_29 ?_
  refine lv_iand hx hb d_JI_bitCount_32 ?_
  refine lv_istore_n (lv' := [(0, .int (((((a0 - ((ushr a0 (1 : Int32)) &&& (1431655765 : Int32))) &&& (858993459 : Int32)) + ((ushr (a0 - ((ushr a0 (1 : Int32)) &&& (1431655765 : Int32))) (2 : Int32)) &&& (858993459 : Int32))) + (ushr (((a0 - ((ushr a0 (1 : Int32)) &&& (1431655765 : Int32))) &&& (858993459 : Int32)) + ((ushr (a0 - ((ushr a0 (1 : Int32)) &&& (1431655765 : Int32))) (2 : Int32)) &&& (858993459 : Int32))) (4 : Int32))) &&& (252645135 : Int32)))]) hx hb d_JI_bitCount_33 rfl hl (by decide) rfl (fun ls hl => ?_)
  refine lv_iload_n hx hb d_JI_bitCount_34 rfl (lv_at hl 0 rfl) ?_
  refine lv_iload_n hx hb d_JI_bitCount_35 rfl (lv_at hl 0 rfl) ?_
  refine lv_bipush (v := (8 : Int32)) hx hb d_JI_bitCount_36 (by decide) ?_
  refine lv_iushr (v := ushr (((((a0 - ((ushr a0 (1 : Int32)) &&& (1431655765 : Int32))) &&& (858993459 : Int32)) + ((ushr (a0 - ((ushr a0 (1 : Int32)) &&& (1431655765 : Int32))) (2 : Int32)) &&& (858993459 : Int32))) + (ushr (((a0 - ((ushr a0 (1 : Int32)) &&& (1431655765 : Int32))) &&& (858993459 : Int32)) + ((ushr (a0 - ((ushr a0 (1 : Int32)) &&& (1431655765 : Int32))) (2 : Int32)) &&& (858993459 : Int32))) (4 : Int32))) &&& (252645135 : Int32)) (8 : Int32)) hx hb d_JI_bitCount_38 rfl ?_
  refine lv_iadd hx hb d_JI_bitCount_39 ?_
  refine lv_istore_n (lv' := [(0, .int ((((((a0 - ((ushr a0 (1 : Int32)) &&& (1431655765 : Int32))) &&& (858993459 : Int32)) + ((ushr (a0 - ((ushr a0 (1 : Int32)) &&& (1431655765 : Int32))) (2 : Int32)) &&& (858993459 : Int32))) + (ushr (((a0 - ((ushr a0 (1 : Int32)) &&& (1431655765 : Int32))) &&& (858993459 : Int32)) + ((ushr (a0 - ((ushr a0 (1 : Int32)) &&& (1431655765 : Int32))) (2 : Int32)) &&& (858993459 : Int32))) (4 : Int32))) &&& (252645135 : Int32)) + (ushr (((((a0 - ((ushr a0 (1 : Int32)) &&& (1431655765 : Int32))) &&& (858993459 : Int32)) + ((ushr (a0 - ((ushr a0 (1 : Int32)) &&& (1431655765 : Int32))) (2 : Int32)) &&& (858993459 : Int32))) + (ushr (((a0 - ((ushr a0 (1 : Int32)) &&& (1431655765 : Int32))) &&& (858993459 : Int32)) + ((ushr (a0 - ((ushr a0 (1 : Int32)) &&& (1431655765 : Int32))) (2 : Int32)) &&& (858993459 : Int32))) (4 : Int32))) &&& (252645135 : Int32)) (8 : Int32))))]) hx hb d_JI_bitCount_40 rfl hl (by decide) rfl (fun ls hl => ?_)
  refine lv_iload_n hx hb d_JI_bitCount_41 rfl (lv_at hl 0 rfl) ?_
  refine lv_iload_n hx hb d_JI_bitCount_42 rfl (lv_at hl 0 rfl) ?_
  refine lv_bipush (v := (16 : Int32)) hx hb d_JI_bitCount_43 (by decide) ?_
  refine lv_iushr (v := ushr ((((((a0 - ((ushr a0 (1 : Int32)) &&& (1431655765 : Int32))) &&& (858993459 : Int32)) + ((ushr (a0 - ((ushr a0 (1 : Int32)) &&& (1431655765 : Int32))) (2 : Int32)) &&& (858993459 : Int32))) + (ushr (((a0 - ((ushr a0 (1 : Int32)) &&& (1431655765 : Int32))) &&& (858993459 : Int32)) + ((ushr (a0 - ((ushr a0 (1 : Int32)) &&& (1431655765 : Int32))) (2 : Int32)) &&& (858993459 : Int32))) (4 : Int32))) &&& (252645135 : Int32)) + (ushr (((((a0 - ((ushr a0 (1 : Int32)) &&& (1431655765 : Int32))) &&& (858993459 : Int32)) + ((ushr (a0 - ((ushr a0 (1 : Int32)) &&& (1431655765 : Int32))) (2 : Int32)) &&& (858993459 : Int32))) + (ushr (((a0 - ((ushr a0 (1 : Int32)) &&& (1431655765 : Int32))) &&& (858993459 : Int32)) + ((ushr (a0 - ((ushr a0 (1 : Int32)) &&& (1431655765 : Int32))) (2 : Int32)) &&& (858993459 : Int32))) (4 : Int32))) &&& (252645135 : Int32)) (8 : Int32))) (16 : Int32)) hx hb d_JI_bitCount_45 rfl ?_
  refine lv_iadd hx hb d_JI_bitCount_46 ?_
  refine lv_istore_n (lv' := [(0, .int (((((((a0 - ((ushr a0 (1 : Int32)) &&& (1431655765 : Int32))) &&& (858993459 : Int32)) + ((ushr (a0 - ((ushr a0 (1 : Int32)) &&& (1431655765 : Int32))) (2 : Int32)) &&& (858993459 : Int32))) + (ushr (((a0 - ((ushr a0 (1 : Int32)) &&& (1431655765 : Int32))) &&& (858993459 : Int32)) + ((ushr (a0 - ((ushr a0 (1 : Int32)) &&& (1431655765 : Int32))) (2 : Int32)) &&& (858993459 : Int32))) (4 : Int32))) &&& (252645135 : Int32)) + (ushr (((((a0 - ((ushr a0 (1 : Int32)) &&& (1431655765 : Int32))) &&& (858993459 : Int32)) + ((ushr (a0 - ((ushr a0 (1 : Int32)) &&& (1431655765 : Int32))) (2 : Int32)) &&& (858993459 : Int32))) + (ushr (((a0 - ((ushr a0 (1 : Int32)) &&& (1431655765 : Int32))) &&& (858993459 : Int32)) + ((ushr (a0 - ((ushr a0 (1 : Int32)) &&& (1431655765 : Int32))) (2 : Int32)) &&& (858993459 : Int32))) (4 : Int32))) &&& (252645135 : Int32)) (8 : Int32))) + (ushr ((((((a0 - ((ushr a0 (1 : Int32)) &&& (1431655765 : Int32))) &&& (858993459 : Int32)) + ((ushr (a0 - ((ushr a0 (1 : Int32)) &&& (1431655765 : Int32))) (2 : Int32)) &&& (858993459 : Int32))) + (ushr (((a0 - ((ushr a0 (1 : Int32)) &&& (1431655765 : Int32))) &&& (858993459 : Int32)) + ((ushr (a0 - ((ushr a0 (1 : Int32)) &&& (1431655765 : Int32))) (2 : Int32)) &&& (858993459 : Int32))) (4 : Int32))) &&& (252645135 : Int32)) + (ushr (((((a0 - ((ushr a0 (1 : Int32)) &&& (1431655765 : Int32))) &&& (858993459 : Int32)) + ((ushr (a0 - ((ushr a0 (1 : Int32)) &&& (1431655765 : Int32))) (2 : Int32)) &&& (858993459 : Int32))) + (ushr (((a0 - ((ushr a0 (1 : Int32)) &&& (1431655765 : Int32))) &&& (858993459 : Int32)) + ((ushr (a0 - ((ushr a0 (1 : Int32)) &&& (1431655765 : Int32))) (2 : Int32)) &&& (858993459 : Int32))) (4 : Int32))) &&& (252645135 : Int32)) (8 : Int32))) (16 : Int32))))]) hx hb d_JI_bitCount_47 rfl hl (by decide) rfl (fun ls hl => ?_)
  refine lv_iload_n hx hb d_JI_bitCount_48 rfl (lv_at hl 0 rfl) ?_
  refine lv_bipush (v := (63 : Int32)) hx hb d_JI_bitCount_49 (by decide) ?_
  refine lv_iand hx hb d_JI_bitCount_51 ?_
  exact gr_i C hI h d_JI_bitCount_52
set_option maxHeartbeats 4000000 in
set_option maxRecDepth 100000 in
theorem L_JM_floorDiv_27 {p : Program} {l : Launch} {e : Env} {s : State} {m : MethodId} {args : Array Value} {below : List Frame} {meth : Method} {c : Code} {D : va_G} {cy : Nat → ClassId} {ad : Nat → Nat} (C : Cx p s m args meth c b_JM_floorDiv 6 (some .long) "java/lang/Math" D cy ad) {Q : Int64 → gM → Prop} {x4 : Int64} {M : gM} {H : Heap} {locs : List Loc} {ls : Array Slot} (h : wp_JM_floorDiv_27 Q x4 M) (hI : gI D cy ad s M H locs) (hl : lv_has ls 6 [(4, .long x4)]) : W p l e rm_JM_floorDiv s m args below meth c H locs 0 0 (MQ below (va_Ql Q (gB D cy ad) (gA ad s.heap.size)) args s 0 0 (gA ad s.heap.size)) (F0 m 27 ls []) := by
  obtain ⟨hx, hb, hml, hown, hts, hr, hlk, hK, hja⟩ := id C
  refine lv_lload hx hb d_JM_floorDiv_27 (lv_at hl 0 rfl) ?_
  exact gr_l C hI h d_JM_floorDiv_29
set_option maxHeartbeats 4000000 in
set_option maxRecDepth 100000 in
theorem c_JM_floorDiv {l : Launch} {D : va_G} {cy : Nat → ClassId} {ad : Nat → Nat} (hj : gJ ad) {a0 : Int64} {a2 : Int64} {M : gM} {Q : Int64 → gM → Prop} (h : wp_JM_floorDiv Q a0 a2 M) : Cl l y_JM_floorDiv b_JM_floorDiv 6 (some .long) rm_JM_floorDiv D cy ad [.long a0, .long a2] M Q := by
  refine gm (by decide +kernel) hj (Nat.le_of_ble_eq_true rfl) (fun p e s m args below meth c ls C hl hI => ?_)
  have hl : lv_has ls 6 [(0, .long a0), (2, .long a2)] := hl
  obtain ⟨hx, hb, hml, hown, hts, hr, hlk, hK, hja⟩ := id C
  refine lv_lload_n hx hb d_JM_floorDiv_0 rfl (lv_at hl 0 rfl) ?_
  refine lv_lload_n hx hb d_JM_floorDiv_1 rfl (lv_at hl 1 rfl) ?_
  obtain ⟨g1, h⟩ := h
  refine lv_ldiv hx hb d_JM_floorDiv_2 g1 ?_
  refine lv_lstore (lv' := [(4, .long (a0 / a2)), (0, .long a0), (2, .long a2)]) hx hb d_JM_floorDiv_3 hl (by decide) rfl (fun ls hl => ?_)
  refine lv_lload_n hx hb d_JM_floorDiv_5 rfl (lv_at hl 1 rfl) ?_
  refine lv_lload_n hx hb d_JM_floorDiv_6 rfl (lv_at hl 2 rfl) ?_
  refine lv_lxor hx hb d_JM_floorDiv_7 ?_
  refine lv_lconst (v := 0) hx hb d_JM_floorDiv_8 (by decide) ?_
  refine gl_ge (tgt := 27) C d_JM_floorDiv_9 d_JM_floorDiv_10 (by decide) (fun c3 => ?_) (fun c3 => ?_)
  · have h := h.1 c3
    exact L_JM_floorDiv_27 C h hI (lv_sub hl [0] rfl)
  · have h := h.2 c3
    refine lv_lload hx hb d_JM_floorDiv_13 (lv_at hl 0 rfl) ?_
    refine lv_lload_n hx hb d_JM_floorDiv_15 rfl (lv_at hl 2 rfl) ?_
    refine lv_lmul hx hb d_JM_floorDiv_16 ?_
    refine lv_lload_n hx hb d_JM_floorDiv_17 rfl (lv_at hl 1 rfl) ?_
    refine gl_eq (tgt := 27) C d_JM_floorDiv_18 d_JM_floorDiv_19 (by decide) (fun c2 => ?_) (fun c2 => ?_)
    · have h := h.1 c2
      exact L_JM_floorDiv_27 C h hI (lv_sub hl [0] rfl)
    · have h := h.2 c2
      refine lv_lload hx hb d_JM_floorDiv_22 (lv_at hl 0 rfl) ?_
      refine lv_lconst (v := 1) hx hb d_JM_floorDiv_24 (by decide) ?_
      refine lv_lsub hx hb d_JM_floorDiv_25 ?_
      exact gr_l C hI h d_JM_floorDiv_26

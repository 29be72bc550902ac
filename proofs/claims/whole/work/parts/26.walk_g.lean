set_option maxHeartbeats 4000000 in
set_option maxRecDepth 100000 in
theorem L_MD_isNumber_15 {p : Program} {l : Launch} {e : Env} {s : State} {m : MethodId} {args : Array Value} {below : List Frame} {meth : Method} {c : Code} {D : va_G} {cy : Nat → ClassId} {ad : Nat → Nat} (C : Cx p s m args meth c b_MD_isNumber 1 (some .boolean) "BoostForestsModel" D cy ad) {Q : Int32 → gM → Prop} {M : gM} {H : Heap} {locs : List Loc} {ls : Array Slot} (h : wp_MD_isNumber_15 Q M) (hI : gI D cy ad s M H locs) (hl : lv_has ls 1 []) : W p l e rm_MD_isNumber s m args below meth c H locs 0 0 (MQ below (va_Qi Q (gB D cy ad) (gA ad s.heap.size)) args s 0 0 (gA ad s.heap.size)) (F0 m 15 ls []) := by
  obtain ⟨hx, hb, hml, hown, hts, hr, hlk, hK, hja⟩ := id C
  refine lv_iconst (v := (0 : Int32)) hx hb d_MD_isNumber_15 (by decide) ?_
  exact gr_z C hI rfl h d_MD_isNumber_16
set_option maxHeartbeats 4000000 in
set_option maxRecDepth 100000 in
theorem c_MD_isNumber {l : Launch} {D : va_G} {cy : Nat → ClassId} {ad : Nat → Nat} (hj : gJ ad) {a0 : Int32} {M : gM} {Q : Int32 → gM → Prop} (h : wp_MD_isNumber Q a0 M) : Ci l y_MD_isNumber b_MD_isNumber 1 (some .boolean) rm_MD_isNumber D cy ad [.int a0] M Q := by
  refine gm (by decide +kernel) hj (Nat.le_of_ble_eq_true rfl) (fun p e s m args below meth c ls C hl hI => ?_)
  have hl : lv_has ls 1 [(0, .int a0)] := hl
  obtain ⟨hx, hb, hml, hown, hts, hr, hlk, hK, hja⟩ := id C
  refine lv_iload_n hx hb d_MD_isNumber_0 rfl (lv_at hl 0 rfl) ?_
  refine lv_iconst (v := (-1 : Int32)) hx hb d_MD_isNumber_1 (by decide) ?_
  refine lv_icmp_lt (tgt := 15) hx hb d_MD_isNumber_2 (by decide) (fun c2 => ?_) (fun c2 => ?_)
  · have h := h.1 c2
    exact L_MD_isNumber_15 C h hI (lv_sub hl [] rfl)
  · have h := h.2 c2
    refine lv_iload_n hx hb d_MD_isNumber_5 rfl (lv_at hl 0 rfl) ?_
    refine lv_bipush (v := (32 : Int32)) hx hb d_MD_isNumber_6 (by decide) ?_
    refine lv_icmp_ge (tgt := 15) hx hb d_MD_isNumber_8 (by decide) (fun c1 => ?_) (fun c1 => ?_)
    · have h := h.1 c1
      exact L_MD_isNumber_15 C h hI (lv_sub hl [] rfl)
    · have h := h.2 c1
      refine lv_iconst (v := (1 : Int32)) hx hb d_MD_isNumber_11 (by decide) ?_
      refine lv_goto (tgt := 16) hx hb d_MD_isNumber_12 (by decide) ?_
      exact gr_z C hI rfl h d_MD_isNumber_16
set_option maxHeartbeats 4000000 in
set_option maxRecDepth 100000 in
theorem L_MD_areNumbers_32 {p : Program} {l : Launch} {e : Env} {s : State} {m : MethodId} {args : Array Value} {below : List Frame} {meth : Method} {c : Code} {D : va_G} {cy : Nat → ClassId} {ad : Nat → Nat} (C : Cx p s m args meth c b_MD_areNumbers 4 (some .boolean) "BoostForestsModel" D cy ad) {Q : Int32 → gM → Prop} {M : gM} {H : Heap} {locs : List Loc} {ls : Array Slot} (h : wp_MD_areNumbers_32 Q M) (hI : gI D cy ad s M H locs) (hl : lv_has ls 4 []) : W p l e rm_MD_areNumbers s m args below meth c H locs 0 0 (MQ below (va_Qi Q (gB D cy ad) (gA ad s.heap.size)) args s 0 0 (gA ad s.heap.size)) (F0 m 32 ls []) := by
  obtain ⟨hx, hb, hml, hown, hts, hr, hlk, hK, hja⟩ := id C
  refine lv_iconst (v := (0 : Int32)) hx hb d_MD_areNumbers_32 (by decide) ?_
  exact gr_z C hI rfl h d_MD_areNumbers_33
set_option maxHeartbeats 4000000 in
set_option maxRecDepth 100000 in
theorem c_MD_areNumbers {l : Launch} {D : va_G} {cy : Nat → ClassId} {ad : Nat → Nat} (hj : gJ ad) {a0 : Int32} {a1 : Int32} {a2 : Int32} {a3 : Int32} {M : gM} {Q : Int32 → gM → Prop} (h : wp_MD_areNumbers Q a0 a1 a2 a3 M) : Ci l y_MD_areNumbers b_MD_areNumbers 4 (some .boolean) rm_MD_areNumbers D cy ad [.int a0, .int a1, .int a2, .int a3] M Q := by
  refine gm (by decide +kernel) hj (Nat.le_of_ble_eq_true rfl) (fun p e s m args below meth c ls C hl hI => ?_)
  have hl : lv_has ls 4 [(0, .int a0), (1, .int a1), (2, .int a2), (3, .int a3)] := hl
  obtain ⟨hx, hb, hml, hown, hts, hr, hlk, hK, hja⟩ := id C
  refine lv_iload_n hx hb d_MD_areNumbers_0 rfl (lv_at hl 0 rfl) ?_
  refine gw_Si C hI hl.1 (As := [.int a0]) (rest := []) (c_MD_isNumber hja h) kS_MD_87 rfl ⟨rfl, rfl⟩ ⟨Nat.le_of_ble_eq_true rfl, Nat.le_of_ble_eq_true rfl⟩ rfl (Nat.le_of_ble_eq_true rfl) ⟨Nat.zero_le _, Nat.zero_le _⟩ d_MD_areNumbers_1 (fun r1 M2 H locs h hI => ?_)
  refine lv_if_eq (tgt := 32) hx hb d_MD_areNumbers_4 (by decide) (fun c12 => ?_) (fun c12 => ?_)
  · have h := h.1 c12
    exact L_MD_areNumbers_32 C h hI (lv_sub hl [] rfl)
  · have h := h.2 c12
    refine lv_iload_n hx hb d_MD_areNumbers_7 rfl (lv_at hl 1 rfl) ?_
    refine gw_Si C hI hl.1 (As := [.int a1]) (rest := []) (c_MD_isNumber hja h) kS_MD_87 rfl ⟨rfl, rfl⟩ ⟨Nat.le_of_ble_eq_true rfl, Nat.le_of_ble_eq_true rfl⟩ rfl (Nat.le_of_ble_eq_true rfl) ⟨Nat.zero_le _, Nat.zero_le _⟩ d_MD_areNumbers_8 (fun r3 M4 H locs h hI => ?_)
    refine lv_if_eq (tgt := 32) hx hb d_MD_areNumbers_11 (by decide) (fun c11 => ?_) (fun c11 => ?_)
    · have h := h.1 c11
      exact L_MD_areNumbers_32 C h hI (lv_sub hl [] rfl)
    · have h := h.2 c11
      refine lv_iload_n hx hb d_MD_areNumbers_14 rfl (lv_at hl 2 rfl) ?_
      refine gw_Si C hI hl.1 (As := [.int a2]) (rest := []) (c_MD_isNumber hja h) kS_MD_87 rfl ⟨rfl, rfl⟩ ⟨Nat.le_of_ble_eq_true rfl, Nat.le_of_ble_eq_true rfl⟩ rfl (Nat.le_of_ble_eq_true rfl) ⟨Nat.zero_le _, Nat.zero_le _⟩ d_MD_areNumbers_15 (fun r5 M6 H locs h hI => ?_)
      refine lv_if_eq (tgt := 32) hx hb d_MD_areNumbers_18 (by decide) (fun c10 => ?_) (fun c10 => ?_)
      · have h := h.1 c10
        exact L_MD_areNumbers_32 C h hI (lv_sub hl [] rfl)
      · have h := h.2 c10
        refine lv_iload_n hx hb d_MD_areNumbers_21 rfl (lv_at hl 3 rfl) ?_
        refine gw_Si C hI hl.1 (As := [.int a3]) (rest := []) (c_MD_isNumber hja h) kS_MD_87 rfl ⟨rfl, rfl⟩ ⟨Nat.le_of_ble_eq_true rfl, Nat.le_of_ble_eq_true rfl⟩ rfl (Nat.le_of_ble_eq_true rfl) ⟨Nat.zero_le _, Nat.zero_le _⟩ d_MD_areNumbers_22 (fun r7 M8 H locs h hI => ?_)
        refine lv_if_eq (tgt := 32) hx hb d_MD_areNumbers_25 (by decide) (fun c9 => ?_) (fun c9 => ?_)
        · have h := h.1 c9
          exact L_MD_areNumbers_32 C h hI (lv_sub hl [] rfl)
        · have h := h.2 c9
          refine lv_iconst (v := (1 : Int32)) hx hb d_MD_areNumbers_28 (by decide) ?_
          refine lv_goto (tgt := 33) hx hb d_MD_areNumbers_29 (by decide) ?_
          exact gr_z C hI rfl h d_MD_areNumbers_33
set_option maxHeartbeats 4000000 in
set_option maxRecDepth 100000 in
theorem c_MD_number {l : Launch} {D : va_G} {cy : Nat → ClassId} {ad : Nat → Nat} (hj : gJ ad) {a0 : Int32} {a1 : Int32} {a2 : Int32} {a3 : Int32} {a4 : Int32} {M : gM} {Q : Int32 → gM → Prop} (h : wp_MD_number Q a0 a1 a2 a3 a4 M) : Ci l y_MD_number b_MD_number 5 (some .int) rm_MD_number D cy ad [.int a0, .int a1, .int a2, .int a3, .int a4] M Q := by
  refine gm (by decide +kernel) hj (Nat.le_of_ble_eq_true rfl) (fun p e s m args below meth c ls C hl hI => ?_)
  have hl : lv_has ls 5 [(0, .int a0), (1, .int a1), (2, .int a2), (3, .int a3), (4, .int a4)] := hl
  obtain ⟨hx, hb, hml, hown, hts, hr, hlk, hK, hja⟩ := id C
  refine lv_iload_n hx hb d_MD_number_0 rfl (lv_at hl 0 rfl) ?_
  refine lv_if_ne (tgt := 8) hx hb d_MD_number_1 (by decide) (fun c3 => ?_) (fun c3 => ?_)
  · have h := h.1 c3
    refine lv_iload_n hx hb d_MD_number_8 rfl (lv_at hl 0 rfl) ?_
    refine lv_iconst (v := (1 : Int32)) hx hb d_MD_number_9 (by decide) ?_
    refine lv_icmp_ne (tgt := 17) hx hb d_MD_number_10 (by decide) (fun c2 => ?_) (fun c2 => ?_)
    · have h := h.1 c2
      refine lv_iload_n hx hb d_MD_number_17 rfl (lv_at hl 0 rfl) ?_
      refine lv_iconst (v := (2 : Int32)) hx hb d_MD_number_18 (by decide) ?_
      refine lv_icmp_ne (tgt := 26) hx hb d_MD_number_19 (by decide) (fun c1 => ?_) (fun c1 => ?_)
      · have h := h.1 c1
        refine lv_iload hx hb d_MD_number_26 (lv_at hl 4 rfl) ?_
        exact gr_i C hI h d_MD_number_28
      · have h := h.2 c1
        refine lv_iload_n hx hb d_MD_number_22 rfl (lv_at hl 3 rfl) ?_
        refine lv_goto (tgt := 28) hx hb d_MD_number_23 (by decide) ?_
        exact gr_i C hI h d_MD_number_28
    · have h := h.2 c2
      refine lv_iload_n hx hb d_MD_number_13 rfl (lv_at hl 2 rfl) ?_
      refine lv_goto (tgt := 28) hx hb d_MD_number_14 (by decide) ?_
      exact gr_i C hI h d_MD_number_28
  · have h := h.2 c3
    refine lv_iload_n hx hb d_MD_number_4 rfl (lv_at hl 1 rfl) ?_
    refine lv_goto (tgt := 28) hx hb d_MD_number_5 (by decide) ?_
    exact gr_i C hI h d_MD_number_28
set_option maxHeartbeats 4000000 in
set_option maxRecDepth 100000 in
theorem L_MD_row_53 {p : Program} {l : Launch} {e : Env} {s : State} {m : MethodId} {args : Array Value} {below : List Frame} {meth : Method} {c : Code} {D : va_G} {cy : Nat → ClassId} {ad : Nat → Nat} (C : Cx p s m args meth c b_MD_row 8 (some .int) "BoostForestsModel" D cy ad) {Q : Int32 → gM → Prop} (n : Nat) : ∀ (x1 : Int32) (x2 : Int32) (x3 : Int32) (x4 : Int32) (x5 : Int32) (x6 : Int32) (x7 : Int32) (M : gM) (H : Heap) (locs : List Loc) (ls : Array Slot), wp_MD_row_53 Q n x1 x2 x3 x4 x5 x6 x7 M → gI D cy ad s M H locs → lv_has ls 8 [(0, .ref (ad 273)), (1, .int x1), (2, .int x2), (3, .int x3), (4, .int x4), (5, .int x5), (6, .int x6), (7, .int x7)] → W p l e rm_MD_row s m args below meth c H locs 0 0 (MQ below (va_Qi Q (gB D cy ad) (gA ad s.heap.size)) args s 0 0 (gA ad s.heap.size)) (F0 m 53 ls []) := by
  obtain ⟨hx, hb, hml, hown, hts, hr, hlk, hK, hja⟩ := id C
  induction n with
  | zero => exact fun _ _ _ _ _ _ _ _ _ _ _ h _ _ => h.elim
  | succ n ih =>
    intro x1 x2 x3 x4 x5 x6 x7 M H locs ls h hI hl
    have h := h
    refine lv_iload hx hb d_MD_row_53 (lv_at hl 7 rfl) ?_
    refine lv_iconst (v := (4 : Int32)) hx hb d_MD_row_55 (by decide) ?_
    refine lv_icmp_ge (tgt := 89) hx hb d_MD_row_56 (by decide) (fun c5 => ?_) (fun c5 => ?_)
    · have h := h.1 c5
      refine lv_aload_n hx hb d_MD_row_89 rfl (lv_at hl 0 rfl) ?_
      refine gw_get (v := .ref (ad 275)) C hI lay_273 i_MD rfl 2 (by decide) kw_3_73 rfl rfl d_MD_row_90 ?_
      refine lv_aload_n hx hb d_MD_row_93 rfl (lv_at hl 0 rfl) ?_
      refine gw_get (v := .int (M.1 273 0)) C hI lay_273 i_MD rfl 0 (by decide) kw_3_71 rfl rfl d_MD_row_94 ?_
      refine lv_iload hx hb d_MD_row_97 (lv_at hl 5 rfl) ?_
      obtain ⟨g1, h⟩ := h
      refine gw_iast C hI lay_275 (j := (M.1 273 0).toNatClampNeg) rfl g1 d_MD_row_99 (fun H locs hI => ?_)
      refine lv_aload_n hx hb d_MD_row_100 rfl (lv_at hl 0 rfl) ?_
      refine gw_get (v := .ref (ad 276)) C hI lay_273 i_MD rfl 3 (by decide) kw_3_74 rfl rfl d_MD_row_101 ?_
      refine lv_aload_n hx hb d_MD_row_104 rfl (lv_at hl 0 rfl) ?_
      refine gw_get (v := .int (M.1 273 0)) C hI lay_273 i_MD rfl 0 (by decide) kw_3_71 rfl rfl d_MD_row_105 ?_
      refine lv_iload hx hb d_MD_row_108 (lv_at hl 6 rfl) ?_
      refine gw_iast C hI lay_276 (j := (M.1 273 0).toNatClampNeg) rfl g1 d_MD_row_110 (fun H locs hI => ?_)
      refine lv_aload_n hx hb d_MD_row_111 rfl (lv_at hl 0 rfl) ?_
      refine gw_get (v := .ref (ad 277)) C hI lay_273 i_MD rfl 4 (by decide) kw_3_75 rfl rfl d_MD_row_112 ?_
      refine lv_aload_n hx hb d_MD_row_115 rfl (lv_at hl 0 rfl) ?_
      refine gw_get (v := .int (M.1 273 0)) C hI lay_273 i_MD rfl 0 (by decide) kw_3_71 rfl rfl d_MD_row_116 ?_
      refine lv_iconst (v := (0 : Int32)) hx hb d_MD_row_119 (by decide) ?_
      refine gw_zast C hI lay_277 (j := (M.1 273 0).toNatClampNeg) rfl g1 d_MD_row_120 (fun H locs hI => ?_)
      refine lv_aload_n hx hb d_MD_row_121 rfl (lv_at hl 0 rfl) ?_
      refine lv_dup hx hb d_MD_row_122 rfl ?_
      refine gw_get (v := .int (M.1 273 0)) C hI lay_273 i_MD rfl 0 (by decide) kw_3_71 rfl rfl d_MD_row_123 ?_
      refine lv_iconst (v := (1 : Int32)) hx hb d_MD_row_126 (by decide) ?_
      refine lv_iadd hx hb d_MD_row_127 ?_
      refine gw_puti C hI lay_273 i_MD rfl t_MD_ok n_MD 0 (by decide) kw_3_71 rfl rfl rfl rfl rfl d_MD_row_128 (fun H locs hI => ?_)
      refine lv_aload_n hx hb d_MD_row_131 rfl (lv_at hl 0 rfl) ?_
      refine gw_get (v := .int ((M.1 273 0) + (1 : Int32))) C hI lay_273 i_MD rfl 0 (by decide) kw_3_71 rfl rfl d_MD_row_132 ?_
      refine lv_iconst (v := (1 : Int32)) hx hb d_MD_row_135 (by decide) ?_
      refine lv_isub hx hb d_MD_row_136 ?_
      exact gr_i C hI h d_MD_row_137
    · have h := h.2 c5
      refine lv_aload_n hx hb d_MD_row_59 rfl (lv_at hl 0 rfl) ?_
      refine gw_get (v := .ref (ad 274)) C hI lay_273 i_MD rfl 1 (by decide) kw_3_72 rfl rfl d_MD_row_60 ?_
      refine lv_iconst (v := (4 : Int32)) hx hb d_MD_row_63 (by decide) ?_
      refine lv_aload_n hx hb d_MD_row_64 rfl (lv_at hl 0 rfl) ?_
      refine gw_get (v := .int (M.1 273 0)) C hI lay_273 i_MD rfl 0 (by decide) kw_3_71 rfl rfl d_MD_row_65 ?_
      refine lv_imul hx hb d_MD_row_68 ?_
      refine lv_iload hx hb d_MD_row_69 (lv_at hl 7 rfl) ?_
      refine lv_iadd hx hb d_MD_row_71 ?_
      refine lv_iload hx hb d_MD_row_72 (lv_at hl 7 rfl) ?_
      refine lv_iload_n hx hb d_MD_row_74 rfl (lv_at hl 1 rfl) ?_
      refine lv_iload_n hx hb d_MD_row_75 rfl (lv_at hl 2 rfl) ?_
      refine lv_iload_n hx hb d_MD_row_76 rfl (lv_at hl 3 rfl) ?_
      refine lv_iload hx hb d_MD_row_77 (lv_at hl 4 rfl) ?_
      refine gw_Si C hI hl.1 (As := [.int x7, .int x1, .int x2, .int x3, .int x4]) (rest := [.int (((4 : Int32) * (M.1 273 0)) + x7), .ref (ad 274)]) (c_MD_number hja h) kS_MD_99 rfl ⟨rfl, rfl⟩ ⟨Nat.le_of_ble_eq_true rfl, Nat.le_of_ble_eq_true rfl⟩ rfl (Nat.le_of_ble_eq_true rfl) ⟨Nat.zero_le _, Nat.zero_le _⟩ d_MD_row_79 (fun r2 M3 H locs h hI => ?_)
      obtain ⟨g4, h⟩ := h
      refine gw_iast C hI lay_274 (j := (((4 : Int32) * (M.1 273 0)) + x7).toNatClampNeg) rfl g4 d_MD_row_82 (fun H locs hI => ?_)
      refine lv_iinc (v := x7 + 1) (lv' := [(7, .int (x7 + 1)), (0, .ref (ad 273)), (1, .int x1), (2, .int x2), (3, .int x3), (4, .int x4), (5, .int x5), (6, .int x6)]) hx hb d_MD_row_83 hl (k := 7) rfl rfl (by decide) rfl (fun ls hl => ?_)
      refine lv_goto (tgt := 53) hx hb d_MD_row_86 (by decide) ?_
      exact ih x1 x2 x3 x4 x5 x6 (x7 + 1) (wi M3 (274) ((((4 : Int32) * (M.1 273 0)) + x7).toNatClampNeg) r2) _ _ _ h hI (lv_sub hl [1, 2, 3, 4, 5, 6, 7, 0] rfl)
set_option maxHeartbeats 4000000 in
set_option maxRecDepth 100000 in
theorem L_MD_row_47 {p : Program} {l : Launch} {e : Env} {s : State} {m : MethodId} {args : Array Value} {below : List Frame} {meth : Method} {c : Code} {D : va_G} {cy : Nat → ClassId} {ad : Nat → Nat} (C : Cx p s m args meth c b_MD_row 8 (some .int) "BoostForestsModel" D cy ad) {Q : Int32 → gM → Prop} {M : gM} {H : Heap} {locs : List Loc} {ls : Array Slot} (h : wp_MD_row_47 Q M) (hI : gI D cy ad s M H locs) (hl : lv_has ls 8 []) : W p l e rm_MD_row s m args below meth c H locs 0 0 (MQ below (va_Qi Q (gB D cy ad) (gA ad s.heap.size)) args s 0 0 (gA ad s.heap.size)) (F0 m 47 ls []) := by
  obtain ⟨hx, hb, hml, hown, hts, hr, hlk, hK, hja⟩ := id C
  refine lv_bipush (v := (-2 : Int32)) hx hb d_MD_row_47 (by decide) ?_
  exact gr_i C hI h d_MD_row_49
set_option maxHeartbeats 4000000 in
set_option maxRecDepth 100000 in
theorem c_MD_row {l : Launch} {D : va_G} {cy : Nat → ClassId} {ad : Nat → Nat} (hj : gJ ad) {a1 : Int32} {a2 : Int32} {a3 : Int32} {a4 : Int32} {a5 : Int32} {a6 : Int32} {M : gM} {Q : Int32 → gM → Prop} (h : wp_MD_row Q a1 a2 a3 a4 a5 a6 M) : Ci l y_MD_row b_MD_row 8 (some .int) rm_MD_row D cy ad [.ref (ad 273), .int a1, .int a2, .int a3, .int a4, .int a5, .int a6] M Q := by
  refine gm (by decide +kernel) hj (Nat.le_of_ble_eq_true rfl) (fun p e s m args below meth c ls C hl hI => ?_)
  have hl : lv_has ls 8 [(0, .ref (ad 273)), (1, .int a1), (2, .int a2), (3, .int a3), (4, .int a4), (5, .int a5), (6, .int a6)] := hl
  obtain ⟨hx, hb, hml, hown, hts, hr, hlk, hK, hja⟩ := id C
  refine lv_iload_n hx hb d_MD_row_0 rfl (lv_at hl 1 rfl) ?_
  refine lv_iload_n hx hb d_MD_row_1 rfl (lv_at hl 2 rfl) ?_
  refine lv_iload_n hx hb d_MD_row_2 rfl (lv_at hl 3 rfl) ?_
  refine lv_iload hx hb d_MD_row_3 (lv_at hl 4 rfl) ?_
  refine gw_Si C hI hl.1 (As := [.int a1, .int a2, .int a3, .int a4]) (rest := []) (c_MD_areNumbers hja h) kS_MD_91 rfl ⟨rfl, rfl⟩ ⟨Nat.le_of_ble_eq_true rfl, Nat.le_of_ble_eq_true rfl⟩ rfl (Nat.le_of_ble_eq_true rfl) ⟨Nat.zero_le _, Nat.zero_le _⟩ d_MD_row_5 (fun r6 M7 H locs h hI => ?_)
  refine lv_if_eq (tgt := 47) hx hb d_MD_row_8 (by decide) (fun c14 => ?_) (fun c14 => ?_)
  · have h := h.1 c14
    exact L_MD_row_47 C h hI (lv_sub hl [] rfl)
  · have h := h.2 c14
    refine lv_iload hx hb d_MD_row_11 (lv_at hl 5 rfl) ?_
    refine lv_bipush (v := (-100 : Int32)) hx hb d_MD_row_13 (by decide) ?_
    refine lv_icmp_lt (tgt := 47) hx hb d_MD_row_15 (by decide) (fun c13 => ?_) (fun c13 => ?_)
    · have h := h.1 c13
      exact L_MD_row_47 C h hI (lv_sub hl [] rfl)
    · have h := h.2 c13
      refine lv_iload hx hb d_MD_row_18 (lv_at hl 5 rfl) ?_
      refine lv_bipush (v := (100 : Int32)) hx hb d_MD_row_20 (by decide) ?_
      refine lv_icmp_gt (tgt := 47) hx hb d_MD_row_22 (by decide) (fun c12 => ?_) (fun c12 => ?_)
      · have h := h.1 c12
        exact L_MD_row_47 C h hI (lv_sub hl [] rfl)
      · have h := h.2 c12
        refine lv_iload hx hb d_MD_row_25 (lv_at hl 6 rfl) ?_
        refine lv_iconst (v := (1 : Int32)) hx hb d_MD_row_27 (by decide) ?_
        refine lv_icmp_lt (tgt := 47) hx hb d_MD_row_28 (by decide) (fun c11 => ?_) (fun c11 => ?_)
        · have h := h.1 c11
          exact L_MD_row_47 C h hI (lv_sub hl [] rfl)
        · have h := h.2 c11
          refine lv_iload hx hb d_MD_row_31 (lv_at hl 6 rfl) ?_
          refine lv_bipush (v := (8 : Int32)) hx hb d_MD_row_33 (by decide) ?_
          refine lv_icmp_gt (tgt := 47) hx hb d_MD_row_35 (by decide) (fun c10 => ?_) (fun c10 => ?_)
          · have h := h.1 c10
            exact L_MD_row_47 C h hI (lv_sub hl [] rfl)
          · have h := h.2 c10
            refine lv_aload_n hx hb d_MD_row_38 rfl (lv_at hl 0 rfl) ?_
            refine gw_get (v := .int (M7.1 273 0)) C hI lay_273 i_MD rfl 0 (by decide) kw_3_71 rfl rfl d_MD_row_39 ?_
            refine lv_bipush (v := (40 : Int32)) hx hb d_MD_row_42 (by decide) ?_
            refine lv_icmp_ne (tgt := 50) hx hb d_MD_row_44 (by decide) (fun c9 => ?_) (fun c9 => ?_)
            · have h := h.1 c9
              refine lv_iconst (v := (0 : Int32)) hx hb d_MD_row_50 (by decide) ?_
              refine lv_istore (lv' := [(7, .int (0 : Int32)), (0, .ref (ad 273)), (1, .int a1), (2, .int a2), (3, .int a3), (4, .int a4), (5, .int a5), (6, .int a6)]) hx hb d_MD_row_51 hl (by decide) rfl (fun ls hl => ?_)
              obtain ⟨n8, h⟩ := h
              exact L_MD_row_53 C n8 a1 a2 a3 a4 a5 a6 (0 : Int32) M7 _ _ _ h hI (lv_sub hl [1, 2, 3, 4, 5, 6, 7, 0] rfl)
            · have h := h.2 c9
              exact L_MD_row_47 C h hI (lv_sub hl [] rfl)
set_option maxHeartbeats 4000000 in
set_option maxRecDepth 100000 in
theorem L_MD_hold_54 {p : Program} {l : Launch} {e : Env} {s : State} {m : MethodId} {args : Array Value} {below : List Frame} {meth : Method} {c : Code} {D : va_G} {cy : Nat → ClassId} {ad : Nat → Nat} (C : Cx p s m args meth c b_MD_hold 4 (some .int) "BoostForestsModel" D cy ad) {Q : Int32 → gM → Prop} {x3 : Int32} {s0 : Int32} {s1 : Int32} {M : gM} {H : Heap} {locs : List Loc} {ls : Array Slot} (h : wp_MD_hold_54 Q x3 s0 s1 M) (hI : gI D cy ad s M H locs) (hl : lv_has ls 4 [(3, .int x3)]) : W p l e rm_MD_hold s m args below meth c H locs 0 0 (MQ below (va_Qi Q (gB D cy ad) (gA ad s.heap.size)) args s 0 0 (gA ad s.heap.size)) (F0 m 54 ls [.int s0, .int s1, .ref (ad 277)]) := by
  obtain ⟨hx, hb, hml, hown, hts, hr, hlk, hK, hja⟩ := id C
  obtain ⟨g1, h⟩ := h
  refine gw_zast C hI lay_277 (j := s1.toNatClampNeg) rfl g1 d_MD_hold_54 (fun H locs hI => ?_)
  refine lv_iload_n hx hb d_MD_hold_55 rfl (lv_at hl 0 rfl) ?_
  exact gr_i C hI h d_MD_hold_56
set_option maxHeartbeats 4000000 in
set_option maxRecDepth 100000 in
theorem L_MD_hold_38 {p : Program} {l : Launch} {e : Env} {s : State} {m : MethodId} {args : Array Value} {below : List Frame} {meth : Method} {c : Code} {D : va_G} {cy : Nat → ClassId} {ad : Nat → Nat} (C : Cx p s m args meth c b_MD_hold 4 (some .int) "BoostForestsModel" D cy ad) {Q : Int32 → gM → Prop} {x1 : Int32} {x2 : Int32} {s0 : Int32} {M : gM} {H : Heap} {locs : List Loc} {ls : Array Slot} (h : wp_MD_hold_38 Q x1 x2 s0 M) (hI : gI D cy ad s M H locs) (hl : lv_has ls 4 [(0, .ref (ad 273)), (1, .int x1), (2, .int x2)]) : W p l e rm_MD_hold s m args below meth c H locs 0 0 (MQ below (va_Qi Q (gB D cy ad) (gA ad s.heap.size)) args s 0 0 (gA ad s.heap.size)) (F0 m 38 ls [.int s0]) := by
  obtain ⟨hx, hb, hml, hown, hts, hr, hlk, hK, hja⟩ := id C
  refine lv_istore_n (lv' := [(3, .int s0), (0, .ref (ad 273)), (1, .int x1), (2, .int x2)]) hx hb d_MD_hold_38 rfl hl (by decide) rfl (fun ls hl => ?_)
  refine lv_aload_n hx hb d_MD_hold_39 rfl (lv_at hl 1 rfl) ?_
  refine gw_get (v := .ref (ad 277)) C hI lay_273 i_MD rfl 4 (by decide) kw_3_75 rfl rfl d_MD_hold_40 ?_
  refine lv_iload_n hx hb d_MD_hold_43 rfl (lv_at hl 2 rfl) ?_
  refine lv_iload_n hx hb d_MD_hold_44 rfl (lv_at hl 3 rfl) ?_
  refine lv_iconst (v := (1 : Int32)) hx hb d_MD_hold_45 (by decide) ?_
  refine lv_icmp_ne (tgt := 53) hx hb d_MD_hold_46 (by decide) (fun c2 => ?_) (fun c2 => ?_)
  · have h := h.1 c2
    refine lv_iconst (v := (0 : Int32)) hx hb d_MD_hold_53 (by decide) ?_
    exact L_MD_hold_54 C h hI (lv_sub hl [0] rfl)
  · have h := h.2 c2
    refine lv_iconst (v := (1 : Int32)) hx hb d_MD_hold_49 (by decide) ?_
    refine lv_goto (tgt := 54) hx hb d_MD_hold_50 (by decide) ?_
    exact L_MD_hold_54 C h hI (lv_sub hl [0] rfl)
set_option maxHeartbeats 4000000 in
set_option maxRecDepth 100000 in
theorem L_MD_hold_21 {p : Program} {l : Launch} {e : Env} {s : State} {m : MethodId} {args : Array Value} {below : List Frame} {meth : Method} {c : Code} {D : va_G} {cy : Nat → ClassId} {ad : Nat → Nat} (C : Cx p s m args meth c b_MD_hold 4 (some .int) "BoostForestsModel" D cy ad) {Q : Int32 → gM → Prop} {M : gM} {H : Heap} {locs : List Loc} {ls : Array Slot} (h : wp_MD_hold_21 Q M) (hI : gI D cy ad s M H locs) (hl : lv_has ls 4 []) : W p l e rm_MD_hold s m args below meth c H locs 0 0 (MQ below (va_Qi Q (gB D cy ad) (gA ad s.heap.size)) args s 0 0 (gA ad s.heap.size)) (F0 m 21 ls []) := by
  obtain ⟨hx, hb, hml, hown, hts, hr, hlk, hK, hja⟩ := id C
  refine lv_bipush (v := (-2 : Int32)) hx hb d_MD_hold_21 (by decide) ?_
  exact gr_i C hI h d_MD_hold_23
set_option maxHeartbeats 4000000 in
set_option maxRecDepth 100000 in
theorem c_MD_hold {l : Launch} {D : va_G} {cy : Nat → ClassId} {ad : Nat → Nat} (hj : gJ ad) {a1 : Int32} {a2 : Int32} {M : gM} {Q : Int32 → gM → Prop} (h : wp_MD_hold Q a1 a2 M) : Ci l y_MD_hold b_MD_hold 4 (some .int) rm_MD_hold D cy ad [.ref (ad 273), .int a1, .int a2] M Q := by
  refine gm (by decide +kernel) hj (Nat.le_of_ble_eq_true rfl) (fun p e s m args below meth c ls C hl hI => ?_)
  have hl : lv_has ls 4 [(0, .ref (ad 273)), (1, .int a1), (2, .int a2)] := hl
  obtain ⟨hx, hb, hml, hown, hts, hr, hlk, hK, hja⟩ := id C
  refine lv_iload_n hx hb d_MD_hold_0 rfl (lv_at hl 1 rfl) ?_
  refine lv_if_lt (tgt := 21) hx hb d_MD_hold_1 (by decide) (fun c8 => ?_) (fun c8 => ?_)
  · have h := h.1 c8
    exact L_MD_hold_21 C h hI (lv_sub hl [] rfl)
  · have h := h.2 c8
    refine lv_iload_n hx hb d_MD_hold_4 rfl (lv_at hl 1 rfl) ?_
    refine lv_aload_n hx hb d_MD_hold_5 rfl (lv_at hl 0 rfl) ?_
    refine gw_get (v := .int (M.1 273 0)) C hI lay_273 i_MD rfl 0 (by decide) kw_3_71 rfl rfl d_MD_hold_6 ?_
    refine lv_icmp_ge (tgt := 21) hx hb d_MD_hold_9 (by decide) (fun c7 => ?_) (fun c7 => ?_)
    · have h := h.1 c7
      exact L_MD_hold_21 C h hI (lv_sub hl [] rfl)
    · have h := h.2 c7
      refine lv_iload_n hx hb d_MD_hold_12 rfl (lv_at hl 2 rfl) ?_
      refine lv_if_lt (tgt := 21) hx hb d_MD_hold_13 (by decide) (fun c6 => ?_) (fun c6 => ?_)
      · have h := h.1 c6
        exact L_MD_hold_21 C h hI (lv_sub hl [] rfl)
      · have h := h.2 c6
        refine lv_iload_n hx hb d_MD_hold_16 rfl (lv_at hl 2 rfl) ?_
        refine lv_iconst (v := (1 : Int32)) hx hb d_MD_hold_17 (by decide) ?_
        refine lv_icmp_le (tgt := 24) hx hb d_MD_hold_18 (by decide) (fun c5 => ?_) (fun c5 => ?_)
        · have h := h.1 c5
          refine lv_aload_n hx hb d_MD_hold_24 rfl (lv_at hl 0 rfl) ?_
          refine gw_get (v := .ref (ad 277)) C hI lay_273 i_MD rfl 4 (by decide) kw_3_75 rfl rfl d_MD_hold_25 ?_
          refine lv_iload_n hx hb d_MD_hold_28 rfl (lv_at hl 1 rfl) ?_
          obtain ⟨g3, h⟩ := h
          refine gw_zald C hI lay_277 (j := a1.toNatClampNeg) rfl (v := M.1 277 a1.toNatClampNeg) rfl g3 d_MD_hold_29 ?_
          refine lv_if_eq (tgt := 37) hx hb d_MD_hold_30 (by decide) (fun c4 => ?_) (fun c4 => ?_)
          · have h := h.1 c4
            refine lv_iconst (v := (0 : Int32)) hx hb d_MD_hold_37 (by decide) ?_
            exact L_MD_hold_38 C h hI (lv_sub hl [0, 1, 2] rfl)
          · have h := h.2 c4
            refine lv_iconst (v := (1 : Int32)) hx hb d_MD_hold_33 (by decide) ?_
            refine lv_goto (tgt := 38) hx hb d_MD_hold_34 (by decide) ?_
            exact L_MD_hold_38 C h hI (lv_sub hl [0, 1, 2] rfl)
        · have h := h.2 c5
          exact L_MD_hold_21 C h hI (lv_sub hl [] rfl)
set_option maxHeartbeats 4000000 in
set_option maxRecDepth 100000 in
theorem L_MD_isSetting_206 {p : Program} {l : Launch} {e : Env} {s : State} {m : MethodId} {args : Array Value} {below : List Frame} {meth : Method} {c : Code} {D : va_G} {cy : Nat → ClassId} {ad : Nat → Nat} (C : Cx p s m args meth c b_MD_isSetting 2 (some .boolean) "BoostForestsModel" D cy ad) {Q : Int32 → gM → Prop} {M : gM} {H : Heap} {locs : List Loc} {ls : Array Slot} (h : wp_MD_isSetting_206 Q M) (hI : gI D cy ad s M H locs) (hl : lv_has ls 2 []) : W p l e rm_MD_isSetting s m args below meth c H locs 0 0 (MQ below (va_Qi Q (gB D cy ad) (gA ad s.heap.size)) args s 0 0 (gA ad s.heap.size)) (F0 m 206 ls []) := by
  obtain ⟨hx, hb, hml, hown, hts, hr, hlk, hK, hja⟩ := id C
  refine lv_iconst (v := (0 : Int32)) hx hb d_MD_isSetting_206 (by decide) ?_
  exact gr_z C hI rfl h d_MD_isSetting_207
set_option maxHeartbeats 4000000 in
set_option maxRecDepth 100000 in
theorem L_MD_isSetting_176 {p : Program} {l : Launch} {e : Env} {s : State} {m : MethodId} {args : Array Value} {below : List Frame} {meth : Method} {c : Code} {D : va_G} {cy : Nat → ClassId} {ad : Nat → Nat} (C : Cx p s m args meth c b_MD_isSetting 2 (some .boolean) "BoostForestsModel" D cy ad) {Q : Int32 → gM → Prop} {M : gM} {H : Heap} {locs : List Loc} {ls : Array Slot} (h : wp_MD_isSetting_176 Q M) (hI : gI D cy ad s M H locs) (hl : lv_has ls 2 []) : W p l e rm_MD_isSetting s m args below meth c H locs 0 0 (MQ below (va_Qi Q (gB D cy ad) (gA ad s.heap.size)) args s 0 0 (gA ad s.heap.size)) (F0 m 176 ls []) := by
  obtain ⟨hx, hb, hml, hown, hts, hr, hlk, hK, hja⟩ := id C
  refine lv_iconst (v := (0 : Int32)) hx hb d_MD_isSetting_176 (by decide) ?_
  exact gr_z C hI rfl h d_MD_isSetting_177
set_option maxHeartbeats 4000000 in
set_option maxRecDepth 100000 in
theorem L_MD_isSetting_158 {p : Program} {l : Launch} {e : Env} {s : State} {m : MethodId} {args : Array Value} {below : List Frame} {meth : Method} {c : Code} {D : va_G} {cy : Nat → ClassId} {ad : Nat → Nat} (C : Cx p s m args meth c b_MD_isSetting 2 (some .boolean) "BoostForestsModel" D cy ad) {Q : Int32 → gM → Prop} {M : gM} {H : Heap} {locs : List Loc} {ls : Array Slot} (h : wp_MD_isSetting_158 Q M) (hI : gI D cy ad s M H locs) (hl : lv_has ls 2 []) : W p l e rm_MD_isSetting s m args below meth c H locs 0 0 (MQ below (va_Qi Q (gB D cy ad) (gA ad s.heap.size)) args s 0 0 (gA ad s.heap.size)) (F0 m 158 ls []) := by
  obtain ⟨hx, hb, hml, hown, hts, hr, hlk, hK, hja⟩ := id C
  refine lv_iconst (v := (0 : Int32)) hx hb d_MD_isSetting_158 (by decide) ?_
  exact gr_z C hI rfl h d_MD_isSetting_159
set_option maxHeartbeats 4000000 in
set_option maxRecDepth 100000 in
theorem L_MD_isSetting_142 {p : Program} {l : Launch} {e : Env} {s : State} {m : MethodId} {args : Array Value} {below : List Frame} {meth : Method} {c : Code} {D : va_G} {cy : Nat → ClassId} {ad : Nat → Nat} (C : Cx p s m args meth c b_MD_isSetting 2 (some .boolean) "BoostForestsModel" D cy ad) {Q : Int32 → gM → Prop} {M : gM} {H : Heap} {locs : List Loc} {ls : Array Slot} (h : wp_MD_isSetting_142 Q M) (hI : gI D cy ad s M H locs) (hl : lv_has ls 2 []) : W p l e rm_MD_isSetting s m args below meth c H locs 0 0 (MQ below (va_Qi Q (gB D cy ad) (gA ad s.heap.size)) args s 0 0 (gA ad s.heap.size)) (F0 m 142 ls []) := by
  obtain ⟨hx, hb, hml, hown, hts, hr, hlk, hK, hja⟩ := id C
  refine lv_iconst (v := (0 : Int32)) hx hb d_MD_isSetting_142 (by decide) ?_
  exact gr_z C hI rfl h d_MD_isSetting_143
set_option maxHeartbeats 4000000 in
set_option maxRecDepth 100000 in
theorem L_MD_isSetting_126 {p : Program} {l : Launch} {e : Env} {s : State} {m : MethodId} {args : Array Value} {below : List Frame} {meth : Method} {c : Code} {D : va_G} {cy : Nat → ClassId} {ad : Nat → Nat} (C : Cx p s m args meth c b_MD_isSetting 2 (some .boolean) "BoostForestsModel" D cy ad) {Q : Int32 → gM → Prop} {M : gM} {H : Heap} {locs : List Loc} {ls : Array Slot} (h : wp_MD_isSetting_126 Q M) (hI : gI D cy ad s M H locs) (hl : lv_has ls 2 []) : W p l e rm_MD_isSetting s m args below meth c H locs 0 0 (MQ below (va_Qi Q (gB D cy ad) (gA ad s.heap.size)) args s 0 0 (gA ad s.heap.size)) (F0 m 126 ls []) := by
  obtain ⟨hx, hb, hml, hown, hts, hr, hlk, hK, hja⟩ := id C
  refine lv_iconst (v := (0 : Int32)) hx hb d_MD_isSetting_126 (by decide) ?_
  exact gr_z C hI rfl h d_MD_isSetting_127
set_option maxHeartbeats 4000000 in
set_option maxRecDepth 100000 in
theorem L_MD_isSetting_108 {p : Program} {l : Launch} {e : Env} {s : State} {m : MethodId} {args : Array Value} {below : List Frame} {meth : Method} {c : Code} {D : va_G} {cy : Nat → ClassId} {ad : Nat → Nat} (C : Cx p s m args meth c b_MD_isSetting 2 (some .boolean) "BoostForestsModel" D cy ad) {Q : Int32 → gM → Prop} {M : gM} {H : Heap} {locs : List Loc} {ls : Array Slot} (h : wp_MD_isSetting_108 Q M) (hI : gI D cy ad s M H locs) (hl : lv_has ls 2 []) : W p l e rm_MD_isSetting s m args below meth c H locs 0 0 (MQ below (va_Qi Q (gB D cy ad) (gA ad s.heap.size)) args s 0 0 (gA ad s.heap.size)) (F0 m 108 ls []) := by
  obtain ⟨hx, hb, hml, hown, hts, hr, hlk, hK, hja⟩ := id C
  refine lv_iconst (v := (0 : Int32)) hx hb d_MD_isSetting_108 (by decide) ?_
  exact gr_z C hI rfl h d_MD_isSetting_109
set_option maxHeartbeats 4000000 in
set_option maxRecDepth 100000 in
theorem L_MD_isSetting_91 {p : Program} {l : Launch} {e : Env} {s : State} {m : MethodId} {args : Array Value} {below : List Frame} {meth : Method} {c : Code} {D : va_G} {cy : Nat → ClassId} {ad : Nat → Nat} (C : Cx p s m args meth c b_MD_isSetting 2 (some .boolean) "BoostForestsModel" D cy ad) {Q : Int32 → gM → Prop} {M : gM} {H : Heap} {locs : List Loc} {ls : Array Slot} (h : wp_MD_isSetting_91 Q M) (hI : gI D cy ad s M H locs) (hl : lv_has ls 2 []) : W p l e rm_MD_isSetting s m args below meth c H locs 0 0 (MQ below (va_Qi Q (gB D cy ad) (gA ad s.heap.size)) args s 0 0 (gA ad s.heap.size)) (F0 m 91 ls []) := by
  obtain ⟨hx, hb, hml, hown, hts, hr, hlk, hK, hja⟩ := id C
  refine lv_iconst (v := (0 : Int32)) hx hb d_MD_isSetting_91 (by decide) ?_
  exact gr_z C hI rfl h d_MD_isSetting_92
set_option maxHeartbeats 4000000 in
set_option maxRecDepth 100000 in
theorem L_MD_isSetting_74 {p : Program} {l : Launch} {e : Env} {s : State} {m : MethodId} {args : Array Value} {below : List Frame} {meth : Method} {c : Code} {D : va_G} {cy : Nat → ClassId} {ad : Nat → Nat} (C : Cx p s m args meth c b_MD_isSetting 2 (some .boolean) "BoostForestsModel" D cy ad) {Q : Int32 → gM → Prop} {M : gM} {H : Heap} {locs : List Loc} {ls : Array Slot} (h : wp_MD_isSetting_74 Q M) (hI : gI D cy ad s M H locs) (hl : lv_has ls 2 []) : W p l e rm_MD_isSetting s m args below meth c H locs 0 0 (MQ below (va_Qi Q (gB D cy ad) (gA ad s.heap.size)) args s 0 0 (gA ad s.heap.size)) (F0 m 74 ls []) := by
  obtain ⟨hx, hb, hml, hown, hts, hr, hlk, hK, hja⟩ := id C
  refine lv_iconst (v := (0 : Int32)) hx hb d_MD_isSetting_74 (by decide) ?_
  exact gr_z C hI rfl h d_MD_isSetting_75
set_option maxHeartbeats 4000000 in
set_option maxRecDepth 100000 in
theorem c_MD_isSetting {l : Launch} {D : va_G} {cy : Nat → ClassId} {ad : Nat → Nat} (hj : gJ ad) {a0 : Int32} {a1 : Int32} {M : gM} {Q : Int32 → gM → Prop} (h : wp_MD_isSetting Q a0 a1 M) : Ci l y_MD_isSetting b_MD_isSetting 2 (some .boolean) rm_MD_isSetting D cy ad [.int a0, .int a1] M Q := by
  refine gm (by decide +kernel) hj (Nat.le_of_ble_eq_true rfl) (fun p e s m args below meth c ls C hl hI => ?_)
  have hl : lv_has ls 2 [(0, .int a0), (1, .int a1)] := hl
  obtain ⟨hx, hb, hml, hown, hts, hr, hlk, hK, hja⟩ := id C
  refine lv_iload_n hx hb d_MD_isSetting_0 rfl (lv_at hl 0 rfl) ?_
  rcases Classical.em (a0 = 0) with c1 | c1
  · have h := h.1 c1
    refine lv_tableIn (tgt := 60) hx hb d_MD_isSetting_1 (by rw [c1]; decide) (by rw [c1]; decide) (by rw [c1]; rfl) (by decide) ?_
    refine lv_iload_n hx hb d_MD_isSetting_60 rfl (lv_at hl 1 rfl) ?_
    refine lv_iconst (v := (1 : Int32)) hx hb d_MD_isSetting_61 (by decide) ?_
    refine lv_icmp_lt (tgt := 74) hx hb d_MD_isSetting_62 (by decide) (fun c3 => ?_) (fun c3 => ?_)
    · have h := h.1 c3
      exact L_MD_isSetting_74 C h hI (lv_sub hl [] rfl)
    · have h := h.2 c3
      refine lv_iload_n hx hb d_MD_isSetting_65 rfl (lv_at hl 1 rfl) ?_
      refine lv_iconst (v := (4 : Int32)) hx hb d_MD_isSetting_66 (by decide) ?_
      refine lv_icmp_gt (tgt := 74) hx hb d_MD_isSetting_67 (by decide) (fun c2 => ?_) (fun c2 => ?_)
      · have h := h.1 c2
        exact L_MD_isSetting_74 C h hI (lv_sub hl [] rfl)
      · have h := h.2 c2
        refine lv_iconst (v := (1 : Int32)) hx hb d_MD_isSetting_70 (by decide) ?_
        refine lv_goto (tgt := 75) hx hb d_MD_isSetting_71 (by decide) ?_
        exact gr_z C hI rfl h d_MD_isSetting_75
  · have h := h.2 c1
    rcases Classical.em (a0 = 1) with c4 | c4
    · have h := h.1 c4
      refine lv_tableIn (tgt := 76) hx hb d_MD_isSetting_1 (by rw [c4]; decide) (by rw [c4]; decide) (by rw [c4]; rfl) (by decide) ?_
      refine lv_iload_n hx hb d_MD_isSetting_76 rfl (lv_at hl 1 rfl) ?_
      refine lv_iconst (v := (1 : Int32)) hx hb d_MD_isSetting_77 (by decide) ?_
      refine lv_icmp_lt (tgt := 91) hx hb d_MD_isSetting_78 (by decide) (fun c6 => ?_) (fun c6 => ?_)
      · have h := h.1 c6
        exact L_MD_isSetting_91 C h hI (lv_sub hl [] rfl)
      · have h := h.2 c6
        refine lv_iload_n hx hb d_MD_isSetting_81 rfl (lv_at hl 1 rfl) ?_
        refine lv_bipush (v := (20 : Int32)) hx hb d_MD_isSetting_82 (by decide) ?_
        refine lv_icmp_gt (tgt := 91) hx hb d_MD_isSetting_84 (by decide) (fun c5 => ?_) (fun c5 => ?_)
        · have h := h.1 c5
          exact L_MD_isSetting_91 C h hI (lv_sub hl [] rfl)
        · have h := h.2 c5
          refine lv_iconst (v := (1 : Int32)) hx hb d_MD_isSetting_87 (by decide) ?_
          refine lv_goto (tgt := 92) hx hb d_MD_isSetting_88 (by decide) ?_
          exact gr_z C hI rfl h d_MD_isSetting_92
    · have h := h.2 c4
      rcases Classical.em (a0 = 2) with c7 | c7
      · have h := h.1 c7
        refine lv_tableIn (tgt := 93) hx hb d_MD_isSetting_1 (by rw [c7]; decide) (by rw [c7]; decide) (by rw [c7]; rfl) (by decide) ?_
        refine lv_iload_n hx hb d_MD_isSetting_93 rfl (lv_at hl 1 rfl) ?_
        refine lv_if_lt (tgt := 108) hx hb d_MD_isSetting_94 (by decide) (fun c9 => ?_) (fun c9 => ?_)
        · have h := h.1 c9
          exact L_MD_isSetting_108 C h hI (lv_sub hl [] rfl)
        · have h := h.2 c9
          refine lv_iload_n hx hb d_MD_isSetting_97 rfl (lv_at hl 1 rfl) ?_
          refine lv_sipush (v := (1000 : Int32)) hx hb d_MD_isSetting_98 (by decide) ?_
          refine lv_icmp_gt (tgt := 108) hx hb d_MD_isSetting_101 (by decide) (fun c8 => ?_) (fun c8 => ?_)
          · have h := h.1 c8
            exact L_MD_isSetting_108 C h hI (lv_sub hl [] rfl)
          · have h := h.2 c8
            refine lv_iconst (v := (1 : Int32)) hx hb d_MD_isSetting_104 (by decide) ?_
            refine lv_goto (tgt := 109) hx hb d_MD_isSetting_105 (by decide) ?_
            exact gr_z C hI rfl h d_MD_isSetting_109
      · have h := h.2 c7
        rcases Classical.em (a0 = 3) with c10 | c10
        · have h := h.1 c10
          refine lv_tableIn (tgt := 110) hx hb d_MD_isSetting_1 (by rw [c10]; decide) (by rw [c10]; decide) (by rw [c10]; rfl) (by decide) ?_
          refine lv_iload_n hx hb d_MD_isSetting_110 rfl (lv_at hl 1 rfl) ?_
          refine lv_iconst (v := (1 : Int32)) hx hb d_MD_isSetting_111 (by decide) ?_
          refine lv_icmp_lt (tgt := 126) hx hb d_MD_isSetting_112 (by decide) (fun c12 => ?_) (fun c12 => ?_)
          · have h := h.1 c12
            exact L_MD_isSetting_126 C h hI (lv_sub hl [] rfl)
          · have h := h.2 c12
            refine lv_iload_n hx hb d_MD_isSetting_115 rfl (lv_at hl 1 rfl) ?_
            refine lv_sipush (v := (256 : Int32)) hx hb d_MD_isSetting_116 (by decide) ?_
            refine lv_icmp_gt (tgt := 126) hx hb d_MD_isSetting_119 (by decide) (fun c11 => ?_) (fun c11 => ?_)
            · have h := h.1 c11
              exact L_MD_isSetting_126 C h hI (lv_sub hl [] rfl)
            · have h := h.2 c11
              refine lv_iconst (v := (1 : Int32)) hx hb d_MD_isSetting_122 (by decide) ?_
              refine lv_goto (tgt := 127) hx hb d_MD_isSetting_123 (by decide) ?_
              exact gr_z C hI rfl h d_MD_isSetting_127
        · have h := h.2 c10
          rcases Classical.em (a0 = 4) with c13 | c13
          · have h := h.1 c13
            refine lv_tableIn (tgt := 128) hx hb d_MD_isSetting_1 (by rw [c13]; decide) (by rw [c13]; decide) (by rw [c13]; rfl) (by decide) ?_
            refine lv_iload_n hx hb d_MD_isSetting_128 rfl (lv_at hl 1 rfl) ?_
            refine lv_if_lt (tgt := 142) hx hb d_MD_isSetting_129 (by decide) (fun c15 => ?_) (fun c15 => ?_)
            · have h := h.1 c15
              exact L_MD_isSetting_142 C h hI (lv_sub hl [] rfl)
            · have h := h.2 c15
              refine lv_iload_n hx hb d_MD_isSetting_132 rfl (lv_at hl 1 rfl) ?_
              refine lv_bipush (v := (12 : Int32)) hx hb d_MD_isSetting_133 (by decide) ?_
              refine lv_icmp_gt (tgt := 142) hx hb d_MD_isSetting_135 (by decide) (fun c14 => ?_) (fun c14 => ?_)
              · have h := h.1 c14
                exact L_MD_isSetting_142 C h hI (lv_sub hl [] rfl)
              · have h := h.2 c14
                refine lv_iconst (v := (1 : Int32)) hx hb d_MD_isSetting_138 (by decide) ?_
                refine lv_goto (tgt := 143) hx hb d_MD_isSetting_139 (by decide) ?_
                exact gr_z C hI rfl h d_MD_isSetting_143
          · have h := h.2 c13
            rcases Classical.em (a0 = 5) with c16 | c16
            · have h := h.1 c16
              refine lv_tableIn (tgt := 144) hx hb d_MD_isSetting_1 (by rw [c16]; decide) (by rw [c16]; decide) (by rw [c16]; rfl) (by decide) ?_
              refine lv_iload_n hx hb d_MD_isSetting_144 rfl (lv_at hl 1 rfl) ?_
              refine lv_if_lt (tgt := 158) hx hb d_MD_isSetting_145 (by decide) (fun c18 => ?_) (fun c18 => ?_)
              · have h := h.1 c18
                exact L_MD_isSetting_158 C h hI (lv_sub hl [] rfl)
              · have h := h.2 c18
                refine lv_iload_n hx hb d_MD_isSetting_148 rfl (lv_at hl 1 rfl) ?_
                refine lv_ldc hx hb hown (hts _ kw_3_192) d_MD_isSetting_149 ?_
                refine lv_icmp_gt (tgt := 158) hx hb d_MD_isSetting_151 (by decide) (fun c17 => ?_) (fun c17 => ?_)
                · have h := h.1 c17
                  exact L_MD_isSetting_158 C h hI (lv_sub hl [] rfl)
                · have h := h.2 c17
                  refine lv_iconst (v := (1 : Int32)) hx hb d_MD_isSetting_154 (by decide) ?_
                  refine lv_goto (tgt := 159) hx hb d_MD_isSetting_155 (by decide) ?_
                  exact gr_z C hI rfl h d_MD_isSetting_159
            · have h := h.2 c16
              rcases Classical.em (a0 = 6) with c19 | c19
              · have h := h.1 c19
                refine lv_tableIn (tgt := 110) hx hb d_MD_isSetting_1 (by rw [c19]; decide) (by rw [c19]; decide) (by rw [c19]; rfl) (by decide) ?_
                refine lv_iload_n hx hb d_MD_isSetting_110 rfl (lv_at hl 1 rfl) ?_
                refine lv_iconst (v := (1 : Int32)) hx hb d_MD_isSetting_111 (by decide) ?_
                refine lv_icmp_lt (tgt := 126) hx hb d_MD_isSetting_112 (by decide) (fun c21 => ?_) (fun c21 => ?_)
                · have h := h.1 c21
                  exact L_MD_isSetting_126 C h hI (lv_sub hl [] rfl)
                · have h := h.2 c21
                  refine lv_iload_n hx hb d_MD_isSetting_115 rfl (lv_at hl 1 rfl) ?_
                  refine lv_sipush (v := (256 : Int32)) hx hb d_MD_isSetting_116 (by decide) ?_
                  refine lv_icmp_gt (tgt := 126) hx hb d_MD_isSetting_119 (by decide) (fun c20 => ?_) (fun c20 => ?_)
                  · have h := h.1 c20
                    exact L_MD_isSetting_126 C h hI (lv_sub hl [] rfl)
                  · have h := h.2 c20
                    refine lv_iconst (v := (1 : Int32)) hx hb d_MD_isSetting_122 (by decide) ?_
                    refine lv_goto (tgt := 127) hx hb d_MD_isSetting_123 (by decide) ?_
                    exact gr_z C hI rfl h d_MD_isSetting_127
              · have h := h.2 c19
                rcases Classical.em (a0 = 7) with c22 | c22
                · have h := h.1 c22
                  refine lv_tableIn (tgt := 110) hx hb d_MD_isSetting_1 (by rw [c22]; decide) (by rw [c22]; decide) (by rw [c22]; rfl) (by decide) ?_
                  refine lv_iload_n hx hb d_MD_isSetting_110 rfl (lv_at hl 1 rfl) ?_
                  refine lv_iconst (v := (1 : Int32)) hx hb d_MD_isSetting_111 (by decide) ?_
                  refine lv_icmp_lt (tgt := 126) hx hb d_MD_isSetting_112 (by decide) (fun c24 => ?_) (fun c24 => ?_)
                  · have h := h.1 c24
                    exact L_MD_isSetting_126 C h hI (lv_sub hl [] rfl)
                  · have h := h.2 c24
                    refine lv_iload_n hx hb d_MD_isSetting_115 rfl (lv_at hl 1 rfl) ?_
                    refine lv_sipush (v := (256 : Int32)) hx hb d_MD_isSetting_116 (by decide) ?_
                    refine lv_icmp_gt (tgt := 126) hx hb d_MD_isSetting_119 (by decide) (fun c23 => ?_) (fun c23 => ?_)
                    · have h := h.1 c23
                      exact L_MD_isSetting_126 C h hI (lv_sub hl [] rfl)
                    · have h := h.2 c23
                      refine lv_iconst (v := (1 : Int32)) hx hb d_MD_isSetting_122 (by decide) ?_
                      refine lv_goto (tgt := 127) hx hb d_MD_isSetting_123 (by decide) ?_
                      exact gr_z C hI rfl h d_MD_isSetting_127
                · have h := h.2 c22
                  rcases Classical.em (a0 = 8) with c25 | c25
                  · have h := h.1 c25
                    refine lv_tableIn (tgt := 128) hx hb d_MD_isSetting_1 (by rw [c25]; decide) (by rw [c25]; decide) (by rw [c25]; rfl) (by decide) ?_
                    refine lv_iload_n hx hb d_MD_isSetting_128 rfl (lv_at hl 1 rfl) ?_
                    refine lv_if_lt (tgt := 142) hx hb d_MD_isSetting_129 (by decide) (fun c27 => ?_) (fun c27 => ?_)
                    · have h := h.1 c27
                      exact L_MD_isSetting_142 C h hI (lv_sub hl [] rfl)
                    · have h := h.2 c27
                      refine lv_iload_n hx hb d_MD_isSetting_132 rfl (lv_at hl 1 rfl) ?_
                      refine lv_bipush (v := (12 : Int32)) hx hb d_MD_isSetting_133 (by decide) ?_
                      refine lv_icmp_gt (tgt := 142) hx hb d_MD_isSetting_135 (by decide) (fun c26 => ?_) (fun c26 => ?_)
                      · have h := h.1 c26
                        exact L_MD_isSetting_142 C h hI (lv_sub hl [] rfl)
                      · have h := h.2 c26
                        refine lv_iconst (v := (1 : Int32)) hx hb d_MD_isSetting_138 (by decide) ?_
                        refine lv_goto (tgt := 143) hx hb d_MD_isSetting_139 (by decide) ?_
                        exact gr_z C hI rfl h d_MD_isSetting_143
                  · have h := h.2 c25
                    rcases Classical.em (a0 = 9) with c28 | c28
                    · have h := h.1 c28
                      refine lv_tableIn (tgt := 160) hx hb d_MD_isSetting_1 (by rw [c28]; decide) (by rw [c28]; decide) (by rw [c28]; rfl) (by decide) ?_
                      refine lv_iload_n hx hb d_MD_isSetting_160 rfl (lv_at hl 1 rfl) ?_
                      refine lv_bipush (v := (-100 : Int32)) hx hb d_MD_isSetting_161 (by decide) ?_
                      refine lv_icmp_lt (tgt := 176) hx hb d_MD_isSetting_163 (by decide) (fun c30 => ?_) (fun c30 => ?_)
                      · have h := h.1 c30
                        exact L_MD_isSetting_176 C h hI (lv_sub hl [] rfl)
                      · have h := h.2 c30
                        refine lv_iload_n hx hb d_MD_isSetting_166 rfl (lv_at hl 1 rfl) ?_
                        refine lv_bipush (v := (100 : Int32)) hx hb d_MD_isSetting_167 (by decide) ?_
                        refine lv_icmp_gt (tgt := 176) hx hb d_MD_isSetting_169 (by decide) (fun c29 => ?_) (fun c29 => ?_)
                        · have h := h.1 c29
                          exact L_MD_isSetting_176 C h hI (lv_sub hl [] rfl)
                        · have h := h.2 c29
                          refine lv_iconst (v := (1 : Int32)) hx hb d_MD_isSetting_172 (by decide) ?_
                          refine lv_goto (tgt := 177) hx hb d_MD_isSetting_173 (by decide) ?_
                          exact gr_z C hI rfl h d_MD_isSetting_177
                    · have h := h.2 c28
                      rcases Classical.em (a0 = 10) with c31 | c31
                      · have h := h.1 c31
                        refine lv_tableIn (tgt := 178) hx hb d_MD_isSetting_1 (by rw [c31]; decide) (by rw [c31]; decide) (by rw [c31]; rfl) (by decide) ?_
                        refine lv_iconst (v := (1 : Int32)) hx hb d_MD_isSetting_178 (by decide) ?_
                        exact gr_z C hI rfl h d_MD_isSetting_179
                      · have h := h.2 c31
                        refine lv_tableOut (tgt := 180) hx hb d_MD_isSetting_1 (by have := lv_neT (a := 0) c1 rfl; have := lv_neT (a := 1) c4 rfl; have := lv_neT (a := 2) c7 rfl; have := lv_neT (a := 3) c10 rfl; have := lv_neT (a := 4) c13 rfl; have := lv_neT (a := 5) c16 rfl; have := lv_neT (a := 6) c19 rfl; have := lv_neT (a := 7) c22 rfl; have := lv_neT (a := 8) c25 rfl; have := lv_neT (a := 9) c28 rfl; have := lv_neT (a := 10) c31 rfl; omega) (by decide) ?_
                        refine lv_iload_n hx hb d_MD_isSetting_180 rfl (lv_at hl 0 rfl) ?_
                        refine lv_bipush (v := (11 : Int32)) hx hb d_MD_isSetting_181 (by decide) ?_
                        refine lv_icmp_lt (tgt := 206) hx hb d_MD_isSetting_183 (by decide) (fun c35 => ?_) (fun c35 => ?_)
                        · have h := h.1 c35
                          exact L_MD_isSetting_206 C h hI (lv_sub hl [] rfl)
                        · have h := h.2 c35
                          refine lv_iload_n hx hb d_MD_isSetting_186 rfl (lv_at hl 0 rfl) ?_
                          refine lv_bipush (v := (15 : Int32)) hx hb d_MD_isSetting_187 (by decide) ?_
                          refine lv_icmp_ge (tgt := 206) hx hb d_MD_isSetting_189 (by decide) (fun c34 => ?_) (fun c34 => ?_)
                          · have h := h.1 c34
                            exact L_MD_isSetting_206 C h hI (lv_sub hl [] rfl)
                          · have h := h.2 c34
                            refine lv_iload_n hx hb d_MD_isSetting_192 rfl (lv_at hl 1 rfl) ?_
                            refine lv_iconst (v := (-1 : Int32)) hx hb d_MD_isSetting_193 (by decide) ?_
                            refine lv_icmp_lt (tgt := 206) hx hb d_MD_isSetting_194 (by decide) (fun c33 => ?_) (fun c33 => ?_)
                            · have h := h.1 c33
                              exact L_MD_isSetting_206 C h hI (lv_sub hl [] rfl)
                            · have h := h.2 c33
                              refine lv_iload_n hx hb d_MD_isSetting_197 rfl (lv_at hl 1 rfl) ?_
                              refine lv_iconst (v := (1 : Int32)) hx hb d_MD_isSetting_198 (by decide) ?_
                              refine lv_icmp_gt (tgt := 206) hx hb d_MD_isSetting_199 (by decide) (fun c32 => ?_) (fun c32 => ?_)
                              · have h := h.1 c32
                                exact L_MD_isSetting_206 C h hI (lv_sub hl [] rfl)
                              · have h := h.2 c32
                                refine lv_iconst (v := (1 : Int32)) hx hb d_MD_isSetting_202 (by decide) ?_
                                refine lv_goto (tgt := 207) hx hb d_MD_isSetting_203 (by decide) ?_
                                exact gr_z C hI rfl h d_MD_isSetting_207
set_option maxHeartbeats 4000000 in
set_option maxRecDepth 100000 in
theorem c_MD_set {l : Launch} {D : va_G} {cy : Nat → ClassId} {ad : Nat → Nat} (hj : gJ ad) {a1 : Int32} {a2 : Int32} {M : gM} {Q : Int32 → gM → Prop} (h : wp_MD_set Q a1 a2 M) : Ci l y_MD_set b_MD_set 4 (some .int) rm_MD_set D cy ad [.ref (ad 273), .int a1, .int a2] M Q := by
  refine gm (by decide +kernel) hj (Nat.le_of_ble_eq_true rfl) (fun p e s m args below meth c ls C hl hI => ?_)
  have hl : lv_has ls 4 [(0, .ref (ad 273)), (1, .int a1), (2, .int a2)] := hl
  obtain ⟨hx, hb, hml, hown, hts, hr, hlk, hK, hja⟩ := id C
  refine lv_iload_n hx hb d_MD_set_0 rfl (lv_at hl 1 rfl) ?_
  refine lv_iload_n hx hb d_MD_set_1 rfl (lv_at hl 2 rfl) ?_
  refine gw_Si C hI hl.1 (As := [.int a1, .int a2]) (rest := []) (c_MD_isSetting hja h) kS_MD_104 rfl ⟨rfl, rfl⟩ ⟨Nat.le_of_ble_eq_true rfl, Nat.le_of_ble_eq_true rfl⟩ rfl (Nat.le_of_ble_eq_true rfl) ⟨Nat.zero_le _, Nat.zero_le _⟩ d_MD_set_2 (fun r1 M2 H locs h hI => ?_)
  refine lv_if_ne (tgt := 11) hx hb d_MD_set_5 (by decide) (fun c4 => ?_) (fun c4 => ?_)
  · have h := h.1 c4
    refine lv_aload_n hx hb d_MD_set_11 rfl (lv_at hl 0 rfl) ?_
    refine gw_get (v := .ref (ad 278)) C hI lay_273 i_MD rfl 5 (by decide) kw_3_76 rfl rfl d_MD_set_12 ?_
    refine lv_iload_n hx hb d_MD_set_15 rfl (lv_at hl 1 rfl) ?_
    obtain ⟨g3, h⟩ := h
    refine gw_iald C hI lay_278 (j := a1.toNatClampNeg) rfl (v := M2.1 278 a1.toNatClampNeg) rfl g3 d_MD_set_16 ?_
    refine lv_istore_n (lv' := [(3, .int (M2.1 278 a1.toNatClampNeg)), (0, .ref (ad 273)), (1, .int a1), (2, .int a2)]) hx hb d_MD_set_17 rfl hl (by decide) rfl (fun ls hl => ?_)
    refine lv_aload_n hx hb d_MD_set_18 rfl (lv_at hl 1 rfl) ?_
    refine gw_get (v := .ref (ad 278)) C hI lay_273 i_MD rfl 5 (by decide) kw_3_76 rfl rfl d_MD_set_19 ?_
    refine lv_iload_n hx hb d_MD_set_22 rfl (lv_at hl 2 rfl) ?_
    refine lv_iload_n hx hb d_MD_set_23 rfl (lv_at hl 3 rfl) ?_
    refine gw_iast C hI lay_278 (j := a1.toNatClampNeg) rfl g3 d_MD_set_24 (fun H locs hI => ?_)
    refine lv_iload_n hx hb d_MD_set_25 rfl (lv_at hl 0 rfl) ?_
    exact gr_i C hI h d_MD_set_26
  · have h := h.2 c4
    refine lv_bipush (v := (-2 : Int32)) hx hb d_MD_set_8 (by decide) ?_
    exact gr_i C hI h d_MD_set_10
set_option maxHeartbeats 4000000 in
set_option maxRecDepth 100000 in
theorem c_MD_clear {l : Launch} {D : va_G} {cy : Nat → ClassId} {ad : Nat → Nat} (hj : gJ ad) {M : gM} {Q : Int32 → gM → Prop} (h : wp_MD_clear Q M) : Ci l y_MD_clear b_MD_clear 2 (some .int) rm_MD_clear D cy ad [.ref (ad 273)] M Q := by
  refine gm (by decide +kernel) hj (Nat.le_of_ble_eq_true rfl) (fun p e s m args below meth c ls C hl hI => ?_)
  have hl : lv_has ls 2 [(0, .ref (ad 273))] := hl
  obtain ⟨hx, hb, hml, hown, hts, hr, hlk, hK, hja⟩ := id C
  refine lv_aload_n hx hb d_MD_clear_0 rfl (lv_at hl 0 rfl) ?_
  refine gw_get (v := .int (M.1 273 0)) C hI lay_273 i_MD rfl 0 (by decide) kw_3_71 rfl rfl d_MD_clear_1 ?_
  refine lv_istore_n (lv' := [(1, .int (M.1 273 0)), (0, .ref (ad 273))]) hx hb d_MD_clear_4 rfl hl (by decide) rfl (fun ls hl => ?_)
  refine lv_aload_n hx hb d_MD_clear_5 rfl (lv_at hl 1 rfl) ?_
  refine lv_iconst (v := (0 : Int32)) hx hb d_MD_clear_6 (by decide) ?_
  refine gw_puti C hI lay_273 i_MD rfl t_MD_ok n_MD 0 (by decide) kw_3_71 rfl rfl rfl rfl rfl d_MD_clear_7 (fun H locs hI => ?_)
  refine lv_iload_n hx hb d_MD_clear_10 rfl (lv_at hl 0 rfl) ?_
  exact gr_i C hI h d_MD_clear_11
set_option maxHeartbeats 4000000 in
set_option maxRecDepth 100000 in
theorem c_MD_drawn {l : Launch} {D : va_G} {cy : Nat → ClassId} {ad : Nat → Nat} (hj : gJ ad) {a1 : Int32} {M : gM} {Q : Int32 → gM → Prop} (h : wp_MD_drawn Q a1 M) : Ci l y_MD_drawn b_MD_drawn 3 (some .int) rm_MD_drawn D cy ad [.ref (ad 273), .int a1] M Q := by
  refine gm (by decide +kernel) hj (Nat.le_of_ble_eq_true rfl) (fun p e s m args below meth c ls C hl hI => ?_)
  have hl : lv_has ls 3 [(0, .ref (ad 273)), (1, .int a1)] := hl
  obtain ⟨hx, hb, hml, hown, hts, hr, hlk, hK, hja⟩ := id C
  refine lv_aload_n hx hb d_MD_drawn_0 rfl (lv_at hl 0 rfl) ?_
  refine gw_get (v := .ref (ad 283)) C hI lay_273 i_MD rfl 12 (by decide) kw_3_83 rfl rfl d_MD_drawn_1 ?_
  refine lv_bipush (v := (10 : Int32)) hx hb d_MD_drawn_4 (by decide) ?_
  refine gw_iald C hI lay_283 (j := 10) (by decide) (v := M.1 283 10) rfl (vi_lit (10 : Int32) 15 (by decide)) d_MD_drawn_6 ?_
  refine lv_ldc hx hb hown (hts _ kw_3_214) d_MD_drawn_7 ?_
  refine lv_iload_n hx hb d_MD_drawn_9 rfl (lv_at hl 1 rfl) ?_
  refine lv_imul hx hb d_MD_drawn_10 ?_
  refine lv_iadd hx hb d_MD_drawn_11 ?_
  refine lv_istore_n (lv' := [(2, .int ((M.1 283 10) + ((1000003 : Int32) * a1))), (0, .ref (ad 273)), (1, .int a1)]) hx hb d_MD_drawn_12 rfl hl (by decide) rfl (fun ls hl => ?_)
  refine lv_iload_n hx hb d_MD_drawn_13 rfl (lv_at hl 0 rfl) ?_
  refine lv_iload_n hx hb d_MD_drawn_14 rfl (lv_at hl 0 rfl) ?_
  refine lv_bipush (v := (15 : Int32)) hx hb d_MD_drawn_15 (by decide) ?_
  refine lv_iushr (v := ushr ((M.1 283 10) + ((1000003 : Int32) * a1)) (15 : Int32)) hx hb d_MD_drawn_17 rfl ?_
  refine lv_ixor hx hb d_MD_drawn_18 ?_
  refine lv_ldc hx hb hown (hts _ kw_3_215) d_MD_drawn_19 ?_
  refine lv_imul hx hb d_MD_drawn_21 ?_
  refine lv_istore_n (lv' := [(2, .int ((((M.1 283 10) + ((1000003 : Int32) * a1)) ^^^ (ushr ((M.1 283 10) + ((1000003 : Int32) * a1)) (15 : Int32))) * (739982445 : Int32))), (0, .ref (ad 273)), (1, .int a1)]) hx hb d_MD_drawn_22 rfl hl (by decide) rfl (fun ls hl => ?_)
  refine lv_iload_n hx hb d_MD_drawn_23 rfl (lv_at hl 0 rfl) ?_
  refine lv_iload_n hx hb d_MD_drawn_24 rfl (lv_at hl 0 rfl) ?_
  refine lv_bipush (v := (12 : Int32)) hx hb d_MD_drawn_25 (by decide) ?_
  refine lv_iushr (v := ushr ((((M.1 283 10) + ((1000003 : Int32) * a1)) ^^^ (ushr ((M.1 283 10) + ((1000003 : Int32) * a1)) (15 : Int32))) * (739982445 : Int32)) (12 : Int32)) hx hb d_MD_drawn_27 rfl ?_
  refine lv_ixor hx hb d_MD_drawn_28 ?_
  refine lv_ldc hx hb hown (hts _ kw_3_216) d_MD_drawn_29 ?_
  refine lv_imul hx hb d_MD_drawn_31 ?_
  refine lv_istore_n (lv' := [(2, .int ((((((M.1 283 10) + ((1000003 : Int32) * a1)) ^^^ (ushr ((M.1 283 10) + ((1000003 : Int32) * a1)) (15 : Int32))) * (739982445 : Int32)) ^^^ (ushr ((((M.1 283 10) + ((1000003 : Int32) * a1)) ^^^ (ushr ((M.1 283 10) + ((1000003 : Int32) * a1)) (15 : Int32))) * (739982445 : Int32)) (12 : Int32))) * (695872825 : Int32))), (0, .ref (ad 273)), (1, .int a1)]) hx hb d_MD_drawn_32 rfl hl (by decide) rfl (fun ls hl => ?_)
  refine lv_iload_n hx hb d_MD_drawn_33 rfl (lv_at hl 0 rfl) ?_
  refine lv_bipush (v := (24 : Int32)) hx hb d_MD_drawn_34 (by decide) ?_
  refine lv_iushr (v := ushr ((((((M.1 283 10) + ((1000003 : Int32) * a1)) ^^^ (ushr ((M.1 283 10) + ((1000003 : Int32) * a1)) (15 : Int32))) * (739982445 : Int32)) ^^^ (ushr ((((M.1 283 10) + ((1000003 : Int32) * a1)) ^^^ (ushr ((M.1 283 10) + ((1000003 : Int32) * a1)) (15 : Int32))) * (739982445 : Int32)) (12 : Int32))) * (695872825 : Int32)) (24 : Int32)) hx hb d_MD_drawn_36 rfl ?_
  exact gr_i C hI h d_MD_drawn_37
set_option maxHeartbeats 4000000 in
set_option maxRecDepth 100000 in
theorem L_MD_keepLosses_75 {p : Program} {l : Launch} {e : Env} {s : State} {m : MethodId} {args : Array Value} {below : List Frame} {meth : Method} {c : Code} {D : va_G} {cy : Nat → ClassId} {ad : Nat → Nat} (C : Cx p s m args meth c b_MD_keepLosses 5 none "BoostForestsModel" D cy ad) {Q : gM → Prop} {x1 : Int32} {x2 : Int64} {s0 : Int32} {k25 : Int32 → gM → Prop} {M : gM} {H : Heap} {locs : List Loc} {ls : Array Slot} (K25 : ∀ (x1 : Int32) (M : gM) (H : Heap) (locs : List Loc) (ls : Array Slot), k25 x1 M → gI D cy ad s M H locs → lv_has ls 5 [(0, .ref (ad 273)), (1, .int x1)] → W p l e rm_MD_keepLosses s m args below meth c H locs 0 0 (MQ below (va_Qv Q (gB D cy ad) (gA ad s.heap.size)) args s 0 0 (gA ad s.heap.size)) (F0 m 25 ls [])) (h : wp_MD_keepLosses_75 Q k25 x1 x2 s0 M) (hI : gI D cy ad s M H locs) (hl : lv_has ls 5 [(0, .ref (ad 273)), (1, .int x1), (2, .long x2)]) : W p l e rm_MD_keepLosses s m args below meth c H locs 0 0 (MQ below (va_Qv Q (gB D cy ad) (gA ad s.heap.size)) args s 0 0 (gA ad s.heap.size)) (F0 m 75 ls [.int s0]) := by
  obtain ⟨hx, hb, hml, hown, hts, hr, hlk, hK, hja⟩ := id C
  refine lv_istore (lv' := [(4, .int s0), (0, .ref (ad 273)), (1, .int x1), (2, .long x2)]) hx hb d_MD_keepLosses_75 hl (by decide) rfl (fun ls hl => ?_)
  refine lv_aload_n hx hb d_MD_keepLosses_77 rfl (lv_at hl 1 rfl) ?_
  refine gw_get (v := .ref (ad 285)) C hI lay_273 i_MD rfl 15 (by decide) kw_3_86 rfl rfl d_MD_keepLosses_78 ?_
  refine lv_iload hx hb d_MD_keepLosses_81 (lv_at hl 0 rfl) ?_
  refine lv_dup2_11 hx hb d_MD_keepLosses_83 rfl rfl ?_
  obtain ⟨g1, h⟩ := h
  refine gw_lald C hI lay_285 (j := s0.toNatClampNeg) rfl (v := M.2 285 s0.toNatClampNeg) rfl g1 d_MD_keepLosses_84 ?_
  refine lv_aload_n hx hb d_MD_keepLosses_85 rfl (lv_at hl 1 rfl) ?_
  refine gw_get (v := .ref (ad 281)) C hI lay_273 i_MD rfl 10 (by decide) kw_3_81 rfl rfl d_MD_keepLosses_86 ?_
  refine lv_iload_n hx hb d_MD_keepLosses_89 rfl (lv_at hl 2 rfl) ?_
  obtain ⟨g2, h⟩ := h
  refine gw_iald C hI lay_281 (j := x1.toNatClampNeg) rfl (v := M.1 281 x1.toNatClampNeg) rfl g2 d_MD_keepLosses_90 ?_
  refine lv_i2l hx hb d_MD_keepLosses_91 rfl ?_
  refine lv_lload_n hx hb d_MD_keepLosses_92 rfl (lv_at hl 3 rfl) ?_
  refine lv_lmul hx hb d_MD_keepLosses_93 ?_
  refine lv_lload_n hx hb d_MD_keepLosses_94 rfl (lv_at hl 3 rfl) ?_
  refine lv_lmul hx hb d_MD_keepLosses_95 ?_
  refine lv_ladd hx hb d_MD_keepLosses_96 ?_
  refine gw_last C hI lay_285 (j := s0.toNatClampNeg) rfl g1 d_MD_keepLosses_97 (fun H locs hI => ?_)
  refine lv_iinc (v := x1 + 1) (lv' := [(1, .int (x1 + 1)), (4, .int s0), (0, .ref (ad 273)), (2, .long x2)]) hx hb d_MD_keepLosses_98 hl (k := 2) rfl rfl (by decide) rfl (fun ls hl => ?_)
  refine lv_goto (tgt := 25) hx hb d_MD_keepLosses_101 (by decide) ?_
  exact K25 (x1 + 1) (wl M (285) s0.toNatClampNeg ((M.2 285 s0.toNatClampNeg) + ((((M.1 281 x1.toNatClampNeg).toInt64) * x2) * x2))) _ _ _ h hI (lv_sub hl [2, 0] rfl)
set_option maxHeartbeats 4000000 in
set_option maxRecDepth 100000 in
theorem L_MD_keepLosses_25 {p : Program} {l : Launch} {e : Env} {s : State} {m : MethodId} {args : Array Value} {below : List Frame} {meth : Method} {c : Code} {D : va_G} {cy : Nat → ClassId} {ad : Nat → Nat} (C : Cx p s m args meth c b_MD_keepLosses 5 none "BoostForestsModel" D cy ad) {Q : gM → Prop} (n : Nat) : ∀ (x1 : Int32) (M : gM) (H : Heap) (locs : List Loc) (ls : Array Slot), wp_MD_keepLosses_25 Q n x1 M → gI D cy ad s M H locs → lv_has ls 5 [(0, .ref (ad 273)), (1, .int x1)] → W p l e rm_MD_keepLosses s m args below meth c H locs 0 0 (MQ below (va_Qv Q (gB D cy ad) (gA ad s.heap.size)) args s 0 0 (gA ad s.heap.size)) (F0 m 25 ls []) := by
  obtain ⟨hx, hb, hml, hown, hts, hr, hlk, hK, hja⟩ := id C
  induction n with
  | zero => exact fun _ _ _ _ _ h _ _ => h.elim
  | succ n ih =>
    intro x1 M H locs ls h hI hl
    have h := h
    refine lv_iload_n hx hb d_MD_keepLosses_25 rfl (lv_at hl 1 rfl) ?_
    refine lv_aload_n hx hb d_MD_keepLosses_26 rfl (lv_at hl 0 rfl) ?_
    refine gw_get (v := .int (M.1 273 7)) C hI lay_273 i_MD rfl 7 (by decide) kw_3_78 rfl rfl d_MD_keepLosses_27 ?_
    refine lv_icmp_ge (tgt := 104) hx hb d_MD_keepLosses_30 (by decide) (fun c5 => ?_) (fun c5 => ?_)
    · have h := h.1 c5
      exact gr_v C hI h d_MD_keepLosses_104
    · have h := h.2 c5
      refine lv_aload_n hx hb d_MD_keepLosses_33 rfl (lv_at hl 0 rfl) ?_
      refine gw_get (v := .ref (ad 284)) C hI lay_273 i_MD rfl 13 (by decide) kw_3_84 rfl rfl d_MD_keepLosses_34 ?_
      refine lv_iload_n hx hb d_MD_keepLosses_37 rfl (lv_at hl 1 rfl) ?_
      obtain ⟨g3, h⟩ := h
      refine gw_lald C hI lay_284 (j := x1.toNatClampNeg) rfl (v := M.2 284 x1.toNatClampNeg) rfl g3 d_MD_keepLosses_38 ?_
      refine lv_ldc2 hx hb hown (hts _ kw_3_201) d_MD_keepLosses_39 ?_
      refine lv_aload_n hx hb d_MD_keepLosses_42 rfl (lv_at hl 0 rfl) ?_
      refine gw_get (v := .ref (ad 280)) C hI lay_273 i_MD rfl 9 (by decide) kw_3_80 rfl rfl d_MD_keepLosses_43 ?_
      refine lv_iload_n hx hb d_MD_keepLosses_46 rfl (lv_at hl 1 rfl) ?_
      refine gw_iald C hI lay_280 (j := x1.toNatClampNeg) rfl (v := M.1 280 x1.toNatClampNeg) rfl g3 d_MD_keepLosses_47 ?_
      refine lv_i2l hx hb d_MD_keepLosses_48 rfl ?_
      refine lv_lmul hx hb d_MD_keepLosses_49 ?_
      refine lv_lsub hx hb d_MD_keepLosses_50 ?_
      refine lv_lstore_n (lv' := [(2, .long ((M.2 284 x1.toNatClampNeg) - ((256 : Int64) * ((M.1 280 x1.toNatClampNeg).toInt64)))), (0, .ref (ad 273)), (1, .int x1)]) hx hb d_MD_keepLosses_51 rfl hl (by decide) rfl (fun ls hl => ?_)
      refine lv_aload_n hx hb d_MD_keepLosses_52 rfl (lv_at hl 1 rfl) ?_
      refine gw_get (v := .ref (ad 282)) C hI lay_273 i_MD rfl 11 (by decide) kw_3_82 rfl rfl d_MD_keepLosses_53 ?_
      refine lv_iload_n hx hb d_MD_keepLosses_56 rfl (lv_at hl 2 rfl) ?_
      refine gw_zald C hI lay_282 (j := x1.toNatClampNeg) rfl (v := M.1 282 x1.toNatClampNeg) rfl g3 d_MD_keepLosses_57 ?_
      refine lv_if_eq (tgt := 71) hx hb d_MD_keepLosses_58 (by decide) (fun c4 => ?_) (fun c4 => ?_)
      · have h := h.1 c4
        refine lv_aload_n hx hb d_MD_keepLosses_71 rfl (lv_at hl 1 rfl) ?_
        refine gw_get (v := .int (M.1 273 14)) C hI lay_273 i_MD rfl 14 (by decide) kw_3_85 rfl rfl d_MD_keepLosses_72 ?_
        exact L_MD_keepLosses_75 C ih h hI (lv_sub hl [1, 2, 0] rfl)
      · have h := h.2 c4
        refine lv_bipush (v := (13 : Int32)) hx hb d_MD_keepLosses_61 (by decide) ?_
        refine lv_aload_n hx hb d_MD_keepLosses_63 rfl (lv_at hl 1 rfl) ?_
        refine gw_get (v := .int (M.1 273 14)) C hI lay_273 i_MD rfl 14 (by decide) kw_3_85 rfl rfl d_MD_keepLosses_64 ?_
        refine lv_iadd hx hb d_MD_keepLosses_67 ?_
        refine lv_goto (tgt := 75) hx hb d_MD_keepLosses_68 (by decide) ?_
        exact L_MD_keepLosses_75 C ih h hI (lv_sub hl [1, 2, 0] rfl)
set_option maxHeartbeats 4000000 in
set_option maxRecDepth 100000 in
theorem c_MD_keepLosses {l : Launch} {D : va_G} {cy : Nat → ClassId} {ad : Nat → Nat} (hj : gJ ad) {M : gM} {Q : gM → Prop} (h : wp_MD_keepLosses Q M) : Cv l y_MD_keepLosses b_MD_keepLosses 5 none rm_MD_keepLosses D cy ad [.ref (ad 273)] M Q := by
  refine gm (by decide +kernel) hj (Nat.le_of_ble_eq_true rfl) (fun p e s m args below meth c ls C hl hI => ?_)
  have hl : lv_has ls 5 [(0, .ref (ad 273))] := hl
  obtain ⟨hx, hb, hml, hown, hts, hr, hlk, hK, hja⟩ := id C
  refine lv_aload_n hx hb d_MD_keepLosses_0 rfl (lv_at hl 0 rfl) ?_
  refine gw_get (v := .ref (ad 285)) C hI lay_273 i_MD rfl 15 (by decide) kw_3_86 rfl rfl d_MD_keepLosses_1 ?_
  refine lv_aload_n hx hb d_MD_keepLosses_4 rfl (lv_at hl 0 rfl) ?_
  refine gw_get (v := .int (M.1 273 14)) C hI lay_273 i_MD rfl 14 (by decide) kw_3_85 rfl rfl d_MD_keepLosses_5 ?_
  refine lv_lconst (v := 0) hx hb d_MD_keepLosses_8 (by decide) ?_
  obtain ⟨g6, h⟩ := h
  refine gw_last C hI lay_285 (j := (M.1 273 14).toNatClampNeg) rfl g6 d_MD_keepLosses_9 (fun H locs hI => ?_)
  refine lv_aload_n hx hb d_MD_keepLosses_10 rfl (lv_at hl 0 rfl) ?_
  refine gw_get (v := .ref (ad 285)) C hI lay_273 i_MD rfl 15 (by decide) kw_3_86 rfl rfl d_MD_keepLosses_11 ?_
  refine lv_bipush (v := (13 : Int32)) hx hb d_MD_keepLosses_14 (by decide) ?_
  refine lv_aload_n hx hb d_MD_keepLosses_16 rfl (lv_at hl 0 rfl) ?_
  refine gw_get (v := .int (M.1 273 14)) C hI lay_273 i_MD rfl 14 (by decide) kw_3_85 rfl rfl d_MD_keepLosses_17 ?_
  refine lv_iadd hx hb d_MD_keepLosses_20 ?_
  refine lv_lconst (v := 0) hx hb d_MD_keepLosses_21 (by decide) ?_
  obtain ⟨g7, h⟩ := h
  refine gw_last C hI lay_285 (j := ((13 : Int32) + (M.1 273 14)).toNatClampNeg) rfl g7 d_MD_keepLosses_22 (fun H locs hI => ?_)
  refine lv_iconst (v := (0 : Int32)) hx hb d_MD_keepLosses_23 (by decide) ?_
  refine lv_istore_n (lv' := [(1, .int (0 : Int32)), (0, .ref (ad 273))]) hx hb d_MD_keepLosses_24 rfl hl (by decide) rfl (fun ls hl => ?_)
  obtain ⟨n8, h⟩ := h
  exact L_MD_keepLosses_25 C n8 (0 : Int32) (wl (wl M (285) ((M.1 273 14).toNatClampNeg) (0 : Int64)) (285) (((13 : Int32) + (M.1 273 14)).toNatClampNeg) (0 : Int64)) _ _ _ h hI (lv_sub hl [1, 0] rfl)
set_option maxHeartbeats 4000000 in
set_option maxRecDepth 100000 in
theorem c_MD_goesLeft {l : Launch} {D : va_G} {cy : Nat → ClassId} {ad : Nat → Nat} (hj : gJ ad) {a0 : Int32} {a1 : Int32} {a2 : Int32} {M : gM} {Q : Int32 → gM → Prop} (h : wp_MD_goesLeft Q a0 a1 a2 M) : Ci l y_MD_goesLeft b_MD_goesLeft 3 (some .boolean) rm_MD_goesLeft D cy ad [.int a0, .int a1, .int a2] M Q := by
  refine gm (by decide +kernel) hj (Nat.le_of_ble_eq_true rfl) (fun p e s m args below meth c ls C hl hI => ?_)
  have hl : lv_has ls 3 [(0, .int a0), (1, .int a1), (2, .int a2)] := hl
  obtain ⟨hx, hb, hml, hown, hts, hr, hlk, hK, hja⟩ := id C
  refine lv_iload_n hx hb d_MD_goesLeft_0 rfl (lv_at hl 0 rfl) ?_
  refine lv_if_ge (tgt := 16) hx hb d_MD_goesLeft_1 (by decide) (fun c3 => ?_) (fun c3 => ?_)
  · have h := h.1 c3
    refine lv_iload_n hx hb d_MD_goesLeft_16 rfl (lv_at hl 0 rfl) ?_
    refine lv_iload_n hx hb d_MD_goesLeft_17 rfl (lv_at hl 1 rfl) ?_
    refine lv_icmp_gt (tgt := 25) hx hb d_MD_goesLeft_18 (by decide) (fun c1 => ?_) (fun c1 => ?_)
    · have h := h.1 c1
      refine lv_iconst (v := (0 : Int32)) hx hb d_MD_goesLeft_25 (by decide) ?_
      exact gr_z C hI rfl h d_MD_goesLeft_26
    · have h := h.2 c1
      refine lv_iconst (v := (1 : Int32)) hx hb d_MD_goesLeft_21 (by decide) ?_
      refine lv_goto (tgt := 26) hx hb d_MD_goesLeft_22 (by decide) ?_
      exact gr_z C hI rfl h d_MD_goesLeft_26
  · have h := h.2 c3
    refine lv_iload_n hx hb d_MD_goesLeft_4 rfl (lv_at hl 2 rfl) ?_
    refine lv_if_ne (tgt := 12) hx hb d_MD_goesLeft_5 (by decide) (fun c2 => ?_) (fun c2 => ?_)
    · have h := h.1 c2
      refine lv_iconst (v := (0 : Int32)) hx hb d_MD_goesLeft_12 (by decide) ?_
      refine lv_goto (tgt := 26) hx hb d_MD_goesLeft_13 (by decide) ?_
      exact gr_z C hI rfl h d_MD_goesLeft_26
    · have h := h.2 c2
      refine lv_iconst (v := (1 : Int32)) hx hb d_MD_goesLeft_8 (by decide) ?_
      refine lv_goto (tgt := 26) hx hb d_MD_goesLeft_9 (by decide) ?_
      exact gr_z C hI rfl h d_MD_goesLeft_26
set_option maxHeartbeats 4000000 in
set_option maxRecDepth 100000 in
theorem L_MD_sumUp_128 {p : Program} {l : Launch} {e : Env} {s : State} {m : MethodId} {args : Array Value} {below : List Frame} {meth : Method} {c : Code} {D : va_G} {cy : Nat → ClassId} {ad : Nat → Nat} (C : Cx p s m args meth c b_MD_sumUp 7 none "BoostForestsModel" D cy ad) {Q : gM → Prop} {x1 : Int32} {x2 : Int32} {x3 : Int32} {x4 : Int32} {x5 : Int32} {x6 : Int32} {k18 : Int32 → Int32 → Int32 → Int32 → Int32 → Int32 → gM → Prop} {M : gM} {H : Heap} {locs : List Loc} {ls : Array Slot} (K18 : ∀ (x1 : Int32) (x2 : Int32) (x3 : Int32) (x4 : Int32) (x5 : Int32) (x6 : Int32) (M : gM) (H : Heap) (locs : List Loc) (ls : Array Slot), k18 x1 x2 x3 x4 x5 x6 M → gI D cy ad s M H locs → lv_has ls 7 [(0, .ref (ad 273)), (1, .int x1), (2, .int x2), (3, .int x3), (4, .int x4), (5, .int x5), (6, .int x6)] → W p l e rm_MD_sumUp s m args below meth c H locs 0 0 (MQ below (va_Qv Q (gB D cy ad) (gA ad s.heap.size)) args s 0 0 (gA ad s.heap.size)) (F0 m 18 ls [])) (h : wp_MD_sumUp_128 Q k18 x1 x2 x3 x4 x5 x6 M) (hI : gI D cy ad s M H locs) (hl : lv_has ls 7 [(0, .ref (ad 273)), (1, .int x1), (2, .int x2), (3, .int x3), (4, .int x4), (5, .int x5), (6, .int x6)]) : W p l e rm_MD_sumUp s m args below meth c H locs 0 0 (MQ below (va_Qv Q (gB D cy ad) (gA ad s.heap.size)) args s 0 0 (gA ad s.heap.size)) (F0 m 128 ls []) := by
  obtain ⟨hx, hb, hml, hown, hts, hr, hlk, hK, hja⟩ := id C
  refine lv_iinc (v := x6 + 1) (lv' := [(6, .int (x6 + 1)), (0, .ref (ad 273)), (1, .int x1), (2, .int x2), (3, .int x3), (4, .int x4), (5, .int x5)]) hx hb d_MD_sumUp_128 hl (k := 6) rfl rfl (by decide) rfl (fun ls hl => ?_)
  refine lv_goto (tgt := 18) hx hb d_MD_sumUp_131 (by decide) ?_
  exact K18 x1 x2 x3 x4 x5 (x6 + 1) M _ _ _ h hI (lv_sub hl [1, 2, 3, 4, 5, 6, 0] rfl)
set_option maxHeartbeats 4000000 in
set_option maxRecDepth 100000 in
theorem L_MD_sumUp_64 {p : Program} {l : Launch} {e : Env} {s : State} {m : MethodId} {args : Array Value} {below : List Frame} {meth : Method} {c : Code} {D : va_G} {cy : Nat → ClassId} {ad : Nat → Nat} (C : Cx p s m args meth c b_MD_sumUp 7 none "BoostForestsModel" D cy ad) {Q : gM → Prop} {x1 : Int32} {x2 : Int32} {x3 : Int32} {x4 : Int32} {x5 : Int32} {x6 : Int32} {k18 : Int32 → Int32 → Int32 → Int32 → Int32 → Int32 → gM → Prop} {M : gM} {H : Heap} {locs : List Loc} {ls : Array Slot} (K18 : ∀ (x1 : Int32) (x2 : Int32) (x3 : Int32) (x4 : Int32) (x5 : Int32) (x6 : Int32) (M : gM) (H : Heap) (locs : List Loc) (ls : Array Slot), k18 x1 x2 x3 x4 x5 x6 M → gI D cy ad s M H locs → lv_has ls 7 [(0, .ref (ad 273)), (1, .int x1), (2, .int x2), (3, .int x3), (4, .int x4), (5, .int x5), (6, .int x6)] → W p l e rm_MD_sumUp s m args below meth c H locs 0 0 (MQ below (va_Qv Q (gB D cy ad) (gA ad s.heap.size)) args s 0 0 (gA ad s.heap.size)) (F0 m 18 ls [])) (h : wp_MD_sumUp_64 Q k18 x1 x2 x3 x4 x5 x6 M) (hI : gI D cy ad s M H locs) (hl : lv_has ls 7 [(0, .ref (ad 273)), (1, .int x1), (2, .int x2), (3, .int x3), (4, .int x4), (5, .int x5), (6, .int x6)]) : W p l e rm_MD_sumUp s m args below meth c H locs 0 0 (MQ below (va_Qv Q (gB D cy ad) (gA ad s.heap.size)) args s 0 0 (gA ad s.heap.size)) (F0 m 64 ls []) := by
  obtain ⟨hx, hb, hml, hown, hts, hr, hlk, hK, hja⟩ := id C
  refine lv_aload_n hx hb d_MD_sumUp_64 rfl (lv_at hl 0 rfl) ?_
  refine lv_dup hx hb d_MD_sumUp_65 rfl ?_
  refine gw_get (v := .long (M.2 273 29)) C hI lay_273 i_MD rfl 29 (by decide) kw_3_100 rfl rfl d_MD_sumUp_66 ?_
  refine lv_aload_n hx hb d_MD_sumUp_69 rfl (lv_at hl 0 rfl) ?_
  refine gw_get (v := .ref (ad 281)) C hI lay_273 i_MD rfl 10 (by decide) kw_3_81 rfl rfl d_MD_sumUp_70 ?_
  refine lv_iload hx hb d_MD_sumUp_73 (lv_at hl 6 rfl) ?_
  obtain ⟨g1, h⟩ := h
  refine gw_iald C hI lay_281 (j := x6.toNatClampNeg) rfl (v := M.1 281 x6.toNatClampNeg) rfl g1 d_MD_sumUp_75 ?_
  refine lv_i2l hx hb d_MD_sumUp_76 rfl ?_
  refine lv_aload_n hx hb d_MD_sumUp_77 rfl (lv_at hl 0 rfl) ?_
  refine gw_get (v := .ref (ad 284)) C hI lay_273 i_MD rfl 13 (by decide) kw_3_84 rfl rfl d_MD_sumUp_78 ?_
  refine lv_iload hx hb d_MD_sumUp_81 (lv_at hl 6 rfl) ?_
  refine gw_lald C hI lay_284 (j := x6.toNatClampNeg) rfl (v := M.2 284 x6.toNatClampNeg) rfl g1 d_MD_sumUp_83 ?_
  refine lv_ldc2 hx hb hown (hts _ kw_3_201) d_MD_sumUp_84 ?_
  refine lv_aload_n hx hb d_MD_sumUp_87 rfl (lv_at hl 0 rfl) ?_
  refine gw_get (v := .ref (ad 280)) C hI lay_273 i_MD rfl 9 (by decide) kw_3_80 rfl rfl d_MD_sumUp_88 ?_
  refine lv_iload hx hb d_MD_sumUp_91 (lv_at hl 6 rfl) ?_
  refine gw_iald C hI lay_280 (j := x6.toNatClampNeg) rfl (v := M.1 280 x6.toNatClampNeg) rfl g1 d_MD_sumUp_93 ?_
  refine lv_i2l hx hb d_MD_sumUp_94 rfl ?_
  refine lv_lmul hx hb d_MD_sumUp_95 ?_
  refine lv_lsub hx hb d_MD_sumUp_96 ?_
  refine lv_lmul hx hb d_MD_sumUp_97 ?_
  refine lv_ladd hx hb d_MD_sumUp_98 ?_
  refine gw_putl C hI lay_273 i_MD rfl t_MD_ok n_MD 29 (by decide) kw_3_100 rfl rfl rfl rfl rfl d_MD_sumUp_99 (fun H locs hI => ?_)
  refine lv_aload_n hx hb d_MD_sumUp_102 rfl (lv_at hl 0 rfl) ?_
  refine lv_dup hx hb d_MD_sumUp_103 rfl ?_
  refine gw_get (v := .int (M.1 273 30)) C hI lay_273 i_MD rfl 30 (by decide) kw_3_101 rfl rfl d_MD_sumUp_104 ?_
  refine lv_aload_n hx hb d_MD_sumUp_107 rfl (lv_at hl 0 rfl) ?_
  refine gw_get (v := .ref (ad 281)) C hI lay_273 i_MD rfl 10 (by decide) kw_3_81 rfl rfl d_MD_sumUp_108 ?_
  refine lv_iload hx hb d_MD_sumUp_111 (lv_at hl 6 rfl) ?_
  refine gw_iald C hI lay_281 (j := x6.toNatClampNeg) rfl (v := M.1 281 x6.toNatClampNeg) rfl g1 d_MD_sumUp_113 ?_
  refine lv_iadd hx hb d_MD_sumUp_114 ?_
  refine gw_puti C hI lay_273 i_MD rfl t_MD_ok n_MD 30 (by decide) kw_3_101 rfl rfl rfl rfl rfl d_MD_sumUp_115 (fun H locs hI => ?_)
  refine lv_aload_n hx hb d_MD_sumUp_118 rfl (lv_at hl 0 rfl) ?_
  refine lv_dup hx hb d_MD_sumUp_119 rfl ?_
  refine gw_get (v := .int (M.1 273 31)) C hI lay_273 i_MD rfl 31 (by decide) kw_3_102 rfl rfl d_MD_sumUp_120 ?_
  refine lv_iconst (v := (1 : Int32)) hx hb d_MD_sumUp_123 (by decide) ?_
  refine lv_iadd hx hb d_MD_sumUp_124 ?_
  refine gw_puti C hI lay_273 i_MD rfl t_MD_ok n_MD 31 (by decide) kw_3_102 rfl rfl rfl rfl rfl d_MD_sumUp_125 (fun H locs hI => ?_)
  exact L_MD_sumUp_128 C K18 h hI (lv_sub hl [0, 1, 2, 3, 4, 5, 6] rfl)
set_option maxHeartbeats 4000000 in
set_option maxRecDepth 100000 in
theorem L_MD_sumUp_18 {p : Program} {l : Launch} {e : Env} {s : State} {m : MethodId} {args : Array Value} {below : List Frame} {meth : Method} {c : Code} {D : va_G} {cy : Nat → ClassId} {ad : Nat → Nat} (C : Cx p s m args meth c b_MD_sumUp 7 none "BoostForestsModel" D cy ad) {Q : gM → Prop} (n : Nat) : ∀ (x1 : Int32) (x2 : Int32) (x3 : Int32) (x4 : Int32) (x5 : Int32) (x6 : Int32) (M : gM) (H : Heap) (locs : List Loc) (ls : Array Slot), wp_MD_sumUp_18 Q n x1 x2 x3 x4 x5 x6 M → gI D cy ad s M H locs → lv_has ls 7 [(0, .ref (ad 273)), (1, .int x1), (2, .int x2), (3, .int x3), (4, .int x4), (5, .int x5), (6, .int x6)] → W p l e rm_MD_sumUp s m args below meth c H locs 0 0 (MQ below (va_Qv Q (gB D cy ad) (gA ad s.heap.size)) args s 0 0 (gA ad s.heap.size)) (F0 m 18 ls []) := by
  obtain ⟨hx, hb, hml, hown, hts, hr, hlk, hK, hja⟩ := id C
  induction n with
  | zero => exact fun _ _ _ _ _ _ _ _ _ _ h _ _ => h.elim
  | succ n ih =>
    intro x1 x2 x3 x4 x5 x6 M H locs ls h hI hl
    have h := h
    refine lv_iload hx hb d_MD_sumUp_18 (lv_at hl 6 rfl) ?_
    refine lv_aload_n hx hb d_MD_sumUp_20 rfl (lv_at hl 0 rfl) ?_
    refine gw_get (v := .int (M.1 273 7)) C hI lay_273 i_MD rfl 7 (by decide) kw_3_78 rfl rfl d_MD_sumUp_21 ?_
    refine lv_icmp_ge (tgt := 134) hx hb d_MD_sumUp_24 (by decide) (fun c9 => ?_) (fun c9 => ?_)
    · have h := h.1 c9
      exact gr_v C hI h d_MD_sumUp_134
    · have h := h.2 c9
      refine lv_aload_n hx hb d_MD_sumUp_27 rfl (lv_at hl 0 rfl) ?_
      refine gw_get (v := .ref (ad 297)) C hI lay_273 i_MD rfl 27 (by decide) kw_3_98 rfl rfl d_MD_sumUp_28 ?_
      refine lv_iload hx hb d_MD_sumUp_31 (lv_at hl 6 rfl) ?_
      obtain ⟨g2, h⟩ := h
      refine gw_iald C hI lay_297 (j := x6.toNatClampNeg) rfl (v := M.1 297 x6.toNatClampNeg) rfl g2 d_MD_sumUp_33 ?_
      refine lv_iload_n hx hb d_MD_sumUp_34 rfl (lv_at hl 1 rfl) ?_
      refine lv_icmp_ne (tgt := 128) hx hb d_MD_sumUp_35 (by decide) (fun c8 => ?_) (fun c8 => ?_)
      · have h := h.1 c8
        exact L_MD_sumUp_128 C ih h hI (lv_sub hl [0, 1, 2, 3, 4, 5, 6] rfl)
      · have h := h.2 c8
        refine lv_iload_n hx hb d_MD_sumUp_38 rfl (lv_at hl 2 rfl) ?_
        refine lv_if_lt (tgt := 64) hx hb d_MD_sumUp_39 (by decide) (fun c7 => ?_) (fun c7 => ?_)
        · have h := h.1 c7
          exact L_MD_sumUp_64 C ih h hI (lv_sub hl [0, 1, 2, 3, 4, 5, 6] rfl)
        · have h := h.2 c7
          refine lv_aload_n hx hb d_MD_sumUp_42 rfl (lv_at hl 0 rfl) ?_
          refine gw_get (v := .ref (ad 279)) C hI lay_273 i_MD rfl 8 (by decide) kw_3_79 rfl rfl d_MD_sumUp_43 ?_
          refine lv_iconst (v := (4 : Int32)) hx hb d_MD_sumUp_46 (by decide) ?_
          refine lv_iload hx hb d_MD_sumUp_47 (lv_at hl 6 rfl) ?_
          refine lv_imul hx hb d_MD_sumUp_49 ?_
          refine lv_iload_n hx hb d_MD_sumUp_50 rfl (lv_at hl 2 rfl) ?_
          refine lv_iadd hx hb d_MD_sumUp_51 ?_
          obtain ⟨g3, h⟩ := h
          refine gw_iald C hI lay_279 (j := (((4 : Int32) * x6) + x2).toNatClampNeg) rfl (v := M.1 279 ((((4 : Int32) * x6) + x2).toNatClampNeg)) rfl g3 d_MD_sumUp_52 ?_
          refine lv_iload_n hx hb d_MD_sumUp_53 rfl (lv_at hl 3 rfl) ?_
          refine lv_iload hx hb d_MD_sumUp_54 (lv_at hl 4 rfl) ?_
          refine gw_Si C hI hl.1 (As := [.int (M.1 279 ((((4 : Int32) * x6) + x2).toNatClampNeg)), .int x3, .int x4]) (rest := []) (c_MD_goesLeft hja h) kS_MD_147 rfl ⟨rfl, rfl⟩ ⟨Nat.le_of_ble_eq_true rfl, Nat.le_of_ble_eq_true rfl⟩ rfl (Nat.le_of_ble_eq_true rfl) ⟨Nat.zero_le _, Nat.zero_le _⟩ d_MD_sumUp_56 (fun r4 M5 H locs h hI => ?_)
          refine lv_iload hx hb d_MD_sumUp_59 (lv_at hl 5 rfl) ?_
          refine lv_icmp_ne (tgt := 128) hx hb d_MD_sumUp_61 (by decide) (fun c6 => ?_) (fun c6 => ?_)
          · have h := h.1 c6
            exact L_MD_sumUp_128 C ih h hI (lv_sub hl [0, 1, 2, 3, 4, 5, 6] rfl)
          · have h := h.2 c6
            exact L_MD_sumUp_64 C ih h hI (lv_sub hl [0, 1, 2, 3, 4, 5, 6] rfl)
set_option maxHeartbeats 4000000 in
set_option maxRecDepth 100000 in
theorem c_MD_sumUp {l : Launch} {D : va_G} {cy : Nat → ClassId} {ad : Nat → Nat} (hj : gJ ad) {a1 : Int32} {a2 : Int32} {a3 : Int32} {a4 : Int32} {a5 : Int32} {M : gM} {Q : gM → Prop} (h : wp_MD_sumUp Q a1 a2 a3 a4 a5 M) : Cv l y_MD_sumUp b_MD_sumUp 7 none rm_MD_sumUp D cy ad [.ref (ad 273), .int a1, .int a2, .int a3, .int a4, .int a5] M Q := by
  refine gm (by decide +kernel) hj (Nat.le_of_ble_eq_true rfl) (fun p e s m args below meth c ls C hl hI => ?_)
  have hl : lv_has ls 7 [(0, .ref (ad 273)), (1, .int a1), (2, .int a2), (3, .int a3), (4, .int a4), (5, .int a5)] := hl
  obtain ⟨hx, hb, hml, hown, hts, hr, hlk, hK, hja⟩ := id C
  refine lv_aload_n hx hb d_MD_sumUp_0 rfl (lv_at hl 0 rfl) ?_
  refine lv_lconst (v := 0) hx hb d_MD_sumUp_1 (by decide) ?_
  refine gw_putl C hI lay_273 i_MD rfl t_MD_ok n_MD 29 (by decide) kw_3_100 rfl rfl rfl rfl rfl d_MD_sumUp_2 (fun H locs hI => ?_)
  refine lv_aload_n hx hb d_MD_sumUp_5 rfl (lv_at hl 0 rfl) ?_
  refine lv_iconst (v := (0 : Int32)) hx hb d_MD_sumUp_6 (by decide) ?_
  refine gw_puti C hI lay_273 i_MD rfl t_MD_ok n_MD 30 (by decide) kw_3_101 rfl rfl rfl rfl rfl d_MD_sumUp_7 (fun H locs hI => ?_)
  refine lv_aload_n hx hb d_MD_sumUp_10 rfl (lv_at hl 0 rfl) ?_
  refine lv_iconst (v := (0 : Int32)) hx hb d_MD_sumUp_11 (by decide) ?_
  refine gw_puti C hI lay_273 i_MD rfl t_MD_ok n_MD 31 (by decide) kw_3_102 rfl rfl rfl rfl rfl d_MD_sumUp_12 (fun H locs hI => ?_)
  refine lv_iconst (v := (0 : Int32)) hx hb d_MD_sumUp_15 (by decide) ?_
  refine lv_istore (lv' := [(6, .int (0 : Int32)), (0, .ref (ad 273)), (1, .int a1), (2, .int a2), (3, .int a3), (4, .int a4), (5, .int a5)]) hx hb d_MD_sumUp_16 hl (by decide) rfl (fun ls hl => ?_)
  obtain ⟨n10, h⟩ := h
  exact L_MD_sumUp_18 C n10 a1 a2 a3 a4 a5 (0 : Int32) (wi (wi (wl M 273 29 (0 : Int64)) 273 30 (0 : Int32)) 273 31 (0 : Int32)) _ _ _ h hI (lv_sub hl [1, 2, 3, 4, 5, 6, 0] rfl)
set_option maxHeartbeats 4000000 in
set_option maxRecDepth 100000 in
theorem c_MD_layNode {l : Launch} {D : va_G} {cy : Nat → ClassId} {ad : Nat → Nat} (hj : gJ ad) {a1 : Int32} {a2 : Int32} {a3 : Int32} {M : gM} {Q : gM → Prop} (h : wp_MD_layNode Q a1 a2 a3 M) : Cv l y_MD_layNode b_MD_layNode 5 none rm_MD_layNode D cy ad [.ref (ad 273), .int a1, .int a2, .int a3] M Q := by
  refine gm (by decide +kernel) hj (Nat.le_of_ble_eq_true rfl) (fun p e s m args below meth c ls C hl hI => ?_)
  have hl : lv_has ls 5 [(0, .ref (ad 273)), (1, .int a1), (2, .int a2), (3, .int a3)] := hl
  obtain ⟨hx, hb, hml, hown, hts, hr, hlk, hK, hja⟩ := id C
  refine lv_bipush (v := (32 : Int32)) hx hb d_MD_layNode_0 (by decide) ?_
  refine lv_iload_n hx hb d_MD_layNode_2 rfl (lv_at hl 1 rfl) ?_
  refine lv_imul hx hb d_MD_layNode_3 ?_
  refine lv_iload_n hx hb d_MD_layNode_4 rfl (lv_at hl 2 rfl) ?_
  refine lv_iadd hx hb d_MD_layNode_5 ?_
  refine lv_istore (lv' := [(4, .int (((32 : Int32) * a1) + a2)), (0, .ref (ad 273)), (1, .int a1), (2, .int a2), (3, .int a3)]) hx hb d_MD_layNode_6 hl (by decide) rfl (fun ls hl => ?_)
  refine lv_aload_n hx hb d_MD_layNode_8 rfl (lv_at hl 1 rfl) ?_
  refine lv_iload_n hx hb d_MD_layNode_9 rfl (lv_at hl 3 rfl) ?_
  refine lv_iconst (v := (-1 : Int32)) hx hb d_MD_layNode_10 (by decide) ?_
  refine lv_iconst (v := (0 : Int32)) hx hb d_MD_layNode_11 (by decide) ?_
  refine lv_iconst (v := (0 : Int32)) hx hb d_MD_layNode_12 (by decide) ?_
  refine lv_iconst (v := (1 : Int32)) hx hb d_MD_layNode_13 (by decide) ?_
  refine gw_Vv C hI hl.1 (As := [.int a2, .int (-1 : Int32), .int (0 : Int32), .int (0 : Int32), .int (1 : Int32)]) (rest := []) (c_MD_sumUp hja h) kV_MD_163 lay_273 rfl rfl ⟨rfl, rfl⟩ ⟨Nat.le_of_ble_eq_true rfl, Nat.le_of_ble_eq_true rfl⟩ rfl (Nat.le_of_ble_eq_true rfl) ⟨Nat.zero_le _, Nat.zero_le _⟩ d_MD_layNode_14 (fun M2 H locs h hI => ?_)
  refine lv_aload_n hx hb d_MD_layNode_17 rfl (lv_at hl 1 rfl) ?_
  refine gw_get (v := .ref (ad 295)) C hI lay_273 i_MD rfl 25 (by decide) kw_3_96 rfl rfl d_MD_layNode_18 ?_
  refine lv_iload hx hb d_MD_layNode_21 (lv_at hl 0 rfl) ?_
  refine lv_aload_n hx hb d_MD_layNode_23 rfl (lv_at hl 1 rfl) ?_
  refine gw_get (v := .long (M2.2 273 29)) C hI lay_273 i_MD rfl 29 (by decide) kw_3_100 rfl rfl d_MD_layNode_24 ?_
  obtain ⟨g3, h⟩ := h
  refine gw_last C hI lay_295 (j := (((32 : Int32) * a1) + a2).toNatClampNeg) rfl g3 d_MD_layNode_27 (fun H locs hI => ?_)
  refine lv_aload_n hx hb d_MD_layNode_28 rfl (lv_at hl 1 rfl) ?_
  refine gw_get (v := .ref (ad 293)) C hI lay_273 i_MD rfl 23 (by decide) kw_3_94 rfl rfl d_MD_layNode_29 ?_
  refine lv_iload hx hb d_MD_layNode_32 (lv_at hl 0 rfl) ?_
  refine lv_aload_n hx hb d_MD_layNode_34 rfl (lv_at hl 1 rfl) ?_
  refine gw_get (v := .int (M2.1 273 30)) C hI lay_273 i_MD rfl 30 (by decide) kw_3_101 rfl rfl d_MD_layNode_35 ?_
  refine gw_iast C hI lay_293 (j := (((32 : Int32) * a1) + a2).toNatClampNeg) rfl g3 d_MD_layNode_38 (fun H locs hI => ?_)
  refine lv_aload_n hx hb d_MD_layNode_39 rfl (lv_at hl 1 rfl) ?_
  refine gw_get (v := .ref (ad 292)) C hI lay_273 i_MD rfl 22 (by decide) kw_3_93 rfl rfl d_MD_layNode_40 ?_
  refine lv_iload hx hb d_MD_layNode_43 (lv_at hl 0 rfl) ?_
  refine lv_aload_n hx hb d_MD_layNode_45 rfl (lv_at hl 1 rfl) ?_
  refine gw_get (v := .int (M2.1 273 31)) C hI lay_273 i_MD rfl 31 (by decide) kw_3_102 rfl rfl d_MD_layNode_46 ?_
  refine gw_iast C hI lay_292 (j := (((32 : Int32) * a1) + a2).toNatClampNeg) rfl g3 d_MD_layNode_49 (fun H locs hI => ?_)
  refine lv_aload_n hx hb d_MD_layNode_50 rfl (lv_at hl 1 rfl) ?_
  refine gw_get (v := .ref (ad 294)) C hI lay_273 i_MD rfl 24 (by decide) kw_3_95 rfl rfl d_MD_layNode_51 ?_
  refine lv_iload hx hb d_MD_layNode_54 (lv_at hl 0 rfl) ?_
  refine lv_iload_n hx hb d_MD_layNode_56 rfl (lv_at hl 4 rfl) ?_
  refine gw_iast C hI lay_294 (j := (((32 : Int32) * a1) + a2).toNatClampNeg) rfl g3 d_MD_layNode_57 (fun H locs hI => ?_)
  refine lv_aload_n hx hb d_MD_layNode_58 rfl (lv_at hl 1 rfl) ?_
  refine gw_get (v := .ref (ad 288)) C hI lay_273 i_MD rfl 18 (by decide) kw_3_89 rfl rfl d_MD_layNode_59 ?_
  refine lv_iload hx hb d_MD_layNode_62 (lv_at hl 0 rfl) ?_
  refine lv_iconst (v := (-1 : Int32)) hx hb d_MD_layNode_64 (by decide) ?_
  refine gw_iast C hI lay_288 (j := (((32 : Int32) * a1) + a2).toNatClampNeg) rfl g3 d_MD_layNode_65 (fun H locs hI => ?_)
  refine lv_aload_n hx hb d_MD_layNode_66 rfl (lv_at hl 1 rfl) ?_
  refine gw_get (v := .ref (ad 289)) C hI lay_273 i_MD rfl 19 (by decide) kw_3_90 rfl rfl d_MD_layNode_67 ?_
  refine lv_iload hx hb d_MD_layNode_70 (lv_at hl 0 rfl) ?_
  refine lv_iconst (v := (-1 : Int32)) hx hb d_MD_layNode_72 (by decide) ?_
  refine gw_iast C hI lay_289 (j := (((32 : Int32) * a1) + a2).toNatClampNeg) rfl g3 d_MD_layNode_73 (fun H locs hI => ?_)
  refine lv_aload_n hx hb d_MD_layNode_74 rfl (lv_at hl 1 rfl) ?_
  refine gw_get (v := .ref (ad 290)) C hI lay_273 i_MD rfl 20 (by decide) kw_3_91 rfl rfl d_MD_layNode_75 ?_
  refine lv_iload hx hb d_MD_layNode_78 (lv_at hl 0 rfl) ?_
  refine lv_iconst (v := (-1 : Int32)) hx hb d_MD_layNode_80 (by decide) ?_
  refine gw_iast C hI lay_290 (j := (((32 : Int32) * a1) + a2).toNatClampNeg) rfl g3 d_MD_layNode_81 (fun H locs hI => ?_)
  refine lv_aload_n hx hb d_MD_layNode_82 rfl (lv_at hl 1 rfl) ?_
  refine gw_get (v := .ref (ad 291)) C hI lay_273 i_MD rfl 21 (by decide) kw_3_92 rfl rfl d_MD_layNode_83 ?_
  refine lv_iload hx hb d_MD_layNode_86 (lv_at hl 0 rfl) ?_
  refine lv_iconst (v := (-1 : Int32)) hx hb d_MD_layNode_88 (by decide) ?_
  refine gw_iast C hI lay_291 (j := (((32 : Int32) * a1) + a2).toNatClampNeg) rfl g3 d_MD_layNode_89 (fun H locs hI => ?_)
  refine lv_aload_n hx hb d_MD_layNode_90 rfl (lv_at hl 1 rfl) ?_
  refine gw_get (v := .ref (ad 296)) C hI lay_273 i_MD rfl 26 (by decide) kw_3_97 rfl rfl d_MD_layNode_91 ?_
  refine lv_iload hx hb d_MD_layNode_94 (lv_at hl 0 rfl) ?_
  refine lv_lconst (v := 0) hx hb d_MD_layNode_96 (by decide) ?_
  refine gw_last C hI lay_296 (j := (((32 : Int32) * a1) + a2).toNatClampNeg) rfl g3 d_MD_layNode_97 (fun H locs hI => ?_)
  exact gr_v C hI h d_MD_layNode_98
set_option maxHeartbeats 4000000 in
set_option maxRecDepth 100000 in
theorem L_MD_isCut_98 {p : Program} {l : Launch} {e : Env} {s : State} {m : MethodId} {args : Array Value} {below : List Frame} {meth : Method} {c : Code} {D : va_G} {cy : Nat → ClassId} {ad : Nat → Nat} (C : Cx p s m args meth c b_MD_isCut 8 (some .boolean) "BoostForestsModel" D cy ad) {Q : Int32 → gM → Prop} {M : gM} {H : Heap} {locs : List Loc} {ls : Array Slot} (h : wp_MD_isCut_98 Q M) (hI : gI D cy ad s M H locs) (hl : lv_has ls 8 []) : W p l e rm_MD_isCut s m args below meth c H locs 0 0 (MQ below (va_Qi Q (gB D cy ad) (gA ad s.heap.size)) args s 0 0 (gA ad s.heap.size)) (F0 m 98 ls []) := by
  obtain ⟨hx, hb, hml, hown, hts, hr, hlk, hK, hja⟩ := id C
  refine lv_iconst (v := (0 : Int32)) hx hb d_MD_isCut_98 (by decide) ?_
  exact gr_z C hI rfl h d_MD_isCut_99
set_option maxHeartbeats 4000000 in
set_option maxRecDepth 100000 in
theorem L_MD_isCut_78 {p : Program} {l : Launch} {e : Env} {s : State} {m : MethodId} {args : Array Value} {below : List Frame} {meth : Method} {c : Code} {D : va_G} {cy : Nat → ClassId} {ad : Nat → Nat} (C : Cx p s m args meth c b_MD_isCut 8 (some .boolean) "BoostForestsModel" D cy ad) {Q : Int32 → gM → Prop} {x1 : Int32} {x2 : Int32} {x3 : Int32} {x4 : Int32} {x5 : Int32} {x6 : Int32} {k9 : Int32 → Int32 → Int32 → Int32 → Int32 → Int32 → gM → Prop} {M : gM} {H : Heap} {locs : List Loc} {ls : Array Slot} (K9 : ∀ (x1 : Int32) (x2 : Int32) (x3 : Int32) (x4 : Int32) (x5 : Int32) (x6 : Int32) (M : gM) (H : Heap) (locs : List Loc) (ls : Array Slot), k9 x1 x2 x3 x4 x5 x6 M → gI D cy ad s M H locs → lv_has ls 8 [(0, .ref (ad 273)), (1, .int x1), (2, .int x2), (3, .int x3), (4, .int x4), (5, .int x5), (6, .int x6)] → W p l e rm_MD_isCut s m args below meth c H locs 0 0 (MQ below (va_Qi Q (gB D cy ad) (gA ad s.heap.size)) args s 0 0 (gA ad s.heap.size)) (F0 m 9 ls [])) (h : wp_MD_isCut_78 Q k9 x1 x2 x3 x4 x5 x6 M) (hI : gI D cy ad s M H locs) (hl : lv_has ls 8 [(0, .ref (ad 273)), (1, .int x1), (2, .int x2), (3, .int x3), (4, .int x4), (5, .int x5), (6, .int x6)]) : W p l e rm_MD_isCut s m args below meth c H locs 0 0 (MQ below (va_Qi Q (gB D cy ad) (gA ad s.heap.size)) args s 0 0 (gA ad s.heap.size)) (F0 m 78 ls []) := by
  obtain ⟨hx, hb, hml, hown, hts, hr, hlk, hK, hja⟩ := id C
  refine lv_iinc (v := x6 + 1) (lv' := [(6, .int (x6 + 1)), (0, .ref (ad 273)), (1, .int x1), (2, .int x2), (3, .int x3), (4, .int x4), (5, .int x5)]) hx hb d_MD_isCut_78 hl (k := 6) rfl rfl (by decide) rfl (fun ls hl => ?_)
  refine lv_goto (tgt := 9) hx hb d_MD_isCut_81 (by decide) ?_
  exact K9 x1 x2 x3 x4 x5 (x6 + 1) M _ _ _ h hI (lv_sub hl [1, 2, 3, 4, 5, 6, 0] rfl)
set_option maxHeartbeats 4000000 in
set_option maxRecDepth 100000 in
theorem L_MD_isCut_76 {p : Program} {l : Launch} {e : Env} {s : State} {m : MethodId} {args : Array Value} {below : List Frame} {meth : Method} {c : Code} {D : va_G} {cy : Nat → ClassId} {ad : Nat → Nat} (C : Cx p s m args meth c b_MD_isCut 8 (some .boolean) "BoostForestsModel" D cy ad) {Q : Int32 → gM → Prop} {x1 : Int32} {x2 : Int32} {x3 : Int32} {x4 : Int32} {x6 : Int32} {s0 : Int32} {k9 : Int32 → Int32 → Int32 → Int32 → Int32 → Int32 → gM → Prop} {M : gM} {H : Heap} {locs : List Loc} {ls : Array Slot} (K9 : ∀ (x1 : Int32) (x2 : Int32) (x3 : Int32) (x4 : Int32) (x5 : Int32) (x6 : Int32) (M : gM) (H : Heap) (locs : List Loc) (ls : Array Slot), k9 x1 x2 x3 x4 x5 x6 M → gI D cy ad s M H locs → lv_has ls 8 [(0, .ref (ad 273)), (1, .int x1), (2, .int x2), (3, .int x3), (4, .int x4), (5, .int x5), (6, .int x6)] → W p l e rm_MD_isCut s m args below meth c H locs 0 0 (MQ below (va_Qi Q (gB D cy ad) (gA ad s.heap.size)) args s 0 0 (gA ad s.heap.size)) (F0 m 9 ls [])) (h : wp_MD_isCut_76 Q k9 x1 x2 x3 x4 x6 s0 M) (hI : gI D cy ad s M H locs) (hl : lv_has ls 8 [(0, .ref (ad 273)), (1, .int x1), (2, .int x2), (3, .int x3), (4, .int x4), (6, .int x6)]) : W p l e rm_MD_isCut s m args below meth c H locs 0 0 (MQ below (va_Qi Q (gB D cy ad) (gA ad s.heap.size)) args s 0 0 (gA ad s.heap.size)) (F0 m 76 ls [.int s0]) := by
  obtain ⟨hx, hb, hml, hown, hts, hr, hlk, hK, hja⟩ := id C
  refine lv_istore (lv' := [(5, .int s0), (0, .ref (ad 273)), (1, .int x1), (2, .int x2), (3, .int x3), (4, .int x4), (6, .int x6)]) hx hb d_MD_isCut_76 hl (by decide) rfl (fun ls hl => ?_)
  exact L_MD_isCut_78 C K9 h hI (lv_sub hl [1, 2, 3, 4, 5, 0, 6] rfl)
set_option maxHeartbeats 4000000 in
set_option maxRecDepth 100000 in
theorem L_MD_isCut_71 {p : Program} {l : Launch} {e : Env} {s : State} {m : MethodId} {args : Array Value} {below : List Frame} {meth : Method} {c : Code} {D : va_G} {cy : Nat → ClassId} {ad : Nat → Nat} (C : Cx p s m args meth c b_MD_isCut 8 (some .boolean) "BoostForestsModel" D cy ad) {Q : Int32 → gM → Prop} {x1 : Int32} {x2 : Int32} {x3 : Int32} {x4 : Int32} {x6 : Int32} {k9 : Int32 → Int32 → Int32 → Int32 → Int32 → Int32 → gM → Prop} {M : gM} {H : Heap} {locs : List Loc} {ls : Array Slot} (K9 : ∀ (x1 : Int32) (x2 : Int32) (x3 : Int32) (x4 : Int32) (x5 : Int32) (x6 : Int32) (M : gM) (H : Heap) (locs : List Loc) (ls : Array Slot), k9 x1 x2 x3 x4 x5 x6 M → gI D cy ad s M H locs → lv_has ls 8 [(0, .ref (ad 273)), (1, .int x1), (2, .int x2), (3, .int x3), (4, .int x4), (5, .int x5), (6, .int x6)] → W p l e rm_MD_isCut s m args below meth c H locs 0 0 (MQ below (va_Qi Q (gB D cy ad) (gA ad s.heap.size)) args s 0 0 (gA ad s.heap.size)) (F0 m 9 ls [])) (h : wp_MD_isCut_71 Q k9 x1 x2 x3 x4 x6 M) (hI : gI D cy ad s M H locs) (hl : lv_has ls 8 [(0, .ref (ad 273)), (1, .int x1), (2, .int x2), (3, .int x3), (4, .int x4), (6, .int x6)]) : W p l e rm_MD_isCut s m args below meth c H locs 0 0 (MQ below (va_Qi Q (gB D cy ad) (gA ad s.heap.size)) args s 0 0 (gA ad s.heap.size)) (F0 m 71 ls []) := by
  obtain ⟨hx, hb, hml, hown, hts, hr, hlk, hK, hja⟩ := id C
  refine lv_iconst (v := (1 : Int32)) hx hb d_MD_isCut_71 (by decide) ?_
  refine lv_goto (tgt := 76) hx hb d_MD_isCut_72 (by decide) ?_
  exact L_MD_isCut_76 C K9 h hI (lv_sub hl [0, 1, 2, 3, 4, 5] rfl)
set_option maxHeartbeats 4000000 in
set_option maxRecDepth 100000 in
theorem L_MD_isCut_58 {p : Program} {l : Launch} {e : Env} {s : State} {m : MethodId} {args : Array Value} {below : List Frame} {meth : Method} {c : Code} {D : va_G} {cy : Nat → ClassId} {ad : Nat → Nat} (C : Cx p s m args meth c b_MD_isCut 8 (some .boolean) "BoostForestsModel" D cy ad) {Q : Int32 → gM → Prop} {x1 : Int32} {x2 : Int32} {x3 : Int32} {x5 : Int32} {x6 : Int32} {x7 : Int32} {s0 : Int32} {k9 : Int32 → Int32 → Int32 → Int32 → Int32 → Int32 → gM → Prop} {M : gM} {H : Heap} {locs : List Loc} {ls : Array Slot} (K9 : ∀ (x1 : Int32) (x2 : Int32) (x3 : Int32) (x4 : Int32) (x5 : Int32) (x6 : Int32) (M : gM) (H : Heap) (locs : List Loc) (ls : Array Slot), k9 x1 x2 x3 x4 x5 x6 M → gI D cy ad s M H locs → lv_has ls 8 [(0, .ref (ad 273)), (1, .int x1), (2, .int x2), (3, .int x3), (4, .int x4), (5, .int x5), (6, .int x6)] → W p l e rm_MD_isCut s m args below meth c H locs 0 0 (MQ below (va_Qi Q (gB D cy ad) (gA ad s.heap.size)) args s 0 0 (gA ad s.heap.size)) (F0 m 9 ls [])) (h : wp_MD_isCut_58 Q k9 x1 x2 x3 x5 x6 x7 s0 M) (hI : gI D cy ad s M H locs) (hl : lv_has ls 8 [(0, .ref (ad 273)), (1, .int x1), (2, .int x2), (3, .int x3), (5, .int x5), (6, .int x6), (7, .int x7)]) : W p l e rm_MD_isCut s m args below meth c H locs 0 0 (MQ below (va_Qi Q (gB D cy ad) (gA ad s.heap.size)) args s 0 0 (gA ad s.heap.size)) (F0 m 58 ls [.int s0]) := by
  obtain ⟨hx, hb, hml, hown, hts, hr, hlk, hK, hja⟩ := id C
  refine lv_istore (lv' := [(4, .int s0), (0, .ref (ad 273)), (1, .int x1), (2, .int x2), (3, .int x3), (5, .int x5), (6, .int x6), (7, .int x7)]) hx hb d_MD_isCut_58 hl (by decide) rfl (fun ls hl => ?_)
  refine lv_iload hx hb d_MD_isCut_60 (lv_at hl 5 rfl) ?_
  refine lv_if_ne (tgt := 71) hx hb d_MD_isCut_62 (by decide) (fun c2 => ?_) (fun c2 => ?_)
  · have h := h.1 c2
    exact L_MD_isCut_71 C K9 h hI (lv_sub hl [1, 2, 3, 4, 0, 6] rfl)
  · have h := h.2 c2
    refine lv_iload hx hb d_MD_isCut_65 (lv_at hl 7 rfl) ?_
    refine lv_iload_n hx hb d_MD_isCut_67 rfl (lv_at hl 4 rfl) ?_
    refine lv_icmp_le (tgt := 75) hx hb d_MD_isCut_68 (by decide) (fun c1 => ?_) (fun c1 => ?_)
    · have h := h.1 c1
      refine lv_iconst (v := (0 : Int32)) hx hb d_MD_isCut_75 (by decide) ?_
      exact L_MD_isCut_76 C K9 h hI (lv_sub hl [1, 2, 3, 4, 0, 6] rfl)
    · have h := h.2 c1
      exact L_MD_isCut_71 C K9 h hI (lv_sub hl [1, 2, 3, 4, 0, 6] rfl)
set_option maxHeartbeats 4000000 in
set_option maxRecDepth 100000 in
theorem L_MD_isCut_53 {p : Program} {l : Launch} {e : Env} {s : State} {m : MethodId} {args : Array Value} {below : List Frame} {meth : Method} {c : Code} {D : va_G} {cy : Nat → ClassId} {ad : Nat → Nat} (C : Cx p s m args meth c b_MD_isCut 8 (some .boolean) "BoostForestsModel" D cy ad) {Q : Int32 → gM → Prop} {x1 : Int32} {x2 : Int32} {x3 : Int32} {x5 : Int32} {x6 : Int32} {x7 : Int32} {k9 : Int32 → Int32 → Int32 → Int32 → Int32 → Int32 → gM → Prop} {M : gM} {H : Heap} {locs : List Loc} {ls : Array Slot} (K9 : ∀ (x1 : Int32) (x2 : Int32) (x3 : Int32) (x4 : Int32) (x5 : Int32) (x6 : Int32) (M : gM) (H : Heap) (locs : List Loc) (ls : Array Slot), k9 x1 x2 x3 x4 x5 x6 M → gI D cy ad s M H locs → lv_has ls 8 [(0, .ref (ad 273)), (1, .int x1), (2, .int x2), (3, .int x3), (4, .int x4), (5, .int x5), (6, .int x6)] → W p l e rm_MD_isCut s m args below meth c H locs 0 0 (MQ below (va_Qi Q (gB D cy ad) (gA ad s.heap.size)) args s 0 0 (gA ad s.heap.size)) (F0 m 9 ls [])) (h : wp_MD_isCut_53 Q k9 x1 x2 x3 x5 x6 x7 M) (hI : gI D cy ad s M H locs) (hl : lv_has ls 8 [(0, .ref (ad 273)), (1, .int x1), (2, .int x2), (3, .int x3), (5, .int x5), (6, .int x6), (7, .int x7)]) : W p l e rm_MD_isCut s m args below meth c H locs 0 0 (MQ below (va_Qi Q (gB D cy ad) (gA ad s.heap.size)) args s 0 0 (gA ad s.heap.size)) (F0 m 53 ls []) := by
  obtain ⟨hx, hb, hml, hown, hts, hr, hlk, hK, hja⟩ := id C
  refine lv_iconst (v := (1 : Int32)) hx hb d_MD_isCut_53 (by decide) ?_
  refine lv_goto (tgt := 58) hx hb d_MD_isCut_54 (by decide) ?_
  exact L_MD_isCut_58 C K9 h hI (lv_sub hl [0, 1, 2, 3, 4, 5, 6] rfl)
set_option maxHeartbeats 4000000 in
set_option maxRecDepth 100000 in
theorem L_MD_isCut_9 {p : Program} {l : Launch} {e : Env} {s : State} {m : MethodId} {args : Array Value} {below : List Frame} {meth : Method} {c : Code} {D : va_G} {cy : Nat → ClassId} {ad : Nat → Nat} (C : Cx p s m args meth c b_MD_isCut 8 (some .boolean) "BoostForestsModel" D cy ad) {Q : Int32 → gM → Prop} (n : Nat) : ∀ (x1 : Int32) (x2 : Int32) (x3 : Int32) (x4 : Int32) (x5 : Int32) (x6 : Int32) (M : gM) (H : Heap) (locs : List Loc) (ls : Array Slot), wp_MD_isCut_9 Q n x1 x2 x3 x4 x5 x6 M → gI D cy ad s M H locs → lv_has ls 8 [(0, .ref (ad 273)), (1, .int x1), (2, .int x2), (3, .int x3), (4, .int x4), (5, .int x5), (6, .int x6)] → W p l e rm_MD_isCut s m args below meth c H locs 0 0 (MQ below (va_Qi Q (gB D cy ad) (gA ad s.heap.size)) args s 0 0 (gA ad s.heap.size)) (F0 m 9 ls []) := by
  obtain ⟨hx, hb, hml, hown, hts, hr, hlk, hK, hja⟩ := id C
  induction n with
  | zero => exact fun _ _ _ _ _ _ _ _ _ _ h _ _ => h.elim
  | succ n ih =>
    intro x1 x2 x3 x4 x5 x6 M H locs ls h hI hl
    have h := h
    refine lv_iload hx hb d_MD_isCut_9 (lv_at hl 6 rfl) ?_
    refine lv_aload_n hx hb d_MD_isCut_11 rfl (lv_at hl 0 rfl) ?_
    refine gw_get (v := .int (M.1 273 7)) C hI lay_273 i_MD rfl 7 (by decide) kw_3_78 rfl rfl d_MD_isCut_12 ?_
    refine lv_icmp_ge (tgt := 84) hx hb d_MD_isCut_15 (by decide) (fun c10 => ?_) (fun c10 => ?_)
    · have h := h.1 c10
      refine lv_iload hx hb d_MD_isCut_84 (lv_at hl 4 rfl) ?_
      refine lv_if_eq (tgt := 98) hx hb d_MD_isCut_86 (by decide) (fun c4 => ?_) (fun c4 => ?_)
      · have h := h.1 c4
        exact L_MD_isCut_98 C h hI (lv_sub hl [] rfl)
      · have h := h.2 c4
        refine lv_iload hx hb d_MD_isCut_89 (lv_at hl 5 rfl) ?_
        refine lv_if_eq (tgt := 98) hx hb d_MD_isCut_91 (by decide) (fun c3 => ?_) (fun c3 => ?_)
        · have h := h.1 c3
          exact L_MD_isCut_98 C h hI (lv_sub hl [] rfl)
        · have h := h.2 c3
          refine lv_iconst (v := (1 : Int32)) hx hb d_MD_isCut_94 (by decide) ?_
          refine lv_goto (tgt := 99) hx hb d_MD_isCut_95 (by decide) ?_
          exact gr_z C hI rfl h d_MD_isCut_99
    · have h := h.2 c10
      refine lv_aload_n hx hb d_MD_isCut_18 rfl (lv_at hl 0 rfl) ?_
      refine gw_get (v := .ref (ad 297)) C hI lay_273 i_MD rfl 27 (by decide) kw_3_98 rfl rfl d_MD_isCut_19 ?_
      refine lv_iload hx hb d_MD_isCut_22 (lv_at hl 6 rfl) ?_
      obtain ⟨g5, h⟩ := h
      refine gw_iald C hI lay_297 (j := x6.toNatClampNeg) rfl (v := M.1 297 x6.toNatClampNeg) rfl g5 d_MD_isCut_24 ?_
      refine lv_iload_n hx hb d_MD_isCut_25 rfl (lv_at hl 1 rfl) ?_
      refine lv_icmp_ne (tgt := 78) hx hb d_MD_isCut_26 (by decide) (fun c9 => ?_) (fun c9 => ?_)
      · have h := h.1 c9
        exact L_MD_isCut_78 C ih h hI (lv_sub hl [0, 1, 2, 3, 4, 5, 6] rfl)
      · have h := h.2 c9
        refine lv_aload_n hx hb d_MD_isCut_29 rfl (lv_at hl 0 rfl) ?_
        refine gw_get (v := .ref (ad 279)) C hI lay_273 i_MD rfl 8 (by decide) kw_3_79 rfl rfl d_MD_isCut_30 ?_
        refine lv_iconst (v := (4 : Int32)) hx hb d_MD_isCut_33 (by decide) ?_
        refine lv_iload hx hb d_MD_isCut_34 (lv_at hl 6 rfl) ?_
        refine lv_imul hx hb d_MD_isCut_36 ?_
        refine lv_iload_n hx hb d_MD_isCut_37 rfl (lv_at hl 2 rfl) ?_
        refine lv_iadd hx hb d_MD_isCut_38 ?_
        obtain ⟨g6, h⟩ := h
        refine gw_iald C hI lay_279 (j := (((4 : Int32) * x6) + x2).toNatClampNeg) rfl (v := M.1 279 ((((4 : Int32) * x6) + x2).toNatClampNeg)) rfl g6 d_MD_isCut_39 ?_
        refine lv_istore (lv' := [(7, .int (M.1 279 ((((4 : Int32) * x6) + x2).toNatClampNeg))), (0, .ref (ad 273)), (1, .int x1), (2, .int x2), (3, .int x3), (4, .int x4), (5, .int x5), (6, .int x6)]) hx hb d_MD_isCut_40 hl (by decide) rfl (fun ls hl => ?_)
        refine lv_iload hx hb d_MD_isCut_42 (lv_at hl 5 rfl) ?_
        refine lv_if_ne (tgt := 53) hx hb d_MD_isCut_44 (by decide) (fun c8 => ?_) (fun c8 => ?_)
        · have h := h.1 c8
          exact L_MD_isCut_53 C ih h hI (lv_sub hl [1, 2, 3, 4, 6, 7, 0] rfl)
        · have h := h.2 c8
          refine lv_iload hx hb d_MD_isCut_47 (lv_at hl 0 rfl) ?_
          refine lv_iload_n hx hb d_MD_isCut_49 rfl (lv_at hl 4 rfl) ?_
          refine lv_icmp_ne (tgt := 57) hx hb d_MD_isCut_50 (by decide) (fun c7 => ?_) (fun c7 => ?_)
          · have h := h.1 c7
            refine lv_iconst (v := (0 : Int32)) hx hb d_MD_isCut_57 (by decide) ?_
            exact L_MD_isCut_58 C ih h hI (lv_sub hl [1, 2, 3, 4, 6, 7, 0] rfl)
          · have h := h.2 c7
            exact L_MD_isCut_53 C ih h hI (lv_sub hl [1, 2, 3, 4, 6, 7, 0] rfl)
set_option maxHeartbeats 4000000 in
set_option maxRecDepth 100000 in
theorem c_MD_isCut {l : Launch} {D : va_G} {cy : Nat → ClassId} {ad : Nat → Nat} (hj : gJ ad) {a1 : Int32} {a2 : Int32} {a3 : Int32} {M : gM} {Q : Int32 → gM → Prop} (h : wp_MD_isCut Q a1 a2 a3 M) : Ci l y_MD_isCut b_MD_isCut 8 (some .boolean) rm_MD_isCut D cy ad [.ref (ad 273), .int a1, .int a2, .int a3] M Q := by
  refine gm (by decide +kernel) hj (Nat.le_of_ble_eq_true rfl) (fun p e s m args below meth c ls C hl hI => ?_)
  have hl : lv_has ls 8 [(0, .ref (ad 273)), (1, .int a1), (2, .int a2), (3, .int a3)] := hl
  obtain ⟨hx, hb, hml, hown, hts, hr, hlk, hK, hja⟩ := id C
  refine lv_iconst (v := (0 : Int32)) hx hb d_MD_isCut_0 (by decide) ?_
  refine lv_istore (lv' := [(4, .int (0 : Int32)), (0, .ref (ad 273)), (1, .int a1), (2, .int a2), (3, .int a3)]) hx hb d_MD_isCut_1 hl (by decide) rfl (fun ls hl => ?_)
  refine lv_iconst (v := (0 : Int32)) hx hb d_MD_isCut_3 (by decide) ?_
  refine lv_istore (lv' := [(5, .int (0 : Int32)), (4, .int (0 : Int32)), (0, .ref (ad 273)), (1, .int a1), (2, .int a2), (3, .int a3)]) hx hb d_MD_isCut_4 hl (by decide) rfl (fun ls hl => ?_)
  refine lv_iconst (v := (0 : Int32)) hx hb d_MD_isCut_6 (by decide) ?_
  refine lv_istore (lv' := [(6, .int (0 : Int32)), (5, .int (0 : Int32)), (4, .int (0 : Int32)), (0, .ref (ad 273)), (1, .int a1), (2, .int a2), (3, .int a3)]) hx hb d_MD_isCut_7 hl (by decide) rfl (fun ls hl => ?_)
  obtain ⟨n11, h⟩ := h
  exact L_MD_isCut_9 C n11 a1 a2 a3 (0 : Int32) (0 : Int32) (0 : Int32) M _ _ _ h hI (lv_sub hl [3, 4, 5, 6, 2, 1, 0] rfl)
set_option maxHeartbeats 4000000 in
set_option maxRecDepth 100000 in
theorem c_MD_valueOf {l : Launch} {D : va_G} {cy : Nat → ClassId} {ad : Nat → Nat} (hj : gJ ad) {a1 : Int64} {a3 : Int32} {M : gM} {Q : Int64 → gM → Prop} (h : wp_MD_valueOf Q a1 a3 M) : Cl l y_MD_valueOf b_MD_valueOf 4 (some .long) rm_MD_valueOf D cy ad [.ref (ad 273), .long a1, .int a3] M Q := by
  refine gm (by decide +kernel) hj (Nat.le_of_ble_eq_true rfl) (fun p e s m args below meth c ls C hl hI => ?_)
  have hl : lv_has ls 4 [(0, .ref (ad 273)), (1, .long a1), (3, .int a3)] := hl
  obtain ⟨hx, hb, hml, hown, hts, hr, hlk, hK, hja⟩ := id C
  refine lv_iload_n hx hb d_MD_valueOf_0 rfl (lv_at hl 2 rfl) ?_
  refine lv_if_ne (tgt := 8) hx hb d_MD_valueOf_1 (by decide) (fun c2 => ?_) (fun c2 => ?_)
  · have h := h.1 c2
    refine lv_lload_n hx hb d_MD_valueOf_8 rfl (lv_at hl 1 rfl) ?_
    refine lv_lneg hx hb d_MD_valueOf_9 ?_
    refine lv_iload_n hx hb d_MD_valueOf_10 rfl (lv_at hl 2 rfl) ?_
    refine lv_aload_n hx hb d_MD_valueOf_11 rfl (lv_at hl 0 rfl) ?_
    refine gw_get (v := .ref (ad 283)) C hI lay_273 i_MD rfl 12 (by decide) kw_3_83 rfl rfl d_MD_valueOf_12 ?_
    refine lv_iconst (v := (2 : Int32)) hx hb d_MD_valueOf_15 (by decide) ?_
    refine gw_iald C hI lay_283 (j := 2) (by decide) (v := M.1 283 2) rfl (vi_lit (2 : Int32) 15 (by decide)) d_MD_valueOf_16 ?_
    refine lv_iadd hx hb d_MD_valueOf_17 ?_
    refine lv_i2l hx hb d_MD_valueOf_18 rfl ?_
    obtain ⟨g1, h⟩ := h
    refine lv_ldiv hx hb d_MD_valueOf_19 g1 ?_
    exact gr_l C hI h d_MD_valueOf_20
  · have h := h.2 c2
    refine lv_lconst (v := 0) hx hb d_MD_valueOf_4 (by decide) ?_
    refine lv_goto (tgt := 20) hx hb d_MD_valueOf_5 (by decide) ?_
    exact gr_l C hI h d_MD_valueOf_20
set_option maxHeartbeats 4000000 in
set_option maxRecDepth 100000 in
theorem c_MD_worthOf {l : Launch} {D : va_G} {cy : Nat → ClassId} {ad : Nat → Nat} (hj : gJ ad) {a1 : Int64} {a3 : Int32} {M : gM} {Q : Int64 → gM → Prop} (h : wp_MD_worthOf Q a1 a3 M) : Cl l y_MD_worthOf b_MD_worthOf 4 (some .long) rm_MD_worthOf D cy ad [.ref (ad 273), .long a1, .int a3] M Q := by
  refine gm (by decide +kernel) hj (Nat.le_of_ble_eq_true rfl) (fun p e s m args below meth c ls C hl hI => ?_)
  have hl : lv_has ls 4 [(0, .ref (ad 273)), (1, .long a1), (3, .int a3)] := hl
  obtain ⟨hx, hb, hml, hown, hts, hr, hlk, hK, hja⟩ := id C
  refine lv_iload_n hx hb d_MD_worthOf_0 rfl (lv_at hl 2 rfl) ?_
  refine lv_if_ne (tgt := 8) hx hb d_MD_worthOf_1 (by decide) (fun c2 => ?_) (fun c2 => ?_)
  · have h := h.1 c2
    refine lv_lload_n hx hb d_MD_worthOf_8 rfl (lv_at hl 1 rfl) ?_
    refine lv_lload_n hx hb d_MD_worthOf_9 rfl (lv_at hl 1 rfl) ?_
    refine lv_lmul hx hb d_MD_worthOf_10 ?_
    refine lv_iload_n hx hb d_MD_worthOf_11 rfl (lv_at hl 2 rfl) ?_
    refine lv_aload_n hx hb d_MD_worthOf_12 rfl (lv_at hl 0 rfl) ?_
    refine gw_get (v := .ref (ad 283)) C hI lay_273 i_MD rfl 12 (by decide) kw_3_83 rfl rfl d_MD_worthOf_13 ?_
    refine lv_iconst (v := (2 : Int32)) hx hb d_MD_worthOf_16 (by decide) ?_
    refine gw_iald C hI lay_283 (j := 2) (by decide) (v := M.1 283 2) rfl (vi_lit (2 : Int32) 15 (by decide)) d_MD_worthOf_17 ?_
    refine lv_iadd hx hb d_MD_worthOf_18 ?_
    refine lv_i2l hx hb d_MD_worthOf_19 rfl ?_
    obtain ⟨g1, h⟩ := h
    refine lv_ldiv hx hb d_MD_worthOf_20 g1 ?_
    exact gr_l C hI h d_MD_worthOf_21
  · have h := h.2 c2
    refine lv_lconst (v := 0) hx hb d_MD_worthOf_4 (by decide) ?_
    refine lv_goto (tgt := 21) hx hb d_MD_worthOf_5 (by decide) ?_
    exact gr_l C hI h d_MD_worthOf_21
set_option maxHeartbeats 4000000 in
set_option maxRecDepth 100000 in
theorem L_MD_difference_135 {p : Program} {l : Launch} {e : Env} {s : State} {m : MethodId} {args : Array Value} {below : List Frame} {meth : Method} {c : Code} {D : va_G} {cy : Nat → ClassId} {ad : Nat → Nat} (C : Cx p s m args meth c b_MD_difference 15 (some .long) "BoostForestsModel" D cy ad) {Q : Int64 → gM → Prop} {x1 : Int32} {x6 : Int64} {x8 : Int32} {M : gM} {H : Heap} {locs : List Loc} {ls : Array Slot} (h : wp_MD_difference_135 Q x1 x6 x8 M) (hI : gI D cy ad s M H locs) (hl : lv_has ls 15 [(0, .ref (ad 273)), (1, .int x1), (6, .long x6), (8, .int x8)]) : W p l e rm_MD_difference s m args below meth c H locs 0 0 (MQ below (va_Ql Q (gB D cy ad) (gA ad s.heap.size)) args s 0 0 (gA ad s.heap.size)) (F0 m 135 ls []) := by
  obtain ⟨hx, hb, hml, hown, hts, hr, hlk, hK, hja⟩ := id C
  refine lv_aload_n hx hb d_MD_difference_135 rfl (lv_at hl 0 rfl) ?_
  refine lv_lload hx hb d_MD_difference_136 (lv_at hl 2 rfl) ?_
  refine lv_iload hx hb d_MD_difference_138 (lv_at hl 3 rfl) ?_
  refine gw_Vl C hI hl.1 (As := [.long x6, .int x8]) (rest := []) (c_MD_worthOf hja h) kV_MD_181 lay_273 rfl rfl ⟨rfl, rfl⟩ ⟨Nat.le_of_ble_eq_true rfl, Nat.le_of_ble_eq_true rfl⟩ rfl (Nat.le_of_ble_eq_true rfl) ⟨Nat.zero_le _, Nat.zero_le _⟩ d_MD_difference_140 (fun r1 M2 H locs h hI => ?_)
  refine lv_aload_n hx hb d_MD_difference_143 rfl (lv_at hl 0 rfl) ?_
  refine lv_aload_n hx hb d_MD_difference_144 rfl (lv_at hl 0 rfl) ?_
  refine gw_get (v := .long (M2.2 273 29)) C hI lay_273 i_MD rfl 29 (by decide) kw_3_100 rfl rfl d_MD_difference_145 ?_
  refine lv_aload_n hx hb d_MD_difference_148 rfl (lv_at hl 0 rfl) ?_
  refine gw_get (v := .int (M2.1 273 30)) C hI lay_273 i_MD rfl 30 (by decide) kw_3_101 rfl rfl d_MD_difference_149 ?_
  refine gw_Vl C hI hl.1 (As := [.long (M2.2 273 29), .int (M2.1 273 30)]) (rest := [.long r1]) (c_MD_worthOf hja h) kV_MD_181 lay_273 rfl rfl ⟨rfl, rfl⟩ ⟨Nat.le_of_ble_eq_true rfl, Nat.le_of_ble_eq_true rfl⟩ rfl (Nat.le_of_ble_eq_true rfl) ⟨Nat.zero_le _, Nat.zero_le _⟩ d_MD_difference_152 (fun r3 M4 H locs h hI => ?_)
  refine lv_ladd hx hb d_MD_difference_155 ?_
  refine lv_aload_n hx hb d_MD_difference_156 rfl (lv_at hl 0 rfl) ?_
  refine lv_aload_n hx hb d_MD_difference_157 rfl (lv_at hl 0 rfl) ?_
  refine gw_get (v := .ref (ad 295)) C hI lay_273 i_MD rfl 25 (by decide) kw_3_96 rfl rfl d_MD_difference_158 ?_
  refine lv_iload_n hx hb d_MD_difference_161 rfl (lv_at hl 1 rfl) ?_
  obtain ⟨g5, h⟩ := h
  refine gw_lald C hI lay_295 (j := x1.toNatClampNeg) rfl (v := M4.2 295 x1.toNatClampNeg) rfl g5 d_MD_difference_162 ?_
  refine lv_aload_n hx hb d_MD_difference_163 rfl (lv_at hl 0 rfl) ?_
  refine gw_get (v := .ref (ad 293)) C hI lay_273 i_MD rfl 23 (by decide) kw_3_94 rfl rfl d_MD_difference_164 ?_
  refine lv_iload_n hx hb d_MD_difference_167 rfl (lv_at hl 1 rfl) ?_
  refine gw_iald C hI lay_293 (j := x1.toNatClampNeg) rfl (v := M4.1 293 x1.toNatClampNeg) rfl g5 d_MD_difference_168 ?_
  refine gw_Vl C hI hl.1 (As := [.long (M4.2 295 x1.toNatClampNeg), .int (M4.1 293 x1.toNatClampNeg)]) (rest := [.long (r1 + r3)]) (c_MD_worthOf hja h) kV_MD_181 lay_273 rfl rfl ⟨rfl, rfl⟩ ⟨Nat.le_of_ble_eq_true rfl, Nat.le_of_ble_eq_true rfl⟩ rfl (Nat.le_of_ble_eq_true rfl) ⟨Nat.zero_le _, Nat.zero_le _⟩ d_MD_difference_169 (fun r6 M7 H locs h hI => ?_)
  refine lv_lsub hx hb d_MD_difference_172 ?_
  exact gr_l C hI h d_MD_difference_173
set_option maxHeartbeats 4000000 in
set_option maxRecDepth 100000 in
theorem L_MD_difference_131 {p : Program} {l : Launch} {e : Env} {s : State} {m : MethodId} {args : Array Value} {below : List Frame} {meth : Method} {c : Code} {D : va_G} {cy : Nat → ClassId} {ad : Nat → Nat} (C : Cx p s m args meth c b_MD_difference 15 (some .long) "BoostForestsModel" D cy ad) {Q : Int64 → gM → Prop} {M : gM} {H : Heap} {locs : List Loc} {ls : Array Slot} (h : wp_MD_difference_131 Q M) (hI : gI D cy ad s M H locs) (hl : lv_has ls 15 []) : W p l e rm_MD_difference s m args below meth c H locs 0 0 (MQ below (va_Ql Q (gB D cy ad) (gA ad s.heap.size)) args s 0 0 (gA ad s.heap.size)) (F0 m 131 ls []) := by
  obtain ⟨hx, hb, hml, hown, hts, hr, hlk, hK, hja⟩ := id C
  refine lv_ldc2 hx hb hown (hts _ kw_4_1) d_MD_difference_131 ?_
  exact gr_l C hI h d_MD_difference_134
set_option maxHeartbeats 4000000 in
set_option maxRecDepth 100000 in
theorem L_MD_difference_117 {p : Program} {l : Launch} {e : Env} {s : State} {m : MethodId} {args : Array Value} {below : List Frame} {meth : Method} {c : Code} {D : va_G} {cy : Nat → ClassId} {ad : Nat → Nat} (C : Cx p s m args meth c b_MD_difference 15 (some .long) "BoostForestsModel" D cy ad) {Q : Int64 → gM → Prop} {x1 : Int32} {x6 : Int64} {x8 : Int32} {x10 : Int64} {x12 : Int64} {x14 : Int32} {M : gM} {H : Heap} {locs : List Loc} {ls : Array Slot} (h : wp_MD_difference_117 Q x1 x6 x8 x10 x12 x14 M) (hI : gI D cy ad s M H locs) (hl : lv_has ls 15 [(0, .ref (ad 273)), (1, .int x1), (6, .long x6), (8, .int x8), (10, .long x10), (12, .long x12), (14, .int x14)]) : W p l e rm_MD_difference s m args below meth c H locs 0 0 (MQ below (va_Ql Q (gB D cy ad) (gA ad s.heap.size)) args s 0 0 (gA ad s.heap.size)) (F0 m 117 ls []) := by
  obtain ⟨hx, hb, hml, hown, hts, hr, hlk, hK, hja⟩ := id C
  refine lv_iload hx hb d_MD_difference_117 (lv_at hl 6 rfl) ?_
  refine lv_iconst (v := (-1 : Int32)) hx hb d_MD_difference_119 (by decide) ?_
  refine lv_icmp_ne (tgt := 135) hx hb d_MD_difference_120 (by decide) (fun c9 => ?_) (fun c9 => ?_)
  · have h := h.1 c9
    exact L_MD_difference_135 C h hI (lv_sub hl [0, 1, 2, 3] rfl)
  · have h := h.2 c9
    refine lv_lload hx hb d_MD_difference_123 (lv_at hl 4 rfl) ?_
    refine lv_lload hx hb d_MD_difference_125 (lv_at hl 5 rfl) ?_
    refine gl_ge (tgt := 135) C d_MD_difference_127 d_MD_difference_128 (by decide) (fun c8 => ?_) (fun c8 => ?_)
    · have h := h.1 c8
      exact L_MD_difference_135 C h hI (lv_sub hl [0, 1, 2, 3] rfl)
    · have h := h.2 c8
      exact L_MD_difference_131 C h hI (lv_sub hl [] rfl)
set_option maxHeartbeats 4000000 in
set_option maxRecDepth 100000 in
theorem L_MD_difference_64 {p : Program} {l : Launch} {e : Env} {s : State} {m : MethodId} {args : Array Value} {below : List Frame} {meth : Method} {c : Code} {D : va_G} {cy : Nat → ClassId} {ad : Nat → Nat} (C : Cx p s m args meth c b_MD_difference 15 (some .long) "BoostForestsModel" D cy ad) {Q : Int64 → gM → Prop} {M : gM} {H : Heap} {locs : List Loc} {ls : Array Slot} (h : wp_MD_difference_64 Q M) (hI : gI D cy ad s M H locs) (hl : lv_has ls 15 []) : W p l e rm_MD_difference s m args below meth c H locs 0 0 (MQ below (va_Ql Q (gB D cy ad) (gA ad s.heap.size)) args s 0 0 (gA ad s.heap.size)) (F0 m 64 ls []) := by
  obtain ⟨hx, hb, hml, hown, hts, hr, hlk, hK, hja⟩ := id C
  refine lv_ldc2 hx hb hown (hts _ kw_4_1) d_MD_difference_64 ?_
  exact gr_l C hI h d_MD_difference_67
set_option maxHeartbeats 4000000 in
set_option maxRecDepth 100000 in
theorem c_MD_difference {l : Launch} {D : va_G} {cy : Nat → ClassId} {ad : Nat → Nat} (hj : gJ ad) {a1 : Int32} {a2 : Int32} {a3 : Int32} {a4 : Int32} {a5 : Int32} {M : gM} {Q : Int64 → gM → Prop} (h : wp_MD_difference Q a1 a2 a3 a4 a5 M) : Cl l y_MD_difference b_MD_difference 15 (some .long) rm_MD_difference D cy ad [.ref (ad 273), .int a1, .int a2, .int a3, .int a4, .int a5] M Q := by
  refine gm (by decide +kernel) hj (Nat.le_of_ble_eq_true rfl) (fun p e s m args below meth c ls C hl hI => ?_)
  have hl : lv_has ls 15 [(0, .ref (ad 273)), (1, .int a1), (2, .int a2), (3, .int a3), (4, .int a4), (5, .int a5)] := hl
  obtain ⟨hx, hb, hml, hown, hts, hr, hlk, hK, hja⟩ := id C
  refine lv_aload_n hx hb d_MD_difference_0 rfl (lv_at hl 0 rfl) ?_
  refine lv_iload_n hx hb d_MD_difference_1 rfl (lv_at hl 2 rfl) ?_
  refine lv_iload_n hx hb d_MD_difference_2 rfl (lv_at hl 3 rfl) ?_
  refine lv_iload hx hb d_MD_difference_3 (lv_at hl 4 rfl) ?_
  refine lv_iload hx hb d_MD_difference_5 (lv_at hl 5 rfl) ?_
  refine lv_iconst (v := (1 : Int32)) hx hb d_MD_difference_7 (by decide) ?_
  refine gw_Vv C hI hl.1 (As := [.int a2, .int a3, .int a4, .int a5, .int (1 : Int32)]) (rest := []) (c_MD_sumUp hja h) kV_MD_163 lay_273 rfl rfl ⟨rfl, rfl⟩ ⟨Nat.le_of_ble_eq_true rfl, Nat.le_of_ble_eq_true rfl⟩ rfl (Nat.le_of_ble_eq_true rfl) ⟨Nat.zero_le _, Nat.zero_le _⟩ d_MD_difference_8 (fun M11 H locs h hI => ?_)
  refine lv_aload_n hx hb d_MD_difference_11 rfl (lv_at hl 0 rfl) ?_
  refine gw_get (v := .long (M11.2 273 29)) C hI lay_273 i_MD rfl 29 (by decide) kw_3_100 rfl rfl d_MD_difference_12 ?_
  refine lv_lstore (lv' := [(6, .long (M11.2 273 29)), (0, .ref (ad 273)), (1, .int a1), (2, .int a2), (3, .int a3), (4, .int a4), (5, .int a5)]) hx hb d_MD_difference_15 hl (by decide) rfl (fun ls hl => ?_)
  refine lv_aload_n hx hb d_MD_difference_17 rfl (lv_at hl 1 rfl) ?_
  refine gw_get (v := .int (M11.1 273 30)) C hI lay_273 i_MD rfl 30 (by decide) kw_3_101 rfl rfl d_MD_difference_18 ?_
  refine lv_istore (lv' := [(8, .int (M11.1 273 30)), (6, .long (M11.2 273 29)), (0, .ref (ad 273)), (1, .int a1), (2, .int a2), (3, .int a3), (4, .int a4), (5, .int a5)]) hx hb d_MD_difference_21 hl (by decide) rfl (fun ls hl => ?_)
  refine lv_aload_n hx hb d_MD_difference_23 rfl (lv_at hl 2 rfl) ?_
  refine gw_get (v := .int (M11.1 273 31)) C hI lay_273 i_MD rfl 31 (by decide) kw_3_102 rfl rfl d_MD_difference_24 ?_
  refine lv_istore (lv' := [(9, .int (M11.1 273 31)), (8, .int (M11.1 273 30)), (6, .long (M11.2 273 29)), (0, .ref (ad 273)), (1, .int a1), (2, .int a2), (3, .int a3), (4, .int a4), (5, .int a5)]) hx hb d_MD_difference_27 hl (by decide) rfl (fun ls hl => ?_)
  refine lv_aload_n hx hb d_MD_difference_29 rfl (lv_at hl 3 rfl) ?_
  refine lv_iload_n hx hb d_MD_difference_30 rfl (lv_at hl 5 rfl) ?_
  refine lv_iload_n hx hb d_MD_difference_31 rfl (lv_at hl 6 rfl) ?_
  refine lv_iload hx hb d_MD_difference_32 (lv_at hl 7 rfl) ?_
  refine lv_iload hx hb d_MD_difference_34 (lv_at hl 8 rfl) ?_
  refine lv_iconst (v := (0 : Int32)) hx hb d_MD_difference_36 (by decide) ?_
  refine gw_Vv C hI hl.1 (As := [.int a2, .int a3, .int a4, .int a5, .int (0 : Int32)]) (rest := []) (c_MD_sumUp hja h) kV_MD_163 lay_273 rfl rfl ⟨rfl, rfl⟩ ⟨Nat.le_of_ble_eq_true rfl, Nat.le_of_ble_eq_true rfl⟩ rfl (Nat.le_of_ble_eq_true rfl) ⟨Nat.zero_le _, Nat.zero_le _⟩ d_MD_difference_37 (fun M13 H locs h hI => ?_)
  refine lv_iload hx hb d_MD_difference_40 (lv_at hl 0 rfl) ?_
  refine lv_aload_n hx hb d_MD_difference_42 rfl (lv_at hl 3 rfl) ?_
  refine gw_get (v := .ref (ad 283)) C hI lay_273 i_MD rfl 12 (by decide) kw_3_83 rfl rfl d_MD_difference_43 ?_
  refine lv_iconst (v := (1 : Int32)) hx hb d_MD_difference_46 (by decide) ?_
  refine gw_iald C hI lay_283 (j := 1) (by decide) (v := M13.1 283 1) rfl (vi_lit (1 : Int32) 15 (by decide)) d_MD_difference_47 ?_
  refine lv_icmp_lt (tgt := 64) hx hb d_MD_difference_48 (by decide) (fun c22 => ?_) (fun c22 => ?_)
  · have h := h.1 c22
    exact L_MD_difference_64 C h hI (lv_sub hl [] rfl)
  · have h := h.2 c22
    refine lv_aload_n hx hb d_MD_difference_51 rfl (lv_at hl 3 rfl) ?_
    refine gw_get (v := .int (M13.1 273 31)) C hI lay_273 i_MD rfl 31 (by decide) kw_3_102 rfl rfl d_MD_difference_52 ?_
    refine lv_aload_n hx hb d_MD_difference_55 rfl (lv_at hl 3 rfl) ?_
    refine gw_get (v := .ref (ad 283)) C hI lay_273 i_MD rfl 12 (by decide) kw_3_83 rfl rfl d_MD_difference_56 ?_
    refine lv_iconst (v := (1 : Int32)) hx hb d_MD_difference_59 (by decide) ?_
    refine gw_iald C hI lay_283 (j := 1) (by decide) (v := M13.1 283 1) rfl (vi_lit (1 : Int32) 15 (by decide)) d_MD_difference_60 ?_
    refine lv_icmp_ge (tgt := 68) hx hb d_MD_difference_61 (by decide) (fun c21 => ?_) (fun c21 => ?_)
    · have h := h.1 c21
      refine lv_aload_n hx hb d_MD_difference_68 rfl (lv_at hl 3 rfl) ?_
      refine lv_lload hx hb d_MD_difference_69 (lv_at hl 2 rfl) ?_
      refine lv_iload hx hb d_MD_difference_71 (lv_at hl 1 rfl) ?_
      refine gw_Vl C hI hl.1 (As := [.long (M11.2 273 29), .int (M11.1 273 30)]) (rest := []) (c_MD_valueOf hja h) kV_MD_177 lay_273 rfl rfl ⟨rfl, rfl⟩ ⟨Nat.le_of_ble_eq_true rfl, Nat.le_of_ble_eq_true rfl⟩ rfl (Nat.le_of_ble_eq_true rfl) ⟨Nat.zero_le _, Nat.zero_le _⟩ d_MD_difference_73 (fun r14 M15 H locs h hI => ?_)
      refine lv_lstore (lv' := [(10, .long r14), (9, .int (M11.1 273 31)), (8, .int (M11.1 273 30)), (6, .long (M11.2 273 29)), (0, .ref (ad 273)), (1, .int a1), (2, .int a2), (3, .int a3), (4, .int a4), (5, .int a5)]) hx hb d_MD_difference_76 hl (by decide) rfl (fun ls hl => ?_)
      refine lv_aload_n hx hb d_MD_difference_78 rfl (lv_at hl 4 rfl) ?_
      refine lv_aload_n hx hb d_MD_difference_79 rfl (lv_at hl 4 rfl) ?_
      refine gw_get (v := .long (M15.2 273 29)) C hI lay_273 i_MD rfl 29 (by decide) kw_3_100 rfl rfl d_MD_difference_80 ?_
      refine lv_aload_n hx hb d_MD_difference_83 rfl (lv_at hl 4 rfl) ?_
      refine gw_get (v := .int (M15.1 273 30)) C hI lay_273 i_MD rfl 30 (by decide) kw_3_101 rfl rfl d_MD_difference_84 ?_
      refine gw_Vl C hI hl.1 (As := [.long (M15.2 273 29), .int (M15.1 273 30)]) (rest := []) (c_MD_valueOf hja h) kV_MD_177 lay_273 rfl rfl ⟨rfl, rfl⟩ ⟨Nat.le_of_ble_eq_true rfl, Nat.le_of_ble_eq_true rfl⟩ rfl (Nat.le_of_ble_eq_true rfl) ⟨Nat.zero_le _, Nat.zero_le _⟩ d_MD_difference_87 (fun r16 M17 H locs h hI => ?_)
      refine lv_lstore (lv' := [(12, .long r16), (10, .long r14), (9, .int (M11.1 273 31)), (8, .int (M11.1 273 30)), (6, .long (M11.2 273 29)), (0, .ref (ad 273)), (1, .int a1), (2, .int a2), (3, .int a3), (4, .int a4), (5, .int a5)]) hx hb d_MD_difference_90 hl (by decide) rfl (fun ls hl => ?_)
      refine lv_aload_n hx hb d_MD_difference_92 rfl (lv_at hl 5 rfl) ?_
      refine gw_get (v := .ref (ad 283)) C hI lay_273 i_MD rfl 12 (by decide) kw_3_83 rfl rfl d_MD_difference_93 ?_
      refine lv_bipush (v := (11 : Int32)) hx hb d_MD_difference_96 (by decide) ?_
      refine lv_iload_n hx hb d_MD_difference_98 rfl (lv_at hl 8 rfl) ?_
      refine lv_iadd hx hb d_MD_difference_99 ?_
      obtain ⟨g18, h⟩ := h
      refine gw_iald C hI lay_283 (j := ((11 : Int32) + a3).toNatClampNeg) rfl (v := M17.1 283 (((11 : Int32) + a3).toNatClampNeg)) rfl g18 d_MD_difference_100 ?_
      refine lv_istore (lv' := [(14, .int (M17.1 283 (((11 : Int32) + a3).toNatClampNeg))), (12, .long r16), (10, .long r14), (9, .int (M11.1 273 31)), (8, .int (M11.1 273 30)), (6, .long (M11.2 273 29)), (0, .ref (ad 273)), (1, .int a1), (2, .int a2), (3, .int a3), (4, .int a4), (5, .int a5)]) hx hb d_MD_difference_101 hl (by decide) rfl (fun ls hl => ?_)
      refine lv_iload hx hb d_MD_difference_103 (lv_at hl 0 rfl) ?_
      refine lv_iconst (v := (1 : Int32)) hx hb d_MD_difference_105 (by decide) ?_
      refine lv_icmp_ne (tgt := 117) hx hb d_MD_difference_106 (by decide) (fun c20 => ?_) (fun c20 => ?_)
      · have h := h.1 c20
        exact L_MD_difference_117 C h hI (lv_sub hl [6, 7, 5, 4, 2, 1, 0] rfl)
      · have h := h.2 c20
        refine lv_lload hx hb d_MD_difference_109 (lv_at hl 2 rfl) ?_
        refine lv_lload hx hb d_MD_difference_111 (lv_at hl 1 rfl) ?_
        refine gl_gt (tgt := 131) C d_MD_difference_113 d_MD_difference_114 (by decide) (fun c19 => ?_) (fun c19 => ?_)
        · have h := h.1 c19
          exact L_MD_difference_131 C h hI (lv_sub hl [] rfl)
        · have h := h.2 c19
          exact L_MD_difference_117 C h hI (lv_sub hl [6, 7, 5, 4, 2, 1, 0] rfl)
    · have h := h.2 c21
      exact L_MD_difference_64 C h hI (lv_sub hl [] rfl)
set_option maxHeartbeats 4000000 in
set_option maxRecDepth 100000 in
theorem L_MD_split_280 {p : Program} {l : Launch} {e : Env} {s : State} {m : MethodId} {args : Array Value} {below : List Frame} {meth : Method} {c : Code} {D : va_G} {cy : Nat → ClassId} {ad : Nat → Nat} (C : Cx p s m args meth c b_MD_split 11 none "BoostForestsModel" D cy ad) {Q : gM → Prop} {x1 : Int32} {x2 : Int32} {x3 : Int32} {x6 : Int32} {x7 : Int32} {k210 : Int32 → Int32 → Int32 → Int32 → Int32 → gM → Prop} {M : gM} {H : Heap} {locs : List Loc} {ls : Array Slot} (K210 : ∀ (x1 : Int32) (x2 : Int32) (x3 : Int32) (x6 : Int32) (x7 : Int32) (M : gM) (H : Heap) (locs : List Loc) (ls : Array Slot), k210 x1 x2 x3 x6 x7 M → gI D cy ad s M H locs → lv_has ls 11 [(0, .ref (ad 273)), (1, .int x1), (2, .int x2), (3, .int x3), (6, .int x6), (7, .int x7)] → W p l e rm_MD_split s m args below meth c H locs 0 0 (MQ below (va_Qv Q (gB D cy ad) (gA ad s.heap.size)) args s 0 0 (gA ad s.heap.size)) (F0 m 210 ls [])) (h : wp_MD_split_280 Q k210 x1 x2 x3 x6 x7 M) (hI : gI D cy ad s M H locs) (hl : lv_has ls 11 [(0, .ref (ad 273)), (1, .int x1), (2, .int x2), (3, .int x3), (6, .int x6), (7, .int x7)]) : W p l e rm_MD_split s m args below meth c H locs 0 0 (MQ below (va_Qv Q (gB D cy ad) (gA ad s.heap.size)) args s 0 0 (gA ad s.heap.size)) (F0 m 280 ls []) := by
  obtain ⟨hx, hb, hml, hown, hts, hr, hlk, hK, hja⟩ := id C
  refine lv_iinc (v := x7 + 1) (lv' := [(7, .int (x7 + 1)), (0, .ref (ad 273)), (1, .int x1), (2, .int x2), (3, .int x3), (6, .int x6)]) hx hb d_MD_split_280 hl (k := 5) rfl rfl (by decide) rfl (fun ls hl => ?_)
  refine lv_goto (tgt := 210) hx hb d_MD_split_283 (by decide) ?_
  exact K210 x1 x2 x3 x6 (x7 + 1) M _ _ _ h hI (lv_sub hl [1, 2, 3, 4, 5, 0] rfl)
set_option maxHeartbeats 4000000 in
set_option maxRecDepth 100000 in
theorem L_MD_split_279 {p : Program} {l : Launch} {e : Env} {s : State} {m : MethodId} {args : Array Value} {below : List Frame} {meth : Method} {c : Code} {D : va_G} {cy : Nat → ClassId} {ad : Nat → Nat} (C : Cx p s m args meth c b_MD_split 11 none "BoostForestsModel" D cy ad) {Q : gM → Prop} {x1 : Int32} {x2 : Int32} {x3 : Int32} {x6 : Int32} {x7 : Int32} {s0 : Int32} {s1 : Int32} {k210 : Int32 → Int32 → Int32 → Int32 → Int32 → gM → Prop} {M : gM} {H : Heap} {locs : List Loc} {ls : Array Slot} (K210 : ∀ (x1 : Int32) (x2 : Int32) (x3 : Int32) (x6 : Int32) (x7 : Int32) (M : gM) (H : Heap) (locs : List Loc) (ls : Array Slot), k210 x1 x2 x3 x6 x7 M → gI D cy ad s M H locs → lv_has ls 11 [(0, .ref (ad 273)), (1, .int x1), (2, .int x2), (3, .int x3), (6, .int x6), (7, .int x7)] → W p l e rm_MD_split s m args below meth c H locs 0 0 (MQ below (va_Qv Q (gB D cy ad) (gA ad s.heap.size)) args s 0 0 (gA ad s.heap.size)) (F0 m 210 ls [])) (h : wp_MD_split_279 Q k210 x1 x2 x3 x6 x7 s0 s1 M) (hI : gI D cy ad s M H locs) (hl : lv_has ls 11 [(0, .ref (ad 273)), (1, .int x1), (2, .int x2), (3, .int x3), (6, .int x6), (7, .int x7)]) : W p l e rm_MD_split s m args below meth c H locs 0 0 (MQ below (va_Qv Q (gB D cy ad) (gA ad s.heap.size)) args s 0 0 (gA ad s.heap.size)) (F0 m 279 ls [.int s0, .int s1, .ref (ad 297)]) := by
  obtain ⟨hx, hb, hml, hown, hts, hr, hlk, hK, hja⟩ := id C
  obtain ⟨g1, h⟩ := h
  refine gw_iast C hI lay_297 (j := s1.toNatClampNeg) rfl g1 d_MD_split_279 (fun H locs hI => ?_)
  exact L_MD_split_280 C K210 h hI (lv_sub hl [0, 1, 2, 3, 4, 5] rfl)
set_option maxHeartbeats 4000000 in
set_option maxRecDepth 100000 in
theorem L_MD_split_210 {p : Program} {l : Launch} {e : Env} {s : State} {m : MethodId} {args : Array Value} {below : List Frame} {meth : Method} {c : Code} {D : va_G} {cy : Nat → ClassId} {ad : Nat → Nat} (C : Cx p s m args meth c b_MD_split 11 none "BoostForestsModel" D cy ad) {Q : gM → Prop} (n : Nat) : ∀ (x1 : Int32) (x2 : Int32) (x3 : Int32) (x6 : Int32) (x7 : Int32) (M : gM) (H : Heap) (locs : List Loc) (ls : Array Slot), wp_MD_split_210 Q n x1 x2 x3 x6 x7 M → gI D cy ad s M H locs → lv_has ls 11 [(0, .ref (ad 273)), (1, .int x1), (2, .int x2), (3, .int x3), (6, .int x6), (7, .int x7)] → W p l e rm_MD_split s m args below meth c H locs 0 0 (MQ below (va_Qv Q (gB D cy ad) (gA ad s.heap.size)) args s 0 0 (gA ad s.heap.size)) (F0 m 210 ls []) := by
  obtain ⟨hx, hb, hml, hown, hts, hr, hlk, hK, hja⟩ := id C
  induction n with
  | zero => exact fun _ _ _ _ _ _ _ _ _ h _ _ => h.elim
  | succ n ih =>
    intro x1 x2 x3 x6 x7 M H locs ls h hI hl
    have h := h
    refine lv_iload hx hb d_MD_split_210 (lv_at hl 5 rfl) ?_
    refine lv_aload_n hx hb d_MD_split_212 rfl (lv_at hl 0 rfl) ?_
    refine gw_get (v := .int (M.1 273 7)) C hI lay_273 i_MD rfl 7 (by decide) kw_3_78 rfl rfl d_MD_split_213 ?_
    refine lv_icmp_ge (tgt := 286) hx hb d_MD_split_216 (by decide) (fun c14 => ?_) (fun c14 => ?_)
    · have h := h.1 c14
      refine lv_aload_n hx hb d_MD_split_286 rfl (lv_at hl 0 rfl) ?_
      refine lv_iload_n hx hb d_MD_split_287 rfl (lv_at hl 1 rfl) ?_
      refine lv_iload hx hb d_MD_split_288 (lv_at hl 4 rfl) ?_
      refine lv_aload_n hx hb d_MD_split_290 rfl (lv_at hl 0 rfl) ?_
      refine gw_get (v := .ref (ad 294)) C hI lay_273 i_MD rfl 24 (by decide) kw_3_95 rfl rfl d_MD_split_291 ?_
      refine lv_iload_n hx hb d_MD_split_294 rfl (lv_at hl 3 rfl) ?_
      obtain ⟨g2, h⟩ := h
      refine gw_iald C hI lay_294 (j := x3.toNatClampNeg) rfl (v := M.1 294 x3.toNatClampNeg) rfl g2 d_MD_split_295 ?_
      refine lv_iconst (v := (1 : Int32)) hx hb d_MD_split_296 (by decide) ?_
      refine lv_iadd hx hb d_MD_split_297 ?_
      refine gw_Vv C hI hl.1 (As := [.int x1, .int x6, .int ((M.1 294 x3.toNatClampNeg) + (1 : Int32))]) (rest := []) (c_MD_layNode hja h) kV_MD_155 lay_273 rfl rfl ⟨rfl, rfl⟩ ⟨Nat.le_of_ble_eq_true rfl, Nat.le_of_ble_eq_true rfl⟩ rfl (Nat.le_of_ble_eq_true rfl) ⟨Nat.zero_le _, Nat.zero_le _⟩ d_MD_split_298 (fun M4 H locs h hI => ?_)
      refine lv_aload_n hx hb d_MD_split_301 rfl (lv_at hl 0 rfl) ?_
      refine lv_iload_n hx hb d_MD_split_302 rfl (lv_at hl 1 rfl) ?_
      refine lv_iload hx hb d_MD_split_303 (lv_at hl 4 rfl) ?_
      refine lv_iconst (v := (1 : Int32)) hx hb d_MD_split_305 (by decide) ?_
      refine lv_iadd hx hb d_MD_split_306 ?_
      refine lv_aload_n hx hb d_MD_split_307 rfl (lv_at hl 0 rfl) ?_
      refine gw_get (v := .ref (ad 294)) C hI lay_273 i_MD rfl 24 (by decide) kw_3_95 rfl rfl d_MD_split_308 ?_
      refine lv_iload_n hx hb d_MD_split_311 rfl (lv_at hl 3 rfl) ?_
      refine gw_iald C hI lay_294 (j := x3.toNatClampNeg) rfl (v := M4.1 294 x3.toNatClampNeg) rfl g2 d_MD_split_312 ?_
      refine lv_iconst (v := (1 : Int32)) hx hb d_MD_split_313 (by decide) ?_
      refine lv_iadd hx hb d_MD_split_314 ?_
      refine gw_Vv C hI hl.1 (As := [.int x1, .int (x6 + (1 : Int32)), .int ((M4.1 294 x3.toNatClampNeg) + (1 : Int32))]) (rest := []) (c_MD_layNode hja h) kV_MD_155 lay_273 rfl rfl ⟨rfl, rfl⟩ ⟨Nat.le_of_ble_eq_true rfl, Nat.le_of_ble_eq_true rfl⟩ rfl (Nat.le_of_ble_eq_true rfl) ⟨Nat.zero_le _, Nat.zero_le _⟩ d_MD_split_315 (fun M6 H locs h hI => ?_)
      exact gr_v C hI h d_MD_split_318
    · have h := h.2 c14
      refine lv_aload_n hx hb d_MD_split_219 rfl (lv_at hl 0 rfl) ?_
      refine gw_get (v := .ref (ad 297)) C hI lay_273 i_MD rfl 27 (by decide) kw_3_98 rfl rfl d_MD_split_220 ?_
      refine lv_iload hx hb d_MD_split_223 (lv_at hl 5 rfl) ?_
      obtain ⟨g7, h⟩ := h
      refine gw_iald C hI lay_297 (j := x7.toNatClampNeg) rfl (v := M.1 297 x7.toNatClampNeg) rfl g7 d_MD_split_225 ?_
      refine lv_iload_n hx hb d_MD_split_226 rfl (lv_at hl 2 rfl) ?_
      refine lv_icmp_ne (tgt := 280) hx hb d_MD_split_227 (by decide) (fun c13 => ?_) (fun c13 => ?_)
      · have h := h.1 c13
        exact L_MD_split_280 C ih h hI (lv_sub hl [0, 1, 2, 3, 4, 5] rfl)
      · have h := h.2 c13
        refine lv_aload_n hx hb d_MD_split_230 rfl (lv_at hl 0 rfl) ?_
        refine gw_get (v := .ref (ad 297)) C hI lay_273 i_MD rfl 27 (by decide) kw_3_98 rfl rfl d_MD_split_231 ?_
        refine lv_iload hx hb d_MD_split_234 (lv_at hl 5 rfl) ?_
        refine lv_aload_n hx hb d_MD_split_236 rfl (lv_at hl 0 rfl) ?_
        refine gw_get (v := .ref (ad 279)) C hI lay_273 i_MD rfl 8 (by decide) kw_3_79 rfl rfl d_MD_split_237 ?_
        refine lv_iconst (v := (4 : Int32)) hx hb d_MD_split_240 (by decide) ?_
        refine lv_iload hx hb d_MD_split_241 (lv_at hl 5 rfl) ?_
        refine lv_imul hx hb d_MD_split_243 ?_
        refine lv_aload_n hx hb d_MD_split_244 rfl (lv_at hl 0 rfl) ?_
        refine gw_get (v := .ref (ad 288)) C hI lay_273 i_MD rfl 18 (by decide) kw_3_89 rfl rfl d_MD_split_245 ?_
        refine lv_iload_n hx hb d_MD_split_248 rfl (lv_at hl 3 rfl) ?_
        obtain ⟨g8, h⟩ := h
        refine gw_iald C hI lay_288 (j := x3.toNatClampNeg) rfl (v := M.1 288 x3.toNatClampNeg) rfl g8 d_MD_split_249 ?_
        refine lv_iadd hx hb d_MD_split_250 ?_
        obtain ⟨g9, h⟩ := h
        refine gw_iald C hI lay_279 (j := (((4 : Int32) * x7) + (M.1 288 x3.toNatClampNeg)).toNatClampNeg) rfl (v := M.1 279 ((((4 : Int32) * x7) + (M.1 288 x3.toNatClampNeg)).toNatClampNeg)) rfl g9 d_MD_split_251 ?_
        refine lv_aload_n hx hb d_MD_split_252 rfl (lv_at hl 0 rfl) ?_
        refine gw_get (v := .ref (ad 289)) C hI lay_273 i_MD rfl 19 (by decide) kw_3_90 rfl rfl d_MD_split_253 ?_
        refine lv_iload_n hx hb d_MD_split_256 rfl (lv_at hl 3 rfl) ?_
        refine gw_iald C hI lay_289 (j := x3.toNatClampNeg) rfl (v := M.1 289 x3.toNatClampNeg) rfl g8 d_MD_split_257 ?_
        refine lv_aload_n hx hb d_MD_split_258 rfl (lv_at hl 0 rfl) ?_
        refine gw_get (v := .ref (ad 290)) C hI lay_273 i_MD rfl 20 (by decide) kw_3_91 rfl rfl d_MD_split_259 ?_
        refine lv_iload_n hx hb d_MD_split_262 rfl (lv_at hl 3 rfl) ?_
        refine gw_iald C hI lay_290 (j := x3.toNatClampNeg) rfl (v := M.1 290 x3.toNatClampNeg) rfl g8 d_MD_split_263 ?_
        refine gw_Si C hI hl.1 (As := [.int (M.1 279 ((((4 : Int32) * x7) + (M.1 288 x3.toNatClampNeg)).toNatClampNeg)), .int (M.1 289 x3.toNatClampNeg), .int (M.1 290 x3.toNatClampNeg)]) (rest := [.int x7, .ref (ad 297)]) (c_MD_goesLeft hja h) kS_MD_147 rfl ⟨rfl, rfl⟩ ⟨Nat.le_of_ble_eq_true rfl, Nat.le_of_ble_eq_true rfl⟩ rfl (Nat.le_of_ble_eq_true rfl) ⟨Nat.zero_le _, Nat.zero_le _⟩ d_MD_split_264 (fun r10 M11 H locs h hI => ?_)
        refine lv_if_eq (tgt := 275) hx hb d_MD_split_267 (by decide) (fun c12 => ?_) (fun c12 => ?_)
        · have h := h.1 c12
          refine lv_iload hx hb d_MD_split_275 (lv_at hl 4 rfl) ?_
          refine lv_iconst (v := (1 : Int32)) hx hb d_MD_split_277 (by decide) ?_
          refine lv_iadd hx hb d_MD_split_278 ?_
          exact L_MD_split_279 C ih h hI (lv_sub hl [0, 1, 2, 3, 4, 5] rfl)
        · have h := h.2 c12
          refine lv_iload hx hb d_MD_split_270 (lv_at hl 4 rfl) ?_
          refine lv_goto (tgt := 279) hx hb d_MD_split_272 (by decide) ?_
          exact L_MD_split_279 C ih h hI (lv_sub hl [0, 1, 2, 3, 4, 5] rfl)
set_option maxHeartbeats 4000000 in
set_option maxRecDepth 100000 in
theorem L_MD_split_165 {p : Program} {l : Launch} {e : Env} {s : State} {m : MethodId} {args : Array Value} {below : List Frame} {meth : Method} {c : Code} {D : va_G} {cy : Nat → ClassId} {ad : Nat → Nat} (C : Cx p s m args meth c b_MD_split 11 none "BoostForestsModel" D cy ad) {Q : gM → Prop} {x1 : Int32} {x2 : Int32} {x3 : Int32} {x4 : Int64} {x6 : Int32} {k35 : Int32 → Int32 → Int32 → Int64 → Int32 → gM → Prop} {M : gM} {H : Heap} {locs : List Loc} {ls : Array Slot} (K35 : ∀ (x1 : Int32) (x2 : Int32) (x3 : Int32) (x4 : Int64) (x6 : Int32) (M : gM) (H : Heap) (locs : List Loc) (ls : Array Slot), k35 x1 x2 x3 x4 x6 M → gI D cy ad s M H locs → lv_has ls 11 [(0, .ref (ad 273)), (1, .int x1), (2, .int x2), (3, .int x3), (4, .long x4), (6, .int x6)] → W p l e rm_MD_split s m args below meth c H locs 0 0 (MQ below (va_Qv Q (gB D cy ad) (gA ad s.heap.size)) args s 0 0 (gA ad s.heap.size)) (F0 m 35 ls [])) (h : wp_MD_split_165 Q k35 x1 x2 x3 x4 x6 M) (hI : gI D cy ad s M H locs) (hl : lv_has ls 11 [(0, .ref (ad 273)), (1, .int x1), (2, .int x2), (3, .int x3), (4, .long x4), (6, .int x6)]) : W p l e rm_MD_split s m args below meth c H locs 0 0 (MQ below (va_Qv Q (gB D cy ad) (gA ad s.heap.size)) args s 0 0 (gA ad s.heap.size)) (F0 m 165 ls []) := by
  obtain ⟨hx, hb, hml, hown, hts, hr, hlk, hK, hja⟩ := id C
  refine lv_iinc (v := x6 + 1) (lv' := [(6, .int (x6 + 1)), (0, .ref (ad 273)), (1, .int x1), (2, .int x2), (3, .int x3), (4, .long x4)]) hx hb d_MD_split_165 hl (k := 5) rfl rfl (by decide) rfl (fun ls hl => ?_)
  refine lv_goto (tgt := 35) hx hb d_MD_split_168 (by decide) ?_
  exact K35 x1 x2 x3 x4 (x6 + 1) M _ _ _ h hI (lv_sub hl [1, 2, 3, 4, 5, 0] rfl)
set_option maxHeartbeats 4000000 in
set_option maxRecDepth 100000 in
theorem L_MD_split_159 {p : Program} {l : Launch} {e : Env} {s : State} {m : MethodId} {args : Array Value} {below : List Frame} {meth : Method} {c : Code} {D : va_G} {cy : Nat → ClassId} {ad : Nat → Nat} (C : Cx p s m args meth c b_MD_split 11 none "BoostForestsModel" D cy ad) {Q : gM → Prop} {x1 : Int32} {x2 : Int32} {x3 : Int32} {x4 : Int64} {x6 : Int32} {x7 : Int32} {k35 : Int32 → Int32 → Int32 → Int64 → Int32 → gM → Prop} {k67 : Int32 → Int32 → Int32 → Int64 → Int32 → Int32 → gM → Prop} {M : gM} {H : Heap} {locs : List Loc} {ls : Array Slot} (K35 : ∀ (x1 : Int32) (x2 : Int32) (x3 : Int32) (x4 : Int64) (x6 : Int32) (M : gM) (H : Heap) (locs : List Loc) (ls : Array Slot), k35 x1 x2 x3 x4 x6 M → gI D cy ad s M H locs → lv_has ls 11 [(0, .ref (ad 273)), (1, .int x1), (2, .int x2), (3, .int x3), (4, .long x4), (6, .int x6)] → W p l e rm_MD_split s m args below meth c H locs 0 0 (MQ below (va_Qv Q (gB D cy ad) (gA ad s.heap.size)) args s 0 0 (gA ad s.heap.size)) (F0 m 35 ls [])) (K67 : ∀ (x1 : Int32) (x2 : Int32) (x3 : Int32) (x4 : Int64) (x6 : Int32) (x7 : Int32) (M : gM) (H : Heap) (locs : List Loc) (ls : Array Slot), k67 x1 x2 x3 x4 x6 x7 M → gI D cy ad s M H locs → lv_has ls 11 [(0, .ref (ad 273)), (1, .int x1), (2, .int x2), (3, .int x3), (4, .long x4), (6, .int x6), (7, .int x7)] → W p l e rm_MD_split s m args below meth c H locs 0 0 (MQ below (va_Qv Q (gB D cy ad) (gA ad s.heap.size)) args s 0 0 (gA ad s.heap.size)) (F0 m 67 ls [])) (h : wp_MD_split_159 Q k35 k67 x1 x2 x3 x4 x6 x7 M) (hI : gI D cy ad s M H locs) (hl : lv_has ls 11 [(0, .ref (ad 273)), (1, .int x1), (2, .int x2), (3, .int x3), (4, .long x4), (6, .int x6), (7, .int x7)]) : W p l e rm_MD_split s m args below meth c H locs 0 0 (MQ below (va_Qv Q (gB D cy ad) (gA ad s.heap.size)) args s 0 0 (gA ad s.heap.size)) (F0 m 159 ls []) := by
  obtain ⟨hx, hb, hml, hown, hts, hr, hlk, hK, hja⟩ := id C
  refine lv_iinc (v := x7 + 1) (lv' := [(7, .int (x7 + 1)), (0, .ref (ad 273)), (1, .int x1), (2, .int x2), (3, .int x3), (4, .long x4), (6, .int x6)]) hx hb d_MD_split_159 hl (k := 6) rfl rfl (by decide) rfl (fun ls hl => ?_)
  refine lv_goto (tgt := 67) hx hb d_MD_split_162 (by decide) ?_
  exact K67 x1 x2 x3 x4 x6 (x7 + 1) M _ _ _ h hI (lv_sub hl [1, 2, 3, 4, 5, 6, 0] rfl)
set_option maxHeartbeats 4000000 in
set_option maxRecDepth 100000 in
theorem L_MD_split_153 {p : Program} {l : Launch} {e : Env} {s : State} {m : MethodId} {args : Array Value} {below : List Frame} {meth : Method} {c : Code} {D : va_G} {cy : Nat → ClassId} {ad : Nat → Nat} (C : Cx p s m args meth c b_MD_split 11 none "BoostForestsModel" D cy ad) {Q : gM → Prop} {x1 : Int32} {x2 : Int32} {x3 : Int32} {x4 : Int64} {x6 : Int32} {x7 : Int32} {x8 : Int32} {k35 : Int32 → Int32 → Int32 → Int64 → Int32 → gM → Prop} {k67 : Int32 → Int32 → Int32 → Int64 → Int32 → Int32 → gM → Prop} {k77 : Int32 → Int32 → Int32 → Int64 → Int32 → Int32 → Int32 → gM → Prop} {M : gM} {H : Heap} {locs : List Loc} {ls : Array Slot} (K35 : ∀ (x1 : Int32) (x2 : Int32) (x3 : Int32) (x4 : Int64) (x6 : Int32) (M : gM) (H : Heap) (locs : List Loc) (ls : Array Slot), k35 x1 x2 x3 x4 x6 M → gI D cy ad s M H locs → lv_has ls 11 [(0, .ref (ad 273)), (1, .int x1), (2, .int x2), (3, .int x3), (4, .long x4), (6, .int x6)] → W p l e rm_MD_split s m args below meth c H locs 0 0 (MQ below (va_Qv Q (gB D cy ad) (gA ad s.heap.size)) args s 0 0 (gA ad s.heap.size)) (F0 m 35 ls [])) (K67 : ∀ (x1 : Int32) (x2 : Int32) (x3 : Int32) (x4 : Int64) (x6 : Int32) (x7 : Int32) (M : gM) (H : Heap) (locs : List Loc) (ls : Array Slot), k67 x1 x2 x3 x4 x6 x7 M → gI D cy ad s M H locs → lv_has ls 11 [(0, .ref (ad 273)), (1, .int x1), (2, .int x2), (3, .int x3), (4, .long x4), (6, .int x6), (7, .int x7)] → W p l e rm_MD_split s m args below meth c H locs 0 0 (MQ below (va_Qv Q (gB D cy ad) (gA ad s.heap.size)) args s 0 0 (gA ad s.heap.size)) (F0 m 67 ls [])) (K77 : ∀ (x1 : Int32) (x2 : Int32) (x3 : Int32) (x4 : Int64) (x6 : Int32) (x7 : Int32) (x8 : Int32) (M : gM) (H : Heap) (locs : List Loc) (ls : Array Slot), k77 x1 x2 x3 x4 x6 x7 x8 M → gI D cy ad s M H locs → lv_has ls 11 [(0, .ref (ad 273)), (1, .int x1), (2, .int x2), (3, .int x3), (4, .long x4), (6, .int x6), (7, .int x7), (8, .int x8)] → W p l e rm_MD_split s m args below meth c H locs 0 0 (MQ below (va_Qv Q (gB D cy ad) (gA ad s.heap.size)) args s 0 0 (gA ad s.heap.size)) (F0 m 77 ls [])) (h : wp_MD_split_153 Q k35 k67 k77 x1 x2 x3 x4 x6 x7 x8 M) (hI : gI D cy ad s M H locs) (hl : lv_has ls 11 [(0, .ref (ad 273)), (1, .int x1), (2, .int x2), (3, .int x3), (4, .long x4), (6, .int x6), (7, .int x7), (8, .int x8)]) : W p l e rm_MD_split s m args below meth c H locs 0 0 (MQ below (va_Qv Q (gB D cy ad) (gA ad s.heap.size)) args s 0 0 (gA ad s.heap.size)) (F0 m 153 ls []) := by
  obtain ⟨hx, hb, hml, hown, hts, hr, hlk, hK, hja⟩ := id C
  refine lv_iinc (v := x8 + 1) (lv' := [(8, .int (x8 + 1)), (0, .ref (ad 273)), (1, .int x1), (2, .int x2), (3, .int x3), (4, .long x4), (6, .int x6), (7, .int x7)]) hx hb d_MD_split_153 hl (k := 7) rfl rfl (by decide) rfl (fun ls hl => ?_)
  refine lv_goto (tgt := 77) hx hb d_MD_split_156 (by decide) ?_
  exact K77 x1 x2 x3 x4 x6 x7 (x8 + 1) M _ _ _ h hI (lv_sub hl [1, 2, 3, 4, 5, 6, 7, 0] rfl)
set_option maxHeartbeats 4000000 in
set_option maxRecDepth 100000 in
theorem L_MD_split_77 {p : Program} {l : Launch} {e : Env} {s : State} {m : MethodId} {args : Array Value} {below : List Frame} {meth : Method} {c : Code} {D : va_G} {cy : Nat → ClassId} {ad : Nat → Nat} (C : Cx p s m args meth c b_MD_split 11 none "BoostForestsModel" D cy ad) {Q : gM → Prop} {k35 : Int32 → Int32 → Int32 → Int64 → Int32 → gM → Prop} {k67 : Int32 → Int32 → Int32 → Int64 → Int32 → Int32 → gM → Prop} (K35 : ∀ (x1 : Int32) (x2 : Int32) (x3 : Int32) (x4 : Int64) (x6 : Int32) (M : gM) (H : Heap) (locs : List Loc) (ls : Array Slot), k35 x1 x2 x3 x4 x6 M → gI D cy ad s M H locs → lv_has ls 11 [(0, .ref (ad 273)), (1, .int x1), (2, .int x2), (3, .int x3), (4, .long x4), (6, .int x6)] → W p l e rm_MD_split s m args below meth c H locs 0 0 (MQ below (va_Qv Q (gB D cy ad) (gA ad s.heap.size)) args s 0 0 (gA ad s.heap.size)) (F0 m 35 ls [])) (K67 : ∀ (x1 : Int32) (x2 : Int32) (x3 : Int32) (x4 : Int64) (x6 : Int32) (x7 : Int32) (M : gM) (H : Heap) (locs : List Loc) (ls : Array Slot), k67 x1 x2 x3 x4 x6 x7 M → gI D cy ad s M H locs → lv_has ls 11 [(0, .ref (ad 273)), (1, .int x1), (2, .int x2), (3, .int x3), (4, .long x4), (6, .int x6), (7, .int x7)] → W p l e rm_MD_split s m args below meth c H locs 0 0 (MQ below (va_Qv Q (gB D cy ad) (gA ad s.heap.size)) args s 0 0 (gA ad s.heap.size)) (F0 m 67 ls [])) (n : Nat) : ∀ (x1 : Int32) (x2 : Int32) (x3 : Int32) (x4 : Int64) (x6 : Int32) (x7 : Int32) (x8 : Int32) (M : gM) (H : Heap) (locs : List Loc) (ls : Array Slot), wp_MD_split_77 Q k35 k67 n x1 x2 x3 x4 x6 x7 x8 M → gI D cy ad s M H locs → lv_has ls 11 [(0, .ref (ad 273)), (1, .int x1), (2, .int x2), (3, .int x3), (4, .long x4), (6, .int x6), (7, .int x7), (8, .int x8)] → W p l e rm_MD_split s m args below meth c H locs 0 0 (MQ below (va_Qv Q (gB D cy ad) (gA ad s.heap.size)) args s 0 0 (gA ad s.heap.size)) (F0 m 77 ls []) := by
  obtain ⟨hx, hb, hml, hown, hts, hr, hlk, hK, hja⟩ := id C
  induction n with
  | zero => exact fun _ _ _ _ _ _ _ _ _ _ _ h _ _ => h.elim
  | succ n ih =>
    intro x1 x2 x3 x4 x6 x7 x8 M H locs ls h hI hl
    have h := h
    refine lv_iload hx hb d_MD_split_77 (lv_at hl 7 rfl) ?_
    refine lv_iconst (v := (2 : Int32)) hx hb d_MD_split_79 (by decide) ?_
    refine lv_icmp_ge (tgt := 159) hx hb d_MD_split_80 (by decide) (fun c22 => ?_) (fun c22 => ?_)
    · have h := h.1 c22
      exact L_MD_split_159 C K35 K67 h hI (lv_sub hl [0, 1, 2, 3, 4, 5, 6] rfl)
    · have h := h.2 c22
      refine lv_aload_n hx hb d_MD_split_83 rfl (lv_at hl 0 rfl) ?_
      refine lv_iload_n hx hb d_MD_split_84 rfl (lv_at hl 2 rfl) ?_
      refine lv_iload hx hb d_MD_split_85 (lv_at hl 5 rfl) ?_
      refine lv_iload hx hb d_MD_split_87 (lv_at hl 6 rfl) ?_
      refine gw_Vi C hI hl.1 (As := [.int x2, .int x6, .int x7]) (rest := []) (c_MD_isCut hja h) kV_MD_168 lay_273 rfl rfl ⟨rfl, rfl⟩ ⟨Nat.le_of_ble_eq_true rfl, Nat.le_of_ble_eq_true rfl⟩ rfl (Nat.le_of_ble_eq_true rfl) ⟨Nat.zero_le _, Nat.zero_le _⟩ d_MD_split_89 (fun r15 M16 H locs h hI => ?_)
      refine lv_if_eq (tgt := 159) hx hb d_MD_split_92 (by decide) (fun c21 => ?_) (fun c21 => ?_)
      · have h := h.1 c21
        exact L_MD_split_159 C K35 K67 h hI (lv_sub hl [0, 1, 2, 3, 4, 5, 6] rfl)
      · have h := h.2 c21
        refine lv_aload_n hx hb d_MD_split_95 rfl (lv_at hl 0 rfl) ?_
        refine lv_iload_n hx hb d_MD_split_96 rfl (lv_at hl 3 rfl) ?_
        refine lv_iload_n hx hb d_MD_split_97 rfl (lv_at hl 2 rfl) ?_
        refine lv_iload hx hb d_MD_split_98 (lv_at hl 5 rfl) ?_
        refine lv_iload hx hb d_MD_split_100 (lv_at hl 6 rfl) ?_
        refine lv_iload hx hb d_MD_split_102 (lv_at hl 7 rfl) ?_
        refine gw_Vl C hI hl.1 (As := [.int x3, .int x2, .int x6, .int x7, .int x8]) (rest := []) (c_MD_difference hja h) kV_MD_171 lay_273 rfl rfl ⟨rfl, rfl⟩ ⟨Nat.le_of_ble_eq_true rfl, Nat.le_of_ble_eq_true rfl⟩ rfl (Nat.le_of_ble_eq_true rfl) ⟨Nat.zero_le _, Nat.zero_le _⟩ d_MD_split_104 (fun r17 M18 H locs h hI => ?_)
        refine lv_lstore (lv' := [(9, .long r17), (0, .ref (ad 273)), (1, .int x1), (2, .int x2), (3, .int x3), (4, .long x4), (6, .int x6), (7, .int x7), (8, .int x8)]) hx hb d_MD_split_107 hl (by decide) rfl (fun ls hl => ?_)
        refine lv_lload hx hb d_MD_split_109 (lv_at hl 0 rfl) ?_
        refine lv_lload hx hb d_MD_split_111 (lv_at hl 5 rfl) ?_
        refine gl_le (tgt := 153) C d_MD_split_113 d_MD_split_114 (by decide) (fun c20 => ?_) (fun c20 => ?_)
        · have h := h.1 c20
          exact L_MD_split_153 C K35 K67 ih h hI (lv_sub hl [1, 2, 3, 4, 5, 6, 7, 8] rfl)
        · have h := h.2 c20
          refine lv_lload hx hb d_MD_split_117 (lv_at hl 0 rfl) ?_
          refine lv_lstore (lv' := [(4, .long r17), (9, .long r17), (0, .ref (ad 273)), (1, .int x1), (2, .int x2), (3, .int x3), (6, .int x6), (7, .int x7), (8, .int x8)]) hx hb d_MD_split_119 hl (by decide) rfl (fun ls hl => ?_)
          refine lv_aload_n hx hb d_MD_split_121 rfl (lv_at hl 2 rfl) ?_
          refine gw_get (v := .ref (ad 288)) C hI lay_273 i_MD rfl 18 (by decide) kw_3_89 rfl rfl d_MD_split_122 ?_
          refine lv_iload_n hx hb d_MD_split_125 rfl (lv_at hl 5 rfl) ?_
          refine lv_iload hx hb d_MD_split_126 (lv_at hl 6 rfl) ?_
          obtain ⟨g19, h⟩ := h
          refine gw_iast C hI lay_288 (j := x3.toNatClampNeg) rfl g19 d_MD_split_128 (fun H locs hI => ?_)
          refine lv_aload_n hx hb d_MD_split_129 rfl (lv_at hl 2 rfl) ?_
          refine gw_get (v := .ref (ad 289)) C hI lay_273 i_MD rfl 19 (by decide) kw_3_90 rfl rfl d_MD_split_130 ?_
          refine lv_iload_n hx hb d_MD_split_133 rfl (lv_at hl 5 rfl) ?_
          refine lv_iload hx hb d_MD_split_134 (lv_at hl 7 rfl) ?_
          refine gw_iast C hI lay_289 (j := x3.toNatClampNeg) rfl g19 d_MD_split_136 (fun H locs hI => ?_)
          refine lv_aload_n hx hb d_MD_split_137 rfl (lv_at hl 2 rfl) ?_
          refine gw_get (v := .ref (ad 290)) C hI lay_273 i_MD rfl 20 (by decide) kw_3_91 rfl rfl d_MD_split_138 ?_
          refine lv_iload_n hx hb d_MD_split_141 rfl (lv_at hl 5 rfl) ?_
          refine lv_iload hx hb d_MD_split_142 (lv_at hl 8 rfl) ?_
          refine gw_iast C hI lay_290 (j := x3.toNatClampNeg) rfl g19 d_MD_split_144 (fun H locs hI => ?_)
          refine lv_aload_n hx hb d_MD_split_145 rfl (lv_at hl 2 rfl) ?_
          refine gw_get (v := .ref (ad 296)) C hI lay_273 i_MD rfl 26 (by decide) kw_3_97 rfl rfl d_MD_split_146 ?_
          refine lv_iload_n hx hb d_MD_split_149 rfl (lv_at hl 5 rfl) ?_
          refine lv_lload hx hb d_MD_split_150 (lv_at hl 1 rfl) ?_
          refine gw_last C hI lay_296 (j := x3.toNatClampNeg) rfl g19 d_MD_split_152 (fun H locs hI => ?_)
          exact L_MD_split_153 C K35 K67 ih h hI (lv_sub hl [2, 3, 4, 5, 0, 6, 7, 8] rfl)
set_option maxHeartbeats 4000000 in
set_option maxRecDepth 100000 in
theorem L_MD_split_67 {p : Program} {l : Launch} {e : Env} {s : State} {m : MethodId} {args : Array Value} {below : List Frame} {meth : Method} {c : Code} {D : va_G} {cy : Nat → ClassId} {ad : Nat → Nat} (C : Cx p s m args meth c b_MD_split 11 none "BoostForestsModel" D cy ad) {Q : gM → Prop} {k35 : Int32 → Int32 → Int32 → Int64 → Int32 → gM → Prop} (K35 : ∀ (x1 : Int32) (x2 : Int32) (x3 : Int32) (x4 : Int64) (x6 : Int32) (M : gM) (H : Heap) (locs : List Loc) (ls : Array Slot), k35 x1 x2 x3 x4 x6 M → gI D cy ad s M H locs → lv_has ls 11 [(0, .ref (ad 273)), (1, .int x1), (2, .int x2), (3, .int x3), (4, .long x4), (6, .int x6)] → W p l e rm_MD_split s m args below meth c H locs 0 0 (MQ below (va_Qv Q (gB D cy ad) (gA ad s.heap.size)) args s 0 0 (gA ad s.heap.size)) (F0 m 35 ls [])) (n : Nat) : ∀ (x1 : Int32) (x2 : Int32) (x3 : Int32) (x4 : Int64) (x6 : Int32) (x7 : Int32) (M : gM) (H : Heap) (locs : List Loc) (ls : Array Slot), wp_MD_split_67 Q k35 n x1 x2 x3 x4 x6 x7 M → gI D cy ad s M H locs → lv_has ls 11 [(0, .ref (ad 273)), (1, .int x1), (2, .int x2), (3, .int x3), (4, .long x4), (6, .int x6), (7, .int x7)] → W p l e rm_MD_split s m args below meth c H locs 0 0 (MQ below (va_Qv Q (gB D cy ad) (gA ad s.heap.size)) args s 0 0 (gA ad s.heap.size)) (F0 m 67 ls []) := by
  obtain ⟨hx, hb, hml, hown, hts, hr, hlk, hK, hja⟩ := id C
  induction n with
  | zero => exact fun _ _ _ _ _ _ _ _ _ _ h _ _ => h.elim
  | succ n ih =>
    intro x1 x2 x3 x4 x6 x7 M H locs ls h hI hl
    have h := h
    refine lv_iload hx hb d_MD_split_67 (lv_at hl 6 rfl) ?_
    refine lv_bipush (v := (32 : Int32)) hx hb d_MD_split_69 (by decide) ?_
    refine lv_icmp_ge (tgt := 165) hx hb d_MD_split_71 (by decide) (fun c24 => ?_) (fun c24 => ?_)
    · have h := h.1 c24
      exact L_MD_split_165 C K35 h hI (lv_sub hl [0, 1, 2, 3, 4, 5] rfl)
    · have h := h.2 c24
      refine lv_iconst (v := (0 : Int32)) hx hb d_MD_split_74 (by decide) ?_
      refine lv_istore (lv' := [(8, .int (0 : Int32)), (0, .ref (ad 273)), (1, .int x1), (2, .int x2), (3, .int x3), (4, .long x4), (6, .int x6), (7, .int x7)]) hx hb d_MD_split_75 hl (by decide) rfl (fun ls hl => ?_)
      obtain ⟨n23, h⟩ := h
      exact L_MD_split_77 C K35 ih n23 x1 x2 x3 x4 x6 x7 (0 : Int32) M _ _ _ h hI (lv_sub hl [1, 2, 3, 4, 5, 6, 7, 0] rfl)
set_option maxHeartbeats 4000000 in
set_option maxRecDepth 100000 in
theorem L_MD_split_35 {p : Program} {l : Launch} {e : Env} {s : State} {m : MethodId} {args : Array Value} {below : List Frame} {meth : Method} {c : Code} {D : va_G} {cy : Nat → ClassId} {ad : Nat → Nat} (C : Cx p s m args meth c b_MD_split 11 none "BoostForestsModel" D cy ad) {Q : gM → Prop} (n : Nat) : ∀ (x1 : Int32) (x2 : Int32) (x3 : Int32) (x4 : Int64) (x6 : Int32) (M : gM) (H : Heap) (locs : List Loc) (ls : Array Slot), wp_MD_split_35 Q n x1 x2 x3 x4 x6 M → gI D cy ad s M H locs → lv_has ls 11 [(0, .ref (ad 273)), (1, .int x1), (2, .int x2), (3, .int x3), (4, .long x4), (6, .int x6)] → W p l e rm_MD_split s m args below meth c H locs 0 0 (MQ below (va_Qv Q (gB D cy ad) (gA ad s.heap.size)) args s 0 0 (gA ad s.heap.size)) (F0 m 35 ls []) := by
  obtain ⟨hx, hb, hml, hown, hts, hr, hlk, hK, hja⟩ := id C
  induction n with
  | zero => exact fun _ _ _ _ _ _ _ _ _ h _ _ => h.elim
  | succ n ih =>
    intro x1 x2 x3 x4 x6 M H locs ls h hI hl
    have h := h
    refine lv_iload hx hb d_MD_split_35 (lv_at hl 5 rfl) ?_
    refine lv_iconst (v := (4 : Int32)) hx hb d_MD_split_37 (by decide) ?_
    refine lv_icmp_ge (tgt := 171) hx hb d_MD_split_38 (by decide) (fun c33 => ?_) (fun c33 => ?_)
    · have h := h.1 c33
      refine lv_aload_n hx hb d_MD_split_171 rfl (lv_at hl 0 rfl) ?_
      refine gw_get (v := .ref (ad 288)) C hI lay_273 i_MD rfl 18 (by decide) kw_3_89 rfl rfl d_MD_split_172 ?_
      refine lv_iload_n hx hb d_MD_split_175 rfl (lv_at hl 3 rfl) ?_
      obtain ⟨g25, h⟩ := h
      refine gw_iald C hI lay_288 (j := x3.toNatClampNeg) rfl (v := M.1 288 x3.toNatClampNeg) rfl g25 d_MD_split_176 ?_
      refine lv_if_ge (tgt := 181) hx hb d_MD_split_177 (by decide) (fun c28 => ?_) (fun c28 => ?_)
      · have h := h.1 c28
        refine lv_aload_n hx hb d_MD_split_181 rfl (lv_at hl 0 rfl) ?_
        refine gw_get (v := .ref (ad 287)) C hI lay_273 i_MD rfl 17 (by decide) kw_3_88 rfl rfl d_MD_split_182 ?_
        refine lv_iload_n hx hb d_MD_split_185 rfl (lv_at hl 1 rfl) ?_
        obtain ⟨g26, h⟩ := h
        refine gw_iald C hI lay_287 (j := x1.toNatClampNeg) rfl (v := M.1 287 x1.toNatClampNeg) rfl g26 d_MD_split_186 ?_
        refine lv_istore (lv' := [(6, .int (M.1 287 x1.toNatClampNeg)), (0, .ref (ad 273)), (1, .int x1), (2, .int x2), (3, .int x3), (4, .long x4)]) hx hb d_MD_split_187 hl (by decide) rfl (fun ls hl => ?_)
        refine lv_aload_n hx hb d_MD_split_189 rfl (lv_at hl 1 rfl) ?_
        refine gw_get (v := .ref (ad 291)) C hI lay_273 i_MD rfl 21 (by decide) kw_3_92 rfl rfl d_MD_split_190 ?_
        refine lv_iload_n hx hb d_MD_split_193 rfl (lv_at hl 4 rfl) ?_
        refine lv_iload hx hb d_MD_split_194 (lv_at hl 0 rfl) ?_
        refine gw_iast C hI lay_291 (j := x3.toNatClampNeg) rfl g25 d_MD_split_196 (fun H locs hI => ?_)
        refine lv_aload_n hx hb d_MD_split_197 rfl (lv_at hl 1 rfl) ?_
        refine gw_get (v := .ref (ad 287)) C hI lay_273 i_MD rfl 17 (by decide) kw_3_88 rfl rfl d_MD_split_198 ?_
        refine lv_iload_n hx hb d_MD_split_201 rfl (lv_at hl 2 rfl) ?_
        refine lv_dup2_11 hx hb d_MD_split_202 rfl rfl ?_
        refine gw_iald C hI lay_287 (j := x1.toNatClampNeg) rfl (v := M.1 287 x1.toNatClampNeg) rfl g26 d_MD_split_203 ?_
        refine lv_iconst (v := (2 : Int32)) hx hb d_MD_split_204 (by decide) ?_
        refine lv_iadd hx hb d_MD_split_205 ?_
        refine gw_iast C hI lay_287 (j := x1.toNatClampNeg) rfl g26 d_MD_split_206 (fun H locs hI => ?_)
        refine lv_iconst (v := (0 : Int32)) hx hb d_MD_split_207 (by decide) ?_
        refine lv_istore (lv' := [(7, .int (0 : Int32)), (6, .int (M.1 287 x1.toNatClampNeg)), (0, .ref (ad 273)), (1, .int x1), (2, .int x2), (3, .int x3), (4, .long x4)]) hx hb d_MD_split_208 hl (by decide) rfl (fun ls hl => ?_)
        obtain ⟨n27, h⟩ := h
        exact L_MD_split_210 C n27 x1 x2 x3 (M.1 287 x1.toNatClampNeg) (0 : Int32) (wi (wi M (291) x3.toNatClampNeg (M.1 287 x1.toNatClampNeg)) (287) x1.toNatClampNeg ((M.1 287 x1.toNatClampNeg) + (2 : Int32))) _ _ _ h hI (lv_sub hl [2, 3, 4, 5, 1, 0] rfl)
      · have h := h.2 c28
        exact gr_v C hI h d_MD_split_180
    · have h := h.2 c33
      refine lv_aload_n hx hb d_MD_split_41 rfl (lv_at hl 0 rfl) ?_
      refine lv_ldc hx hb hown (hts _ kw_3_232) d_MD_split_42 ?_
      refine lv_iconst (v := (4 : Int32)) hx hb d_MD_split_44 (by decide) ?_
      refine lv_iload_n hx hb d_MD_split_45 rfl (lv_at hl 1 rfl) ?_
      refine lv_imul hx hb d_MD_split_46 ?_
      refine lv_iadd hx hb d_MD_split_47 ?_
      refine lv_iload hx hb d_MD_split_48 (lv_at hl 5 rfl) ?_
      refine lv_iadd hx hb d_MD_split_50 ?_
      refine gw_Vi C hI hl.1 (As := [.int (((100000 : Int32) + ((4 : Int32) * x1)) + x6)]) (rest := []) (c_MD_drawn hja h) kV_MD_151 lay_273 rfl rfl ⟨rfl, rfl⟩ ⟨Nat.le_of_ble_eq_true rfl, Nat.le_of_ble_eq_true rfl⟩ rfl (Nat.le_of_ble_eq_true rfl) ⟨Nat.zero_le _, Nat.zero_le _⟩ d_MD_split_51 (fun r29 M30 H locs h hI => ?_)
      refine lv_aload_n hx hb d_MD_split_54 rfl (lv_at hl 0 rfl) ?_
      refine gw_get (v := .ref (ad 283)) C hI lay_273 i_MD rfl 12 (by decide) kw_3_83 rfl rfl d_MD_split_55 ?_
      refine lv_bipush (v := (7 : Int32)) hx hb d_MD_split_58 (by decide) ?_
      refine gw_iald C hI lay_283 (j := 7) (by decide) (v := M30.1 283 7) rfl (vi_lit (7 : Int32) 15 (by decide)) d_MD_split_60 ?_
      refine lv_icmp_ge (tgt := 165) hx hb d_MD_split_61 (by decide) (fun c32 => ?_) (fun c32 => ?_)
      · have h := h.1 c32
        exact L_MD_split_165 C ih h hI (lv_sub hl [0, 1, 2, 3, 4, 5] rfl)
      · have h := h.2 c32
        refine lv_iconst (v := (0 : Int32)) hx hb d_MD_split_64 (by decide) ?_
        refine lv_istore (lv' := [(7, .int (0 : Int32)), (0, .ref (ad 273)), (1, .int x1), (2, .int x2), (3, .int x3), (4, .long x4), (6, .int x6)]) hx hb d_MD_split_65 hl (by decide) rfl (fun ls hl => ?_)
        obtain ⟨n31, h⟩ := h
        exact L_MD_split_67 C ih n31 x1 x2 x3 x4 x6 (0 : Int32) M30 _ _ _ h hI (lv_sub hl [1, 2, 3, 4, 5, 6, 0] rfl)
set_option maxHeartbeats 4000000 in
set_option maxRecDepth 100000 in
theorem c_MD_split {l : Launch} {D : va_G} {cy : Nat → ClassId} {ad : Nat → Nat} (hj : gJ ad) {a1 : Int32} {a2 : Int32} {M : gM} {Q : gM → Prop} (h : wp_MD_split Q a1 a2 M) : Cv l y_MD_split b_MD_split 11 none rm_MD_split D cy ad [.ref (ad 273), .int a1, .int a2] M Q := by
  refine gm (by decide +kernel) hj (Nat.le_of_ble_eq_true rfl) (fun p e s m args below meth c ls C hl hI => ?_)
  have hl : lv_has ls 11 [(0, .ref (ad 273)), (1, .int a1), (2, .int a2)] := hl
  obtain ⟨hx, hb, hml, hown, hts, hr, hlk, hK, hja⟩ := id C
  refine lv_bipush (v := (32 : Int32)) hx hb d_MD_split_0 (by decide) ?_
  refine lv_iload_n hx hb d_MD_split_2 rfl (lv_at hl 1 rfl) ?_
  refine lv_imul hx hb d_MD_split_3 ?_
  refine lv_iload_n hx hb d_MD_split_4 rfl (lv_at hl 2 rfl) ?_
  refine lv_iadd hx hb d_MD_split_5 ?_
  refine lv_istore_n (lv' := [(3, .int (((32 : Int32) * a1) + a2)), (0, .ref (ad 273)), (1, .int a1), (2, .int a2)]) hx hb d_MD_split_6 rfl hl (by decide) rfl (fun ls hl => ?_)
  refine lv_aload_n hx hb d_MD_split_7 rfl (lv_at hl 1 rfl) ?_
  refine gw_get (v := .ref (ad 283)) C hI lay_273 i_MD rfl 12 (by decide) kw_3_83 rfl rfl d_MD_split_8 ?_
  refine lv_iconst (v := (5 : Int32)) hx hb d_MD_split_11 (by decide) ?_
  refine gw_iald C hI lay_283 (j := 5) (by decide) (v := M.1 283 5) rfl (vi_lit (5 : Int32) 15 (by decide)) d_MD_split_12 ?_
  refine lv_i2l hx hb d_MD_split_13 rfl ?_
  refine lv_lstore (lv' := [(4, .long ((M.1 283 5).toInt64)), (3, .int (((32 : Int32) * a1) + a2)), (0, .ref (ad 273)), (1, .int a1), (2, .int a2)]) hx hb d_MD_split_14 hl (by decide) rfl (fun ls hl => ?_)
  refine lv_aload_n hx hb d_MD_split_16 rfl (lv_at hl 2 rfl) ?_
  refine gw_get (v := .ref (ad 294)) C hI lay_273 i_MD rfl 24 (by decide) kw_3_95 rfl rfl d_MD_split_17 ?_
  refine lv_iload_n hx hb d_MD_split_20 rfl (lv_at hl 1 rfl) ?_
  obtain ⟨g34, h⟩ := h
  refine gw_iald C hI lay_294 (j := (((32 : Int32) * a1) + a2).toNatClampNeg) rfl (v := M.1 294 ((((32 : Int32) * a1) + a2).toNatClampNeg)) rfl g34 d_MD_split_21 ?_
  refine lv_aload_n hx hb d_MD_split_22 rfl (lv_at hl 2 rfl) ?_
  refine gw_get (v := .ref (ad 283)) C hI lay_273 i_MD rfl 12 (by decide) kw_3_83 rfl rfl d_MD_split_23 ?_
  refine lv_iconst (v := (0 : Int32)) hx hb d_MD_split_26 (by decide) ?_
  refine gw_iald C hI lay_283 (j := 0) (by decide) (v := M.1 283 0) rfl (vi_lit (0 : Int32) 15 (by decide)) d_MD_split_27 ?_
  refine lv_icmp_ne (tgt := 32) hx hb d_MD_split_28 (by decide) (fun c36 => ?_) (fun c36 => ?_)
  · have h := h.1 c36
    refine lv_iconst (v := (0 : Int32)) hx hb d_MD_split_32 (by decide) ?_
    refine lv_istore (lv' := [(6, .int (0 : Int32)), (4, .long ((M.1 283 5).toInt64)), (3, .int (((32 : Int32) * a1) + a2)), (0, .ref (ad 273)), (1, .int a1), (2, .int a2)]) hx hb d_MD_split_33 hl (by decide) rfl (fun ls hl => ?_)
    obtain ⟨n35, h⟩ := h
    exact L_MD_split_35 C n35 a1 a2 (((32 : Int32) * a1) + a2) ((M.1 283 5).toInt64) (0 : Int32) M _ _ _ h hI (lv_sub hl [3, 4, 5, 2, 1, 0] rfl)
  · have h := h.2 c36
    exact gr_v C hI h d_MD_split_31
set_option maxHeartbeats 4000000 in
set_option maxRecDepth 100000 in
theorem L_MD_makeTree_94 {p : Program} {l : Launch} {e : Env} {s : State} {m : MethodId} {args : Array Value} {below : List Frame} {meth : Method} {c : Code} {D : va_G} {cy : Nat → ClassId} {ad : Nat → Nat} (C : Cx p s m args meth c b_MD_makeTree 4 none "BoostForestsModel" D cy ad) {Q : gM → Prop} (n : Nat) : ∀ (x1 : Int32) (x2 : Int32) (M : gM) (H : Heap) (locs : List Loc) (ls : Array Slot), wp_MD_makeTree_94 Q n x1 x2 M → gI D cy ad s M H locs → lv_has ls 4 [(0, .ref (ad 273)), (1, .int x1), (2, .int x2)] → W p l e rm_MD_makeTree s m args below meth c H locs 0 0 (MQ below (va_Qv Q (gB D cy ad) (gA ad s.heap.size)) args s 0 0 (gA ad s.heap.size)) (F0 m 94 ls []) := by
  obtain ⟨hx, hb, hml, hown, hts, hr, hlk, hK, hja⟩ := id C
  induction n with
  | zero => exact fun _ _ _ _ _ _ h _ _ => h.elim
  | succ n ih =>
    intro x1 x2 M H locs ls h hI hl
    have h := h
    refine lv_iload_n hx hb d_MD_makeTree_94 rfl (lv_at hl 2 rfl) ?_
    refine lv_aload_n hx hb d_MD_makeTree_95 rfl (lv_at hl 0 rfl) ?_
    refine gw_get (v := .ref (ad 287)) C hI lay_273 i_MD rfl 17 (by decide) kw_3_88 rfl rfl d_MD_makeTree_96 ?_
    refine lv_iload_n hx hb d_MD_makeTree_99 rfl (lv_at hl 1 rfl) ?_
    obtain ⟨g1, h⟩ := h
    refine gw_iald C hI lay_287 (j := x1.toNatClampNeg) rfl (v := M.1 287 x1.toNatClampNeg) rfl g1 d_MD_makeTree_100 ?_
    refine lv_icmp_ge (tgt := 116) hx hb d_MD_makeTree_101 (by decide) (fun c4 => ?_) (fun c4 => ?_)
    · have h := h.1 c4
      exact gr_v C hI h d_MD_makeTree_116
    · have h := h.2 c4
      refine lv_aload_n hx hb d_MD_makeTree_104 rfl (lv_at hl 0 rfl) ?_
      refine lv_iload_n hx hb d_MD_makeTree_105 rfl (lv_at hl 1 rfl) ?_
      refine lv_iload_n hx hb d_MD_makeTree_106 rfl (lv_at hl 2 rfl) ?_
      refine gw_Vv C hI hl.1 (As := [.int x1, .int x2]) (rest := []) (c_MD_split hja h) kV_MD_159 lay_273 rfl rfl ⟨rfl, rfl⟩ ⟨Nat.le_of_ble_eq_true rfl, Nat.le_of_ble_eq_true rfl⟩ rfl (Nat.le_of_ble_eq_true rfl) ⟨Nat.zero_le _, Nat.zero_le _⟩ d_MD_makeTree_107 (fun M3 H locs h hI => ?_)
      refine lv_iinc (v := x2 + 1) (lv' := [(2, .int (x2 + 1)), (0, .ref (ad 273)), (1, .int x1)]) hx hb d_MD_makeTree_110 hl (k := 2) rfl rfl (by decide) rfl (fun ls hl => ?_)
      refine lv_goto (tgt := 94) hx hb d_MD_makeTree_113 (by decide) ?_
      exact ih x1 (x2 + 1) M3 _ _ _ h hI (lv_sub hl [1, 2, 0] rfl)
set_option maxHeartbeats 4000000 in
set_option maxRecDepth 100000 in
theorem L_MD_makeTree_71 {p : Program} {l : Launch} {e : Env} {s : State} {m : MethodId} {args : Array Value} {below : List Frame} {meth : Method} {c : Code} {D : va_G} {cy : Nat → ClassId} {ad : Nat → Nat} (C : Cx p s m args meth c b_MD_makeTree 4 none "BoostForestsModel" D cy ad) {Q : gM → Prop} {x1 : Int32} {x2 : Int32} {s0 : Int32} {s1 : Int32} {k2 : Int32 → Int32 → gM → Prop} {M : gM} {H : Heap} {locs : List Loc} {ls : Array Slot} (K2 : ∀ (x1 : Int32) (x2 : Int32) (M : gM) (H : Heap) (locs : List Loc) (ls : Array Slot), k2 x1 x2 M → gI D cy ad s M H locs → lv_has ls 4 [(0, .ref (ad 273)), (1, .int x1), (2, .int x2)] → W p l e rm_MD_makeTree s m args below meth c H locs 0 0 (MQ below (va_Qv Q (gB D cy ad) (gA ad s.heap.size)) args s 0 0 (gA ad s.heap.size)) (F0 m 2 ls [])) (h : wp_MD_makeTree_71 Q k2 x1 x2 s0 s1 M) (hI : gI D cy ad s M H locs) (hl : lv_has ls 4 [(0, .ref (ad 273)), (1, .int x1), (2, .int x2)]) : W p l e rm_MD_makeTree s m args below meth c H locs 0 0 (MQ below (va_Qv Q (gB D cy ad) (gA ad s.heap.size)) args s 0 0 (gA ad s.heap.size)) (F0 m 71 ls [.int s0, .int s1, .ref (ad 297)]) := by
  obtain ⟨hx, hb, hml, hown, hts, hr, hlk, hK, hja⟩ := id C
  obtain ⟨g5, h⟩ := h
  refine gw_iast C hI lay_297 (j := s1.toNatClampNeg) rfl g5 d_MD_makeTree_71 (fun H locs hI => ?_)
  refine lv_iinc (v := x2 + 1) (lv' := [(2, .int (x2 + 1)), (0, .ref (ad 273)), (1, .int x1)]) hx hb d_MD_makeTree_72 hl (k := 2) rfl rfl (by decide) rfl (fun ls hl => ?_)
  refine lv_goto (tgt := 2) hx hb d_MD_makeTree_75 (by decide) ?_
  exact K2 x1 (x2 + 1) (wi M (297) s1.toNatClampNeg s0) _ _ _ h hI (lv_sub hl [1, 2, 0] rfl)
set_option maxHeartbeats 4000000 in
set_option maxRecDepth 100000 in
theorem L_MD_makeTree_44 {p : Program} {l : Launch} {e : Env} {s : State} {m : MethodId} {args : Array Value} {below : List Frame} {meth : Method} {c : Code} {D : va_G} {cy : Nat → ClassId} {ad : Nat → Nat} (C : Cx p s m args meth c b_MD_makeTree 4 none "BoostForestsModel" D cy ad) {Q : gM → Prop} {x1 : Int32} {x2 : Int32} {s0 : Int32} {k2 : Int32 → Int32 → gM → Prop} {M : gM} {H : Heap} {locs : List Loc} {ls : Array Slot} (K2 : ∀ (x1 : Int32) (x2 : Int32) (M : gM) (H : Heap) (locs : List Loc) (ls : Array Slot), k2 x1 x2 M → gI D cy ad s M H locs → lv_has ls 4 [(0, .ref (ad 273)), (1, .int x1), (2, .int x2)] → W p l e rm_MD_makeTree s m args below meth c H locs 0 0 (MQ below (va_Qv Q (gB D cy ad) (gA ad s.heap.size)) args s 0 0 (gA ad s.heap.size)) (F0 m 2 ls [])) (h : wp_MD_makeTree_44 Q k2 x1 x2 s0 M) (hI : gI D cy ad s M H locs) (hl : lv_has ls 4 [(0, .ref (ad 273)), (1, .int x1), (2, .int x2)]) : W p l e rm_MD_makeTree s m args below meth c H locs 0 0 (MQ below (va_Qv Q (gB D cy ad) (gA ad s.heap.size)) args s 0 0 (gA ad s.heap.size)) (F0 m 44 ls [.int s0]) := by
  obtain ⟨hx, hb, hml, hown, hts, hr, hlk, hK, hja⟩ := id C
  refine lv_istore_n (lv' := [(3, .int s0), (0, .ref (ad 273)), (1, .int x1), (2, .int x2)]) hx hb d_MD_makeTree_44 rfl hl (by decide) rfl (fun ls hl => ?_)
  refine lv_aload_n hx hb d_MD_makeTree_45 rfl (lv_at hl 1 rfl) ?_
  refine gw_get (v := .ref (ad 286)) C hI lay_273 i_MD rfl 16 (by decide) kw_3_87 rfl rfl d_MD_makeTree_46 ?_
  refine lv_bipush (v := (40 : Int32)) hx hb d_MD_makeTree_49 (by decide) ?_
  refine lv_iload_n hx hb d_MD_makeTree_51 rfl (lv_at hl 2 rfl) ?_
  refine lv_imul hx hb d_MD_makeTree_52 ?_
  refine lv_iload_n hx hb d_MD_makeTree_53 rfl (lv_at hl 3 rfl) ?_
  refine lv_iadd hx hb d_MD_makeTree_54 ?_
  refine lv_iload_n hx hb d_MD_makeTree_55 rfl (lv_at hl 0 rfl) ?_
  obtain ⟨g6, h⟩ := h
  refine gw_zast C hI lay_286 (j := (((40 : Int32) * x1) + x2).toNatClampNeg) rfl g6 d_MD_makeTree_56 (fun H locs hI => ?_)
  refine lv_aload_n hx hb d_MD_makeTree_57 rfl (lv_at hl 1 rfl) ?_
  refine gw_get (v := .ref (ad 297)) C hI lay_273 i_MD rfl 27 (by decide) kw_3_98 rfl rfl d_MD_makeTree_58 ?_
  refine lv_iload_n hx hb d_MD_makeTree_61 rfl (lv_at hl 3 rfl) ?_
  refine lv_iload_n hx hb d_MD_makeTree_62 rfl (lv_at hl 0 rfl) ?_
  refine lv_if_eq (tgt := 70) hx hb d_MD_makeTree_63 (by decide) (fun c7 => ?_) (fun c7 => ?_)
  · have h := h.1 c7
    refine lv_iconst (v := (-1 : Int32)) hx hb d_MD_makeTree_70 (by decide) ?_
    exact L_MD_makeTree_71 C K2 h hI (lv_sub hl [1, 2, 3] rfl)
  · have h := h.2 c7
    refine lv_iconst (v := (0 : Int32)) hx hb d_MD_makeTree_66 (by decide) ?_
    refine lv_goto (tgt := 71) hx hb d_MD_makeTree_67 (by decide) ?_
    exact L_MD_makeTree_71 C K2 h hI (lv_sub hl [1, 2, 3] rfl)
set_option maxHeartbeats 4000000 in
set_option maxRecDepth 100000 in
theorem L_MD_makeTree_43 {p : Program} {l : Launch} {e : Env} {s : State} {m : MethodId} {args : Array Value} {below : List Frame} {meth : Method} {c : Code} {D : va_G} {cy : Nat → ClassId} {ad : Nat → Nat} (C : Cx p s m args meth c b_MD_makeTree 4 none "BoostForestsModel" D cy ad) {Q : gM → Prop} {x1 : Int32} {x2 : Int32} {k2 : Int32 → Int32 → gM → Prop} {M : gM} {H : Heap} {locs : List Loc} {ls : Array Slot} (K2 : ∀ (x1 : Int32) (x2 : Int32) (M : gM) (H : Heap) (locs : List Loc) (ls : Array Slot), k2 x1 x2 M → gI D cy ad s M H locs → lv_has ls 4 [(0, .ref (ad 273)), (1, .int x1), (2, .int x2)] → W p l e rm_MD_makeTree s m args below meth c H locs 0 0 (MQ below (va_Qv Q (gB D cy ad) (gA ad s.heap.size)) args s 0 0 (gA ad s.heap.size)) (F0 m 2 ls [])) (h : wp_MD_makeTree_43 Q k2 x1 x2 M) (hI : gI D cy ad s M H locs) (hl : lv_has ls 4 [(0, .ref (ad 273)), (1, .int x1), (2, .int x2)]) : W p l e rm_MD_makeTree s m args below meth c H locs 0 0 (MQ below (va_Qv Q (gB D cy ad) (gA ad s.heap.size)) args s 0 0 (gA ad s.heap.size)) (F0 m 43 ls []) := by
  obtain ⟨hx, hb, hml, hown, hts, hr, hlk, hK, hja⟩ := id C
  refine lv_iconst (v := (0 : Int32)) hx hb d_MD_makeTree_43 (by decide) ?_
  exact L_MD_makeTree_44 C K2 h hI (lv_sub hl [0, 1, 2] rfl)
set_option maxHeartbeats 4000000 in
set_option maxRecDepth 100000 in
theorem L_MD_makeTree_2 {p : Program} {l : Launch} {e : Env} {s : State} {m : MethodId} {args : Array Value} {below : List Frame} {meth : Method} {c : Code} {D : va_G} {cy : Nat → ClassId} {ad : Nat → Nat} (C : Cx p s m args meth c b_MD_makeTree 4 none "BoostForestsModel" D cy ad) {Q : gM → Prop} (n : Nat) : ∀ (x1 : Int32) (x2 : Int32) (M : gM) (H : Heap) (locs : List Loc) (ls : Array Slot), wp_MD_makeTree_2 Q n x1 x2 M → gI D cy ad s M H locs → lv_has ls 4 [(0, .ref (ad 273)), (1, .int x1), (2, .int x2)] → W p l e rm_MD_makeTree s m args below meth c H locs 0 0 (MQ below (va_Qv Q (gB D cy ad) (gA ad s.heap.size)) args s 0 0 (gA ad s.heap.size)) (F0 m 2 ls []) := by
  obtain ⟨hx, hb, hml, hown, hts, hr, hlk, hK, hja⟩ := id C
  induction n with
  | zero => exact fun _ _ _ _ _ _ h _ _ => h.elim
  | succ n ih =>
    intro x1 x2 M H locs ls h hI hl
    have h := h
    refine lv_iload_n hx hb d_MD_makeTree_2 rfl (lv_at hl 2 rfl) ?_
    refine lv_aload_n hx hb d_MD_makeTree_3 rfl (lv_at hl 0 rfl) ?_
    refine gw_get (v := .int (M.1 273 7)) C hI lay_273 i_MD rfl 7 (by decide) kw_3_78 rfl rfl d_MD_makeTree_4 ?_
    refine lv_icmp_ge (tgt := 78) hx hb d_MD_makeTree_7 (by decide) (fun c17 => ?_) (fun c17 => ?_)
    · have h := h.1 c17
      refine lv_aload_n hx hb d_MD_makeTree_78 rfl (lv_at hl 0 rfl) ?_
      refine gw_get (v := .ref (ad 287)) C hI lay_273 i_MD rfl 17 (by decide) kw_3_88 rfl rfl d_MD_makeTree_79 ?_
      refine lv_iload_n hx hb d_MD_makeTree_82 rfl (lv_at hl 1 rfl) ?_
      refine lv_iconst (v := (1 : Int32)) hx hb d_MD_makeTree_83 (by decide) ?_
      obtain ⟨g8, h⟩ := h
      refine gw_iast C hI lay_287 (j := x1.toNatClampNeg) rfl g8 d_MD_makeTree_84 (fun H locs hI => ?_)
      refine lv_aload_n hx hb d_MD_makeTree_85 rfl (lv_at hl 0 rfl) ?_
      refine lv_iload_n hx hb d_MD_makeTree_86 rfl (lv_at hl 1 rfl) ?_
      refine lv_iconst (v := (0 : Int32)) hx hb d_MD_makeTree_87 (by decide) ?_
      refine lv_iconst (v := (0 : Int32)) hx hb d_MD_makeTree_88 (by decide) ?_
      refine gw_Vv C hI hl.1 (As := [.int x1, .int (0 : Int32), .int (0 : Int32)]) (rest := []) (c_MD_layNode hja h) kV_MD_155 lay_273 rfl rfl ⟨rfl, rfl⟩ ⟨Nat.le_of_ble_eq_true rfl, Nat.le_of_ble_eq_true rfl⟩ rfl (Nat.le_of_ble_eq_true rfl) ⟨Nat.zero_le _, Nat.zero_le _⟩ d_MD_makeTree_89 (fun M10 H locs h hI => ?_)
      refine lv_iconst (v := (0 : Int32)) hx hb d_MD_makeTree_92 (by decide) ?_
      refine lv_istore_n (lv' := [(2, .int (0 : Int32)), (0, .ref (ad 273)), (1, .int x1)]) hx hb d_MD_makeTree_93 rfl hl (by decide) rfl (fun ls hl => ?_)
      obtain ⟨n11, h⟩ := h
      exact L_MD_makeTree_94 C n11 x1 (0 : Int32) M10 _ _ _ h hI (lv_sub hl [1, 2, 0] rfl)
    · have h := h.2 c17
      refine lv_aload_n hx hb d_MD_makeTree_10 rfl (lv_at hl 0 rfl) ?_
      refine gw_get (v := .ref (ad 282)) C hI lay_273 i_MD rfl 11 (by decide) kw_3_82 rfl rfl d_MD_makeTree_11 ?_
      refine lv_iload_n hx hb d_MD_makeTree_14 rfl (lv_at hl 2 rfl) ?_
      obtain ⟨g12, h⟩ := h
      refine gw_zald C hI lay_282 (j := x2.toNatClampNeg) rfl (v := M.1 282 x2.toNatClampNeg) rfl g12 d_MD_makeTree_15 ?_
      refine lv_if_ne (tgt := 43) hx hb d_MD_makeTree_16 (by decide) (fun c16 => ?_) (fun c16 => ?_)
      · have h := h.1 c16
        exact L_MD_makeTree_43 C ih h hI (lv_sub hl [0, 1, 2] rfl)
      · have h := h.2 c16
        refine lv_aload_n hx hb d_MD_makeTree_19 rfl (lv_at hl 0 rfl) ?_
        refine lv_bipush (v := (64 : Int32)) hx hb d_MD_makeTree_20 (by decide) ?_
        refine lv_iload_n hx hb d_MD_makeTree_22 rfl (lv_at hl 1 rfl) ?_
        refine lv_imul hx hb d_MD_makeTree_23 ?_
        refine lv_iload_n hx hb d_MD_makeTree_24 rfl (lv_at hl 2 rfl) ?_
        refine lv_iadd hx hb d_MD_makeTree_25 ?_
        refine gw_Vi C hI hl.1 (As := [.int (((64 : Int32) * x1) + x2)]) (rest := []) (c_MD_drawn hja h) kV_MD_151 lay_273 rfl rfl ⟨rfl, rfl⟩ ⟨Nat.le_of_ble_eq_true rfl, Nat.le_of_ble_eq_true rfl⟩ rfl (Nat.le_of_ble_eq_true rfl) ⟨Nat.zero_le _, Nat.zero_le _⟩ d_MD_makeTree_26 (fun r13 M14 H locs h hI => ?_)
        refine lv_aload_n hx hb d_MD_makeTree_29 rfl (lv_at hl 0 rfl) ?_
        refine gw_get (v := .ref (ad 283)) C hI lay_273 i_MD rfl 12 (by decide) kw_3_83 rfl rfl d_MD_makeTree_30 ?_
        refine lv_bipush (v := (6 : Int32)) hx hb d_MD_makeTree_33 (by decide) ?_
        refine gw_iald C hI lay_283 (j := 6) (by decide) (v := M14.1 283 6) rfl (vi_lit (6 : Int32) 15 (by decide)) d_MD_makeTree_35 ?_
        refine lv_icmp_ge (tgt := 43) hx hb d_MD_makeTree_36 (by decide) (fun c15 => ?_) (fun c15 => ?_)
        · have h := h.1 c15
          exact L_MD_makeTree_43 C ih h hI (lv_sub hl [0, 1, 2] rfl)
        · have h := h.2 c15
          refine lv_iconst (v := (1 : Int32)) hx hb d_MD_makeTree_39 (by decide) ?_
          refine lv_goto (tgt := 44) hx hb d_MD_makeTree_40 (by decide) ?_
          exact L_MD_makeTree_44 C ih h hI (lv_sub hl [0, 1, 2] rfl)
set_option maxHeartbeats 4000000 in
set_option maxRecDepth 100000 in
theorem c_MD_makeTree {l : Launch} {D : va_G} {cy : Nat → ClassId} {ad : Nat → Nat} (hj : gJ ad) {a1 : Int32} {M : gM} {Q : gM → Prop} (h : wp_MD_makeTree Q a1 M) : Cv l y_MD_makeTree b_MD_makeTree 4 none rm_MD_makeTree D cy ad [.ref (ad 273), .int a1] M Q := by
  refine gm (by decide +kernel) hj (Nat.le_of_ble_eq_true rfl) (fun p e s m args below meth c ls C hl hI => ?_)
  have hl : lv_has ls 4 [(0, .ref (ad 273)), (1, .int a1)] := hl
  obtain ⟨hx, hb, hml, hown, hts, hr, hlk, hK, hja⟩ := id C
  refine lv_iconst (v := (0 : Int32)) hx hb d_MD_makeTree_0 (by decide) ?_
  refine lv_istore_n (lv' := [(2, .int (0 : Int32)), (0, .ref (ad 273)), (1, .int a1)]) hx hb d_MD_makeTree_1 rfl hl (by decide) rfl (fun ls hl => ?_)
  obtain ⟨n18, h⟩ := h
  exact L_MD_makeTree_2 C n18 a1 (0 : Int32) M _ _ _ h hI (lv_sub hl [1, 2, 0] rfl)
set_option maxHeartbeats 4000000 in
set_option maxRecDepth 100000 in
theorem L_MD_leafOf_75 {p : Program} {l : Launch} {e : Env} {s : State} {m : MethodId} {args : Array Value} {below : List Frame} {meth : Method} {c : Code} {D : va_G} {cy : Nat → ClassId} {ad : Nat → Nat} (C : Cx p s m args meth c b_MD_leafOf 8 (some .int) "BoostForestsModel" D cy ad) {Q : Int32 → gM → Prop} {x1 : Int32} {x2 : Int32} {x3 : Int32} {x4 : Int32} {x5 : Int32} {s0 : Int32} {s1 : Int32} {k3 : Int32 → Int32 → Int32 → Int32 → Int32 → Int32 → gM → Prop} {M : gM} {H : Heap} {locs : List Loc} {ls : Array Slot} (K3 : ∀ (x1 : Int32) (x2 : Int32) (x3 : Int32) (x4 : Int32) (x5 : Int32) (x6 : Int32) (M : gM) (H : Heap) (locs : List Loc) (ls : Array Slot), k3 x1 x2 x3 x4 x5 x6 M → gI D cy ad s M H locs → lv_has ls 8 [(0, .ref (ad 273)), (1, .int x1), (2, .int x2), (3, .int x3), (4, .int x4), (5, .int x5), (6, .int x6)] → W p l e rm_MD_leafOf s m args below meth c H locs 0 0 (MQ below (va_Qi Q (gB D cy ad) (gA ad s.heap.size)) args s 0 0 (gA ad s.heap.size)) (F0 m 3 ls [])) (h : wp_MD_leafOf_75 Q k3 x1 x2 x3 x4 x5 s0 s1 M) (hI : gI D cy ad s M H locs) (hl : lv_has ls 8 [(0, .ref (ad 273)), (1, .int x1), (2, .int x2), (3, .int x3), (4, .int x4), (5, .int x5)]) : W p l e rm_MD_leafOf s m args below meth c H locs 0 0 (MQ below (va_Qi Q (gB D cy ad) (gA ad s.heap.size)) args s 0 0 (gA ad s.heap.size)) (F0 m 75 ls [.int s0, .int s1]) := by
  obtain ⟨hx, hb, hml, hown, hts, hr, hlk, hK, hja⟩ := id C
  refine lv_iadd hx hb d_MD_leafOf_75 ?_
  refine lv_istore (lv' := [(6, .int (s1 + s0)), (0, .ref (ad 273)), (1, .int x1), (2, .int x2), (3, .int x3), (4, .int x4), (5, .int x5)]) hx hb d_MD_leafOf_76 hl (by decide) rfl (fun ls hl => ?_)
  refine lv_goto (tgt := 3) hx hb d_MD_leafOf_78 (by decide) ?_
  exact K3 x1 x2 x3 x4 x5 (s1 + s0) M _ _ _ h hI (lv_sub hl [1, 2, 3, 4, 5, 6, 0] rfl)
set_option maxHeartbeats 4000000 in
set_option maxRecDepth 100000 in
theorem L_MD_leafOf_3 {p : Program} {l : Launch} {e : Env} {s : State} {m : MethodId} {args : Array Value} {below : List Frame} {meth : Method} {c : Code} {D : va_G} {cy : Nat → ClassId} {ad : Nat → Nat} (C : Cx p s m args meth c b_MD_leafOf 8 (some .int) "BoostForestsModel" D cy ad) {Q : Int32 → gM → Prop} (n : Nat) : ∀ (x1 : Int32) (x2 : Int32) (x3 : Int32) (x4 : Int32) (x5 : Int32) (x6 : Int32) (M : gM) (H : Heap) (locs : List Loc) (ls : Array Slot), wp_MD_leafOf_3 Q n x1 x2 x3 x4 x5 x6 M → gI D cy ad s M H locs → lv_has ls 8 [(0, .ref (ad 273)), (1, .int x1), (2, .int x2), (3, .int x3), (4, .int x4), (5, .int x5), (6, .int x6)] → W p l e rm_MD_leafOf s m args below meth c H locs 0 0 (MQ below (va_Qi Q (gB D cy ad) (gA ad s.heap.size)) args s 0 0 (gA ad s.heap.size)) (F0 m 3 ls []) := by
  obtain ⟨hx, hb, hml, hown, hts, hr, hlk, hK, hja⟩ := id C
  induction n with
  | zero => exact fun _ _ _ _ _ _ _ _ _ _ h _ _ => h.elim
  | succ n ih =>
    intro x1 x2 x3 x4 x5 x6 M H locs ls h hI hl
    have h := h
    refine lv_aload_n hx hb d_MD_leafOf_3 rfl (lv_at hl 0 rfl) ?_
    refine gw_get (v := .ref (ad 288)) C hI lay_273 i_MD rfl 18 (by decide) kw_3_89 rfl rfl d_MD_leafOf_4 ?_
    refine lv_bipush (v := (32 : Int32)) hx hb d_MD_leafOf_7 (by decide) ?_
    refine lv_iload_n hx hb d_MD_leafOf_9 rfl (lv_at hl 1 rfl) ?_
    refine lv_imul hx hb d_MD_leafOf_10 ?_
    refine lv_iload hx hb d_MD_leafOf_11 (lv_at hl 6 rfl) ?_
    refine lv_iadd hx hb d_MD_leafOf_13 ?_
    obtain ⟨g1, h⟩ := h
    refine gw_iald C hI lay_288 (j := (((32 : Int32) * x1) + x6).toNatClampNeg) rfl (v := M.1 288 ((((32 : Int32) * x1) + x6).toNatClampNeg)) rfl g1 d_MD_leafOf_14 ?_
    refine lv_if_lt (tgt := 81) hx hb d_MD_leafOf_15 (by decide) (fun c7 => ?_) (fun c7 => ?_)
    · have h := h.1 c7
      refine lv_iload hx hb d_MD_leafOf_81 (lv_at hl 6 rfl) ?_
      exact gr_i C hI h d_MD_leafOf_83
    · have h := h.2 c7
      refine lv_bipush (v := (32 : Int32)) hx hb d_MD_leafOf_18 (by decide) ?_
      refine lv_iload_n hx hb d_MD_leafOf_20 rfl (lv_at hl 1 rfl) ?_
      refine lv_imul hx hb d_MD_leafOf_21 ?_
      refine lv_iload hx hb d_MD_leafOf_22 (lv_at hl 6 rfl) ?_
      refine lv_iadd hx hb d_MD_leafOf_24 ?_
      refine lv_istore (lv' := [(7, .int (((32 : Int32) * x1) + x6)), (0, .ref (ad 273)), (1, .int x1), (2, .int x2), (3, .int x3), (4, .int x4), (5, .int x5), (6, .int x6)]) hx hb d_MD_leafOf_25 hl (by decide) rfl (fun ls hl => ?_)
      refine lv_aload_n hx hb d_MD_leafOf_27 rfl (lv_at hl 1 rfl) ?_
      refine gw_get (v := .ref (ad 291)) C hI lay_273 i_MD rfl 21 (by decide) kw_3_92 rfl rfl d_MD_leafOf_28 ?_
      refine lv_iload hx hb d_MD_leafOf_31 (lv_at hl 0 rfl) ?_
      refine gw_iald C hI lay_291 (j := (((32 : Int32) * x1) + x6).toNatClampNeg) rfl (v := M.1 291 ((((32 : Int32) * x1) + x6).toNatClampNeg)) rfl g1 d_MD_leafOf_33 ?_
      refine lv_aload_n hx hb d_MD_leafOf_34 rfl (lv_at hl 1 rfl) ?_
      refine gw_get (v := .ref (ad 288)) C hI lay_273 i_MD rfl 18 (by decide) kw_3_89 rfl rfl d_MD_leafOf_35 ?_
      refine lv_iload hx hb d_MD_leafOf_38 (lv_at hl 0 rfl) ?_
      refine gw_iald C hI lay_288 (j := (((32 : Int32) * x1) + x6).toNatClampNeg) rfl (v := M.1 288 ((((32 : Int32) * x1) + x6).toNatClampNeg)) rfl g1 d_MD_leafOf_40 ?_
      refine lv_iload_n hx hb d_MD_leafOf_41 rfl (lv_at hl 3 rfl) ?_
      refine lv_iload_n hx hb d_MD_leafOf_42 rfl (lv_at hl 4 rfl) ?_
      refine lv_iload hx hb d_MD_leafOf_43 (lv_at hl 5 rfl) ?_
      refine lv_iload hx hb d_MD_leafOf_45 (lv_at hl 6 rfl) ?_
      refine gw_Si C hI hl.1 (As := [.int (M.1 288 ((((32 : Int32) * x1) + x6).toNatClampNeg)), .int x2, .int x3, .int x4, .int x5]) (rest := [.int (M.1 291 ((((32 : Int32) * x1) + x6).toNatClampNeg))]) (c_MD_number hja h) kS_MD_99 rfl ⟨rfl, rfl⟩ ⟨Nat.le_of_ble_eq_true rfl, Nat.le_of_ble_eq_true rfl⟩ rfl (Nat.le_of_ble_eq_true rfl) ⟨Nat.zero_le _, Nat.zero_le _⟩ d_MD_leafOf_47 (fun r2 M3 H locs h hI => ?_)
      refine lv_aload_n hx hb d_MD_leafOf_50 rfl (lv_at hl 1 rfl) ?_
      refine gw_get (v := .ref (ad 289)) C hI lay_273 i_MD rfl 19 (by decide) kw_3_90 rfl rfl d_MD_leafOf_51 ?_
      refine lv_iload hx hb d_MD_leafOf_54 (lv_at hl 0 rfl) ?_
      refine gw_iald C hI lay_289 (j := (((32 : Int32) * x1) + x6).toNatClampNeg) rfl (v := M3.1 289 ((((32 : Int32) * x1) + x6).toNatClampNeg)) rfl g1 d_MD_leafOf_56 ?_
      refine lv_aload_n hx hb d_MD_leafOf_57 rfl (lv_at hl 1 rfl) ?_
      refine gw_get (v := .ref (ad 290)) C hI lay_273 i_MD rfl 20 (by decide) kw_3_91 rfl rfl d_MD_leafOf_58 ?_
      refine lv_iload hx hb d_MD_leafOf_61 (lv_at hl 0 rfl) ?_
      refine gw_iald C hI lay_290 (j := (((32 : Int32) * x1) + x6).toNatClampNeg) rfl (v := M3.1 290 ((((32 : Int32) * x1) + x6).toNatClampNeg)) rfl g1 d_MD_leafOf_63 ?_
      refine gw_Si C hI hl.1 (As := [.int r2, .int (M3.1 289 ((((32 : Int32) * x1) + x6).toNatClampNeg)), .int (M3.1 290 ((((32 : Int32) * x1) + x6).toNatClampNeg))]) (rest := [.int (M.1 291 ((((32 : Int32) * x1) + x6).toNatClampNeg))]) (c_MD_goesLeft hja h) kS_MD_147 rfl ⟨rfl, rfl⟩ ⟨Nat.le_of_ble_eq_true rfl, Nat.le_of_ble_eq_true rfl⟩ rfl (Nat.le_of_ble_eq_true rfl) ⟨Nat.zero_le _, Nat.zero_le _⟩ d_MD_leafOf_64 (fun r4 M5 H locs h hI => ?_)
      refine lv_if_eq (tgt := 74) hx hb d_MD_leafOf_67 (by decide) (fun c6 => ?_) (fun c6 => ?_)
      · have h := h.1 c6
        refine lv_iconst (v := (1 : Int32)) hx hb d_MD_leafOf_74 (by decide) ?_
        exact L_MD_leafOf_75 C ih h hI (lv_sub hl [1, 2, 3, 4, 5, 6] rfl)
      · have h := h.2 c6
        refine lv_iconst (v := (0 : Int32)) hx hb d_MD_leafOf_70 (by decide) ?_
        refine lv_goto (tgt := 75) hx hb d_MD_leafOf_71 (by decide) ?_
        exact L_MD_leafOf_75 C ih h hI (lv_sub hl [1, 2, 3, 4, 5, 6] rfl)
set_option maxHeartbeats 4000000 in
set_option maxRecDepth 100000 in
theorem c_MD_leafOf {l : Launch} {D : va_G} {cy : Nat → ClassId} {ad : Nat → Nat} (hj : gJ ad) {a1 : Int32} {a2 : Int32} {a3 : Int32} {a4 : Int32} {a5 : Int32} {M : gM} {Q : Int32 → gM → Prop} (h : wp_MD_leafOf Q a1 a2 a3 a4 a5 M) : Ci l y_MD_leafOf b_MD_leafOf 8 (some .int) rm_MD_leafOf D cy ad [.ref (ad 273), .int a1, .int a2, .int a3, .int a4, .int a5] M Q := by
  refine gm (by decide +kernel) hj (Nat.le_of_ble_eq_true rfl) (fun p e s m args below meth c ls C hl hI => ?_)
  have hl : lv_has ls 8 [(0, .ref (ad 273)), (1, .int a1), (2, .int a2), (3, .int a3), (4, .int a4), (5, .int a5)] := hl
  obtain ⟨hx, hb, hml, hown, hts, hr, hlk, hK, hja⟩ := id C
  refine lv_iconst (v := (0 : Int32)) hx hb d_MD_leafOf_0 (by decide) ?_
  refine lv_istore (lv' := [(6, .int (0 : Int32)), (0, .ref (ad 273)), (1, .int a1), (2, .int a2), (3, .int a3), (4, .int a4), (5, .int a5)]) hx hb d_MD_leafOf_1 hl (by decide) rfl (fun ls hl => ?_)
  obtain ⟨n8, h⟩ := h
  exact L_MD_leafOf_3 C n8 a1 a2 a3 a4 a5 (0 : Int32) M _ _ _ h hI (lv_sub hl [1, 2, 3, 4, 5, 6, 0] rfl)
set_option maxHeartbeats 4000000 in
set_option maxRecDepth 100000 in
theorem c_MD_addOf {l : Launch} {D : va_G} {cy : Nat → ClassId} {ad : Nat → Nat} (hj : gJ ad) {a1 : Int32} {a2 : Int32} {M : gM} {Q : Int64 → gM → Prop} (h : wp_MD_addOf Q a1 a2 M) : Cl l y_MD_addOf b_MD_addOf 4 (some .long) rm_MD_addOf D cy ad [.ref (ad 273), .int a1, .int a2] M Q := by
  refine gm (by decide +kernel) hj (Nat.le_of_ble_eq_true rfl) (fun p e s m args below meth c ls C hl hI => ?_)
  have hl : lv_has ls 4 [(0, .ref (ad 273)), (1, .int a1), (2, .int a2)] := hl
  obtain ⟨hx, hb, hml, hown, hts, hr, hlk, hK, hja⟩ := id C
  refine lv_bipush (v := (32 : Int32)) hx hb d_MD_addOf_0 (by decide) ?_
  refine lv_iload_n hx hb d_MD_addOf_2 rfl (lv_at hl 1 rfl) ?_
  refine lv_imul hx hb d_MD_addOf_3 ?_
  refine lv_iload_n hx hb d_MD_addOf_4 rfl (lv_at hl 2 rfl) ?_
  refine lv_iadd hx hb d_MD_addOf_5 ?_
  refine lv_istore_n (lv' := [(3, .int (((32 : Int32) * a1) + a2)), (0, .ref (ad 273)), (1, .int a1), (2, .int a2)]) hx hb d_MD_addOf_6 rfl hl (by decide) rfl (fun ls hl => ?_)
  refine lv_aload_n hx hb d_MD_addOf_7 rfl (lv_at hl 1 rfl) ?_
  refine lv_aload_n hx hb d_MD_addOf_8 rfl (lv_at hl 1 rfl) ?_
  refine gw_get (v := .ref (ad 295)) C hI lay_273 i_MD rfl 25 (by decide) kw_3_96 rfl rfl d_MD_addOf_9 ?_
  refine lv_iload_n hx hb d_MD_addOf_12 rfl (lv_at hl 0 rfl) ?_
  obtain ⟨g1, h⟩ := h
  refine gw_lald C hI lay_295 (j := (((32 : Int32) * a1) + a2).toNatClampNeg) rfl (v := M.2 295 ((((32 : Int32) * a1) + a2).toNatClampNeg)) rfl g1 d_MD_addOf_13 ?_
  refine lv_aload_n hx hb d_MD_addOf_14 rfl (lv_at hl 1 rfl) ?_
  refine gw_get (v := .ref (ad 293)) C hI lay_273 i_MD rfl 23 (by decide) kw_3_94 rfl rfl d_MD_addOf_15 ?_
  refine lv_iload_n hx hb d_MD_addOf_18 rfl (lv_at hl 0 rfl) ?_
  refine gw_iald C hI lay_293 (j := (((32 : Int32) * a1) + a2).toNatClampNeg) rfl (v := M.1 293 ((((32 : Int32) * a1) + a2).toNatClampNeg)) rfl g1 d_MD_addOf_19 ?_
  refine gw_Vl C hI hl.1 (As := [.long (M.2 295 ((((32 : Int32) * a1) + a2).toNatClampNeg)), .int (M.1 293 ((((32 : Int32) * a1) + a2).toNatClampNeg))]) (rest := []) (c_MD_valueOf hja h) kV_MD_177 lay_273 rfl rfl ⟨rfl, rfl⟩ ⟨Nat.le_of_ble_eq_true rfl, Nat.le_of_ble_eq_true rfl⟩ rfl (Nat.le_of_ble_eq_true rfl) ⟨Nat.zero_le _, Nat.zero_le _⟩ d_MD_addOf_20 (fun r2 M3 H locs h hI => ?_)
  refine lv_aload_n hx hb d_MD_addOf_23 rfl (lv_at hl 1 rfl) ?_
  refine gw_get (v := .ref (ad 283)) C hI lay_273 i_MD rfl 12 (by decide) kw_3_83 rfl rfl d_MD_addOf_24 ?_
  refine lv_iconst (v := (3 : Int32)) hx hb d_MD_addOf_27 (by decide) ?_
  refine gw_iald C hI lay_283 (j := 3) (by decide) (v := M3.1 283 3) rfl (vi_lit (3 : Int32) 15 (by decide)) d_MD_addOf_28 ?_
  refine lv_i2l hx hb d_MD_addOf_29 rfl ?_
  refine lv_lmul hx hb d_MD_addOf_30 ?_
  refine lv_ldc2 hx hb hown (hts _ kw_3_201) d_MD_addOf_31 ?_
  refine lv_ldiv hx hb d_MD_addOf_34 (by decide) ?_
  exact gr_l C hI h d_MD_addOf_35
set_option maxHeartbeats 4000000 in
set_option maxRecDepth 100000 in
theorem L_MD_train_457 {p : Program} {l : Launch} {e : Env} {s : State} {m : MethodId} {args : Array Value} {below : List Frame} {meth : Method} {c : Code} {D : va_G} {cy : Nat → ClassId} {ad : Nat → Nat} (C : Cx p s m args meth c b_MD_train 8 (some .int) "BoostForestsModel" D cy ad) {Q : Int32 → gM → Prop} {M : gM} {H : Heap} {locs : List Loc} {ls : Array Slot} (h : wp_MD_train_457 Q M) (hI : gI D cy ad s M H locs) (hl : lv_has ls 8 [(0, .ref (ad 273))]) : W p l e rm_MD_train s m args below meth c H locs 0 0 (MQ below (va_Qi Q (gB D cy ad) (gA ad s.heap.size)) args s 0 0 (gA ad s.heap.size)) (F0 m 457 ls []) := by
  obtain ⟨hx, hb, hml, hown, hts, hr, hlk, hK, hja⟩ := id C
  refine lv_aload_n hx hb d_MD_train_457 rfl (lv_at hl 0 rfl) ?_
  refine gw_get (v := .int (M.1 273 14)) C hI lay_273 i_MD rfl 14 (by decide) kw_3_85 rfl rfl d_MD_train_458 ?_
  exact gr_i C hI h d_MD_train_461
set_option maxHeartbeats 4000000 in
set_option maxRecDepth 100000 in
theorem L_MD_train_452 {p : Program} {l : Launch} {e : Env} {s : State} {m : MethodId} {args : Array Value} {below : List Frame} {meth : Method} {c : Code} {D : va_G} {cy : Nat → ClassId} {ad : Nat → Nat} (C : Cx p s m args meth c b_MD_train 8 (some .int) "BoostForestsModel" D cy ad) {Q : Int32 → gM → Prop} {x2 : Int32} {x3 : Int64} {x5 : Int32} {s0 : Int32} {k234 : Int32 → Int64 → Int32 → Int32 → gM → Prop} {M : gM} {H : Heap} {locs : List Loc} {ls : Array Slot} (K234 : ∀ (x2 : Int32) (x3 : Int64) (x5 : Int32) (x6 : Int32) (M : gM) (H : Heap) (locs : List Loc) (ls : Array Slot), k234 x2 x3 x5 x6 M → gI D cy ad s M H locs → lv_has ls 8 [(0, .ref (ad 273)), (2, .int x2), (3, .long x3), (5, .int x5), (6, .int x6)] → W p l e rm_MD_train s m args below meth c H locs 0 0 (MQ below (va_Qi Q (gB D cy ad) (gA ad s.heap.size)) args s 0 0 (gA ad s.heap.size)) (F0 m 234 ls [])) (h : wp_MD_train_452 Q k234 x2 x3 x5 s0 M) (hI : gI D cy ad s M H locs) (hl : lv_has ls 8 [(0, .ref (ad 273)), (2, .int x2), (3, .long x3), (5, .int x5)]) : W p l e rm_MD_train s m args below meth c H locs 0 0 (MQ below (va_Qi Q (gB D cy ad) (gA ad s.heap.size)) args s 0 0 (gA ad s.heap.size)) (F0 m 452 ls [.int s0]) := by
  obtain ⟨hx, hb, hml, hown, hts, hr, hlk, hK, hja⟩ := id C
  refine lv_istore (lv' := [(6, .int s0), (0, .ref (ad 273)), (2, .int x2), (3, .long x3), (5, .int x5)]) hx hb d_MD_train_452 hl (by decide) rfl (fun ls hl => ?_)
  refine lv_goto (tgt := 234) hx hb d_MD_train_454 (by decide) ?_
  exact K234 x2 x3 x5 s0 M _ _ _ h hI (lv_sub hl [1, 2, 3, 4, 0] rfl)
set_option maxHeartbeats 4000000 in
set_option maxRecDepth 100000 in
theorem L_MD_train_451 {p : Program} {l : Launch} {e : Env} {s : State} {m : MethodId} {args : Array Value} {below : List Frame} {meth : Method} {c : Code} {D : va_G} {cy : Nat → ClassId} {ad : Nat → Nat} (C : Cx p s m args meth c b_MD_train 8 (some .int) "BoostForestsModel" D cy ad) {Q : Int32 → gM → Prop} {x2 : Int32} {x3 : Int64} {x5 : Int32} {k234 : Int32 → Int64 → Int32 → Int32 → gM → Prop} {M : gM} {H : Heap} {locs : List Loc} {ls : Array Slot} (K234 : ∀ (x2 : Int32) (x3 : Int64) (x5 : Int32) (x6 : Int32) (M : gM) (H : Heap) (locs : List Loc) (ls : Array Slot), k234 x2 x3 x5 x6 M → gI D cy ad s M H locs → lv_has ls 8 [(0, .ref (ad 273)), (2, .int x2), (3, .long x3), (5, .int x5), (6, .int x6)] → W p l e rm_MD_train s m args below meth c H locs 0 0 (MQ below (va_Qi Q (gB D cy ad) (gA ad s.heap.size)) args s 0 0 (gA ad s.heap.size)) (F0 m 234 ls [])) (h : wp_MD_train_451 Q k234 x2 x3 x5 M) (hI : gI D cy ad s M H locs) (hl : lv_has ls 8 [(0, .ref (ad 273)), (2, .int x2), (3, .long x3), (5, .int x5)]) : W p l e rm_MD_train s m args below meth c H locs 0 0 (MQ below (va_Qi Q (gB D cy ad) (gA ad s.heap.size)) args s 0 0 (gA ad s.heap.size)) (F0 m 451 ls []) := by
  obtain ⟨hx, hb, hml, hown, hts, hr, hlk, hK, hja⟩ := id C
  refine lv_iconst (v := (0 : Int32)) hx hb d_MD_train_451 (by decide) ?_
  exact L_MD_train_452 C K234 h hI (lv_sub hl [0, 1, 2, 3] rfl)
set_option maxHeartbeats 4000000 in
set_option maxRecDepth 100000 in
theorem L_MD_train_419 {p : Program} {l : Launch} {e : Env} {s : State} {m : MethodId} {args : Array Value} {below : List Frame} {meth : Method} {c : Code} {D : va_G} {cy : Nat → ClassId} {ad : Nat → Nat} (C : Cx p s m args meth c b_MD_train 8 (some .int) "BoostForestsModel" D cy ad) {Q : Int32 → gM → Prop} {x2 : Int32} {x3 : Int64} {s0 : Int32} {k234 : Int32 → Int64 → Int32 → Int32 → gM → Prop} {M : gM} {H : Heap} {locs : List Loc} {ls : Array Slot} (K234 : ∀ (x2 : Int32) (x3 : Int64) (x5 : Int32) (x6 : Int32) (M : gM) (H : Heap) (locs : List Loc) (ls : Array Slot), k234 x2 x3 x5 x6 M → gI D cy ad s M H locs → lv_has ls 8 [(0, .ref (ad 273)), (2, .int x2), (3, .long x3), (5, .int x5), (6, .int x6)] → W p l e rm_MD_train s m args below meth c H locs 0 0 (MQ below (va_Qi Q (gB D cy ad) (gA ad s.heap.size)) args s 0 0 (gA ad s.heap.size)) (F0 m 234 ls [])) (h : wp_MD_train_419 Q k234 x2 x3 s0 M) (hI : gI D cy ad s M H locs) (hl : lv_has ls 8 [(0, .ref (ad 273)), (2, .int x2), (3, .long x3)]) : W p l e rm_MD_train s m args below meth c H locs 0 0 (MQ below (va_Qi Q (gB D cy ad) (gA ad s.heap.size)) args s 0 0 (gA ad s.heap.size)) (F0 m 419 ls [.int s0]) := by
  obtain ⟨hx, hb, hml, hown, hts, hr, hlk, hK, hja⟩ := id C
  refine lv_istore (lv' := [(5, .int s0), (0, .ref (ad 273)), (2, .int x2), (3, .long x3)]) hx hb d_MD_train_419 hl (by decide) rfl (fun ls hl => ?_)
  refine lv_aload_n hx hb d_MD_train_421 rfl (lv_at hl 1 rfl) ?_
  refine gw_get (v := .ref (ad 283)) C hI lay_273 i_MD rfl 12 (by decide) kw_3_83 rfl rfl d_MD_train_422 ?_
  refine lv_bipush (v := (8 : Int32)) hx hb d_MD_train_425 (by decide) ?_
  refine gw_iald C hI lay_283 (j := 8) (by decide) (v := M.1 283 8) rfl (vi_lit (8 : Int32) 15 (by decide)) d_MD_train_427 ?_
  refine lv_if_le (tgt := 451) hx hb d_MD_train_428 (by decide) (fun c3 => ?_) (fun c3 => ?_)
  · have h := h.1 c3
    exact L_MD_train_451 C K234 h hI (lv_sub hl [1, 2, 3, 0] rfl)
  · have h := h.2 c3
    refine lv_iload_n hx hb d_MD_train_431 rfl (lv_at hl 2 rfl) ?_
    refine lv_if_eq (tgt := 451) hx hb d_MD_train_432 (by decide) (fun c2 => ?_) (fun c2 => ?_)
    · have h := h.1 c2
      exact L_MD_train_451 C K234 h hI (lv_sub hl [1, 2, 3, 0] rfl)
    · have h := h.2 c2
      refine lv_iload hx hb d_MD_train_435 (lv_at hl 0 rfl) ?_
      refine lv_aload_n hx hb d_MD_train_437 rfl (lv_at hl 1 rfl) ?_
      refine gw_get (v := .ref (ad 283)) C hI lay_273 i_MD rfl 12 (by decide) kw_3_83 rfl rfl d_MD_train_438 ?_
      refine lv_bipush (v := (8 : Int32)) hx hb d_MD_train_441 (by decide) ?_
      refine gw_iald C hI lay_283 (j := 8) (by decide) (v := M.1 283 8) rfl (vi_lit (8 : Int32) 15 (by decide)) d_MD_train_443 ?_
      refine lv_icmp_lt (tgt := 451) hx hb d_MD_train_444 (by decide) (fun c1 => ?_) (fun c1 => ?_)
      · have h := h.1 c1
        exact L_MD_train_451 C K234 h hI (lv_sub hl [1, 2, 3, 0] rfl)
      · have h := h.2 c1
        refine lv_iconst (v := (1 : Int32)) hx hb d_MD_train_447 (by decide) ?_
        refine lv_goto (tgt := 452) hx hb d_MD_train_448 (by decide) ?_
        exact L_MD_train_452 C K234 h hI (lv_sub hl [1, 2, 3, 0] rfl)
set_option maxHeartbeats 4000000 in
set_option maxRecDepth 100000 in
theorem L_MD_train_405 {p : Program} {l : Launch} {e : Env} {s : State} {m : MethodId} {args : Array Value} {below : List Frame} {meth : Method} {c : Code} {D : va_G} {cy : Nat → ClassId} {ad : Nat → Nat} (C : Cx p s m args meth c b_MD_train 8 (some .int) "BoostForestsModel" D cy ad) {Q : Int32 → gM → Prop} {x2 : Int32} {x5 : Int32} {x7 : Int32} {s0 : Int64} {k234 : Int32 → Int64 → Int32 → Int32 → gM → Prop} {M : gM} {H : Heap} {locs : List Loc} {ls : Array Slot} (K234 : ∀ (x2 : Int32) (x3 : Int64) (x5 : Int32) (x6 : Int32) (M : gM) (H : Heap) (locs : List Loc) (ls : Array Slot), k234 x2 x3 x5 x6 M → gI D cy ad s M H locs → lv_has ls 8 [(0, .ref (ad 273)), (2, .int x2), (3, .long x3), (5, .int x5), (6, .int x6)] → W p l e rm_MD_train s m args below meth c H locs 0 0 (MQ below (va_Qi Q (gB D cy ad) (gA ad s.heap.size)) args s 0 0 (gA ad s.heap.size)) (F0 m 234 ls [])) (h : wp_MD_train_405 Q k234 x2 x5 x7 s0 M) (hI : gI D cy ad s M H locs) (hl : lv_has ls 8 [(0, .ref (ad 273)), (2, .int x2), (5, .int x5), (7, .int x7)]) : W p l e rm_MD_train s m args below meth c H locs 0 0 (MQ below (va_Qi Q (gB D cy ad) (gA ad s.heap.size)) args s 0 0 (gA ad s.heap.size)) (F0 m 405 ls [.long s0]) := by
  obtain ⟨hx, hb, hml, hown, hts, hr, hlk, hK, hja⟩ := id C
  refine lv_lstore_n (lv' := [(3, .long s0), (0, .ref (ad 273)), (2, .int x2), (5, .int x5), (7, .int x7)]) hx hb d_MD_train_405 rfl hl (by decide) rfl (fun ls hl => ?_)
  refine lv_iload hx hb d_MD_train_406 (lv_at hl 4 rfl) ?_
  refine lv_if_eq (tgt := 415) hx hb d_MD_train_408 (by decide) (fun c4 => ?_) (fun c4 => ?_)
  · have h := h.1 c4
    refine lv_iload hx hb d_MD_train_415 (lv_at hl 3 rfl) ?_
    refine lv_iconst (v := (1 : Int32)) hx hb d_MD_train_417 (by decide) ?_
    refine lv_iadd hx hb d_MD_train_418 ?_
    exact L_MD_train_419 C K234 h hI (lv_sub hl [1, 2, 0] rfl)
  · have h := h.2 c4
    refine lv_iconst (v := (0 : Int32)) hx hb d_MD_train_411 (by decide) ?_
    refine lv_goto (tgt := 419) hx hb d_MD_train_412 (by decide) ?_
    exact L_MD_train_419 C K234 h hI (lv_sub hl [1, 2, 0] rfl)
set_option maxHeartbeats 4000000 in
set_option maxRecDepth 100000 in
theorem L_MD_train_382 {p : Program} {l : Launch} {e : Env} {s : State} {m : MethodId} {args : Array Value} {below : List Frame} {meth : Method} {c : Code} {D : va_G} {cy : Nat → ClassId} {ad : Nat → Nat} (C : Cx p s m args meth c b_MD_train 8 (some .int) "BoostForestsModel" D cy ad) {Q : Int32 → gM → Prop} {x2 : Int32} {x3 : Int64} {x5 : Int32} {s0 : Int32} {k234 : Int32 → Int64 → Int32 → Int32 → gM → Prop} {M : gM} {H : Heap} {locs : List Loc} {ls : Array Slot} (K234 : ∀ (x2 : Int32) (x3 : Int64) (x5 : Int32) (x6 : Int32) (M : gM) (H : Heap) (locs : List Loc) (ls : Array Slot), k234 x2 x3 x5 x6 M → gI D cy ad s M H locs → lv_has ls 8 [(0, .ref (ad 273)), (2, .int x2), (3, .long x3), (5, .int x5), (6, .int x6)] → W p l e rm_MD_train s m args below meth c H locs 0 0 (MQ below (va_Qi Q (gB D cy ad) (gA ad s.heap.size)) args s 0 0 (gA ad s.heap.size)) (F0 m 234 ls [])) (h : wp_MD_train_382 Q k234 x2 x3 x5 s0 M) (hI : gI D cy ad s M H locs) (hl : lv_has ls 8 [(0, .ref (ad 273)), (2, .int x2), (3, .long x3), (5, .int x5)]) : W p l e rm_MD_train s m args below meth c H locs 0 0 (MQ below (va_Qi Q (gB D cy ad) (gA ad s.heap.size)) args s 0 0 (gA ad s.heap.size)) (F0 m 382 ls [.int s0]) := by
  obtain ⟨hx, hb, hml, hown, hts, hr, hlk, hK, hja⟩ := id C
  refine lv_istore (lv' := [(7, .int s0), (0, .ref (ad 273)), (2, .int x2), (3, .long x3), (5, .int x5)]) hx hb d_MD_train_382 hl (by decide) rfl (fun ls hl => ?_)
  refine lv_iload hx hb d_MD_train_384 (lv_at hl 0 rfl) ?_
  refine lv_if_eq (tgt := 404) hx hb d_MD_train_386 (by decide) (fun c6 => ?_) (fun c6 => ?_)
  · have h := h.1 c6
    refine lv_lload_n hx hb d_MD_train_404 rfl (lv_at hl 3 rfl) ?_
    exact L_MD_train_405 C K234 h hI (lv_sub hl [1, 2, 4, 0] rfl)
  · have h := h.2 c6
    refine lv_aload_n hx hb d_MD_train_389 rfl (lv_at hl 1 rfl) ?_
    refine gw_get (v := .ref (ad 285)) C hI lay_273 i_MD rfl 15 (by decide) kw_3_86 rfl rfl d_MD_train_390 ?_
    refine lv_bipush (v := (13 : Int32)) hx hb d_MD_train_393 (by decide) ?_
    refine lv_aload_n hx hb d_MD_train_395 rfl (lv_at hl 1 rfl) ?_
    refine gw_get (v := .int (M.1 273 14)) C hI lay_273 i_MD rfl 14 (by decide) kw_3_85 rfl rfl d_MD_train_396 ?_
    refine lv_iadd hx hb d_MD_train_399 ?_
    obtain ⟨g5, h⟩ := h
    refine gw_lald C hI lay_285 (j := ((13 : Int32) + (M.1 273 14)).toNatClampNeg) rfl (v := M.2 285 (((13 : Int32) + (M.1 273 14)).toNatClampNeg)) rfl g5 d_MD_train_400 ?_
    refine lv_goto (tgt := 405) hx hb d_MD_train_401 (by decide) ?_
    exact L_MD_train_405 C K234 h hI (lv_sub hl [1, 2, 4, 0] rfl)
set_option maxHeartbeats 4000000 in
set_option maxRecDepth 100000 in
theorem L_MD_train_263 {p : Program} {l : Launch} {e : Env} {s : State} {m : MethodId} {args : Array Value} {below : List Frame} {meth : Method} {c : Code} {D : va_G} {cy : Nat → ClassId} {ad : Nat → Nat} (C : Cx p s m args meth c b_MD_train 8 (some .int) "BoostForestsModel" D cy ad) {Q : Int32 → gM → Prop} {k234 : Int32 → Int64 → Int32 → Int32 → gM → Prop} (K234 : ∀ (x2 : Int32) (x3 : Int64) (x5 : Int32) (x6 : Int32) (M : gM) (H : Heap) (locs : List Loc) (ls : Array Slot), k234 x2 x3 x5 x6 M → gI D cy ad s M H locs → lv_has ls 8 [(0, .ref (ad 273)), (2, .int x2), (3, .long x3), (5, .int x5), (6, .int x6)] → W p l e rm_MD_train s m args below meth c H locs 0 0 (MQ below (va_Qi Q (gB D cy ad) (gA ad s.heap.size)) args s 0 0 (gA ad s.heap.size)) (F0 m 234 ls [])) (n : Nat) : ∀ (x2 : Int32) (x3 : Int64) (x5 : Int32) (x7 : Int32) (M : gM) (H : Heap) (locs : List Loc) (ls : Array Slot), wp_MD_train_263 Q k234 n x2 x3 x5 x7 M → gI D cy ad s M H locs → lv_has ls 8 [(0, .ref (ad 273)), (2, .int x2), (3, .long x3), (5, .int x5), (7, .int x7)] → W p l e rm_MD_train s m args below meth c H locs 0 0 (MQ below (va_Qi Q (gB D cy ad) (gA ad s.heap.size)) args s 0 0 (gA ad s.heap.size)) (F0 m 263 ls []) := by
  obtain ⟨hx, hb, hml, hown, hts, hr, hlk, hK, hja⟩ := id C
  induction n with
  | zero => exact fun _ _ _ _ _ _ _ _ h _ _ => h.elim
  | succ n ih =>
    intro x2 x3 x5 x7 M H locs ls h hI hl
    have h := h
    refine lv_iload hx hb d_MD_train_263 (lv_at hl 4 rfl) ?_
    refine lv_aload_n hx hb d_MD_train_265 rfl (lv_at hl 0 rfl) ?_
    refine gw_get (v := .int (M.1 273 7)) C hI lay_273 i_MD rfl 7 (by decide) kw_3_78 rfl rfl d_MD_train_266 ?_
    refine lv_icmp_ge (tgt := 346) hx hb d_MD_train_269 (by decide) (fun c20 => ?_) (fun c20 => ?_)
    · have h := h.1 c20
      refine lv_aload_n hx hb d_MD_train_346 rfl (lv_at hl 0 rfl) ?_
      refine lv_dup hx hb d_MD_train_347 rfl ?_
      refine gw_get (v := .int (M.1 273 14)) C hI lay_273 i_MD rfl 14 (by decide) kw_3_85 rfl rfl d_MD_train_348 ?_
      refine lv_iconst (v := (1 : Int32)) hx hb d_MD_train_351 (by decide) ?_
      refine lv_iadd hx hb d_MD_train_352 ?_
      refine gw_puti C hI lay_273 i_MD rfl t_MD_ok n_MD 14 (by decide) kw_3_85 rfl rfl rfl rfl rfl d_MD_train_353 (fun H locs hI => ?_)
      refine lv_aload_n hx hb d_MD_train_356 rfl (lv_at hl 0 rfl) ?_
      refine gw_Vv C hI hl.1 (As := []) (rest := []) (c_MD_keepLosses hja h) kV_MD_123 lay_273 rfl rfl ⟨rfl, rfl⟩ ⟨Nat.le_of_ble_eq_true rfl, Nat.le_of_ble_eq_true rfl⟩ rfl (Nat.le_of_ble_eq_true rfl) ⟨Nat.zero_le _, Nat.zero_le _⟩ d_MD_train_357 (fun M8 H locs h hI => ?_)
      refine lv_aload_n hx hb d_MD_train_360 rfl (lv_at hl 0 rfl) ?_
      refine gw_get (v := .ref (ad 285)) C hI lay_273 i_MD rfl 15 (by decide) kw_3_86 rfl rfl d_MD_train_361 ?_
      refine lv_bipush (v := (13 : Int32)) hx hb d_MD_train_364 (by decide) ?_
      refine lv_aload_n hx hb d_MD_train_366 rfl (lv_at hl 0 rfl) ?_
      refine gw_get (v := .int (M8.1 273 14)) C hI lay_273 i_MD rfl 14 (by decide) kw_3_85 rfl rfl d_MD_train_367 ?_
      refine lv_iadd hx hb d_MD_train_370 ?_
      obtain ⟨g9, h⟩ := h
      refine gw_lald C hI lay_285 (j := ((13 : Int32) + (M8.1 273 14)).toNatClampNeg) rfl (v := M8.2 285 (((13 : Int32) + (M8.1 273 14)).toNatClampNeg)) rfl g9 d_MD_train_371 ?_
      refine lv_lload_n hx hb d_MD_train_372 rfl (lv_at hl 2 rfl) ?_
      refine gl_ge (tgt := 381) C d_MD_train_373 d_MD_train_374 (by decide) (fun c10 => ?_) (fun c10 => ?_)
      · have h := h.1 c10
        refine lv_iconst (v := (0 : Int32)) hx hb d_MD_train_381 (by decide) ?_
        exact L_MD_train_382 C K234 h hI (lv_sub hl [0, 1, 2, 3] rfl)
      · have h := h.2 c10
        refine lv_iconst (v := (1 : Int32)) hx hb d_MD_train_377 (by decide) ?_
        refine lv_goto (tgt := 382) hx hb d_MD_train_378 (by decide) ?_
        exact L_MD_train_382 C K234 h hI (lv_sub hl [0, 1, 2, 3] rfl)
    · have h := h.2 c20
      refine lv_aload_n hx hb d_MD_train_272 rfl (lv_at hl 0 rfl) ?_
      refine gw_get (v := .ref (ad 284)) C hI lay_273 i_MD rfl 13 (by decide) kw_3_84 rfl rfl d_MD_train_273 ?_
      refine lv_iload hx hb d_MD_train_276 (lv_at hl 4 rfl) ?_
      refine lv_dup2_11 hx hb d_MD_train_278 rfl rfl ?_
      obtain ⟨g11, h⟩ := h
      refine gw_lald C hI lay_284 (j := x7.toNatClampNeg) rfl (v := M.2 284 x7.toNatClampNeg) rfl g11 d_MD_train_279 ?_
      refine lv_aload_n hx hb d_MD_train_280 rfl (lv_at hl 0 rfl) ?_
      refine lv_aload_n hx hb d_MD_train_281 rfl (lv_at hl 0 rfl) ?_
      refine gw_get (v := .int (M.1 273 14)) C hI lay_273 i_MD rfl 14 (by decide) kw_3_85 rfl rfl d_MD_train_282 ?_
      refine lv_aload_n hx hb d_MD_train_285 rfl (lv_at hl 0 rfl) ?_
      refine lv_aload_n hx hb d_MD_train_286 rfl (lv_at hl 0 rfl) ?_
      refine gw_get (v := .int (M.1 273 14)) C hI lay_273 i_MD rfl 14 (by decide) kw_3_85 rfl rfl d_MD_train_287 ?_
      refine lv_aload_n hx hb d_MD_train_290 rfl (lv_at hl 0 rfl) ?_
      refine gw_get (v := .ref (ad 279)) C hI lay_273 i_MD rfl 8 (by decide) kw_3_79 rfl rfl d_MD_train_291 ?_
      refine lv_iconst (v := (4 : Int32)) hx hb d_MD_train_294 (by decide) ?_
      refine lv_iload hx hb d_MD_train_295 (lv_at hl 4 rfl) ?_
      refine lv_imul hx hb d_MD_train_297 ?_
      obtain ⟨g12, h⟩ := h
      refine gw_iald C hI lay_279 (j := ((4 : Int32) * x7).toNatClampNeg) rfl (v := M.1 279 (((4 : Int32) * x7).toNatClampNeg)) rfl g12 d_MD_train_298 ?_
      refine lv_aload_n hx hb d_MD_train_299 rfl (lv_at hl 0 rfl) ?_
      refine gw_get (v := .ref (ad 279)) C hI lay_273 i_MD rfl 8 (by decide) kw_3_79 rfl rfl d_MD_train_300 ?_
      refine lv_iconst (v := (4 : Int32)) hx hb d_MD_train_303 (by decide) ?_
      refine lv_iload hx hb d_MD_train_304 (lv_at hl 4 rfl) ?_
      refine lv_imul hx hb d_MD_train_306 ?_
      refine lv_iconst (v := (1 : Int32)) hx hb d_MD_train_307 (by decide) ?_
      refine lv_iadd hx hb d_MD_train_308 ?_
      obtain ⟨g13, h⟩ := h
      refine gw_iald C hI lay_279 (j := (((4 : Int32) * x7) + (1 : Int32)).toNatClampNeg) rfl (v := M.1 279 ((((4 : Int32) * x7) + (1 : Int32)).toNatClampNeg)) rfl g13 d_MD_train_309 ?_
      refine lv_aload_n hx hb d_MD_train_310 rfl (lv_at hl 0 rfl) ?_
      refine gw_get (v := .ref (ad 279)) C hI lay_273 i_MD rfl 8 (by decide) kw_3_79 rfl rfl d_MD_train_311 ?_
      refine lv_iconst (v := (4 : Int32)) hx hb d_MD_train_314 (by decide) ?_
      refine lv_iload hx hb d_MD_train_315 (lv_at hl 4 rfl) ?_
      refine lv_imul hx hb d_MD_train_317 ?_
      refine lv_iconst (v := (2 : Int32)) hx hb d_MD_train_318 (by decide) ?_
      refine lv_iadd hx hb d_MD_train_319 ?_
      obtain ⟨g14, h⟩ := h
      refine gw_iald C hI lay_279 (j := (((4 : Int32) * x7) + (2 : Int32)).toNatClampNeg) rfl (v := M.1 279 ((((4 : Int32) * x7) + (2 : Int32)).toNatClampNeg)) rfl g14 d_MD_train_320 ?_
      refine lv_aload_n hx hb d_MD_train_321 rfl (lv_at hl 0 rfl) ?_
      refine gw_get (v := .ref (ad 279)) C hI lay_273 i_MD rfl 8 (by decide) kw_3_79 rfl rfl d_MD_train_322 ?_
      refine lv_iconst (v := (4 : Int32)) hx hb d_MD_train_325 (by decide) ?_
      refine lv_iload hx hb d_MD_train_326 (lv_at hl 4 rfl) ?_
      refine lv_imul hx hb d_MD_train_328 ?_
      refine lv_iconst (v := (3 : Int32)) hx hb d_MD_train_329 (by decide) ?_
      refine lv_iadd hx hb d_MD_train_330 ?_
      obtain ⟨g15, h⟩ := h
      refine gw_iald C hI lay_279 (j := (((4 : Int32) * x7) + (3 : Int32)).toNatClampNeg) rfl (v := M.1 279 ((((4 : Int32) * x7) + (3 : Int32)).toNatClampNeg)) rfl g15 d_MD_train_331 ?_
      refine gw_Vi C hI hl.1 (As := [.int (M.1 273 14), .int (M.1 279 (((4 : Int32) * x7).toNatClampNeg)), .int (M.1 279 ((((4 : Int32) * x7) + (1 : Int32)).toNatClampNeg)), .int (M.1 279 ((((4 : Int32) * x7) + (2 : Int32)).toNatClampNeg)), .int (M.1 279 ((((4 : Int32) * x7) + (3 : Int32)).toNatClampNeg))]) (rest := [.int (M.1 273 14), .ref (ad 273), .long (M.2 284 x7.toNatClampNeg), .int x7, .ref (ad 284)]) (c_MD_leafOf hja h) kV_MD_130 lay_273 rfl rfl ⟨rfl, rfl⟩ ⟨Nat.le_of_ble_eq_true rfl, Nat.le_of_ble_eq_true rfl⟩ rfl (Nat.le_of_ble_eq_true rfl) ⟨Nat.zero_le _, Nat.zero_le _⟩ d_MD_train_332 (fun r16 M17 H locs h hI => ?_)
      refine gw_Vl C hI hl.1 (As := [.int (M.1 273 14), .int r16]) (rest := [.long (M.2 284 x7.toNatClampNeg), .int x7, .ref (ad 284)]) (c_MD_addOf hja h) kV_MD_133 lay_273 rfl rfl ⟨rfl, rfl⟩ ⟨Nat.le_of_ble_eq_true rfl, Nat.le_of_ble_eq_true rfl⟩ rfl (Nat.le_of_ble_eq_true rfl) ⟨Nat.zero_le _, Nat.zero_le _⟩ d_MD_train_335 (fun r18 M19 H locs h hI => ?_)
      refine lv_ladd hx hb d_MD_train_338 ?_
      refine gw_last C hI lay_284 (j := x7.toNatClampNeg) rfl g11 d_MD_train_339 (fun H locs hI => ?_)
      refine lv_iinc (v := x7 + 1) (lv' := [(7, .int (x7 + 1)), (0, .ref (ad 273)), (2, .int x2), (3, .long x3), (5, .int x5)]) hx hb d_MD_train_340 hl (k := 4) rfl rfl (by decide) rfl (fun ls hl => ?_)
      refine lv_goto (tgt := 263) hx hb d_MD_train_343 (by decide) ?_
      exact ih x2 x3 x5 (x7 + 1) (wl M19 (284) x7.toNatClampNeg ((M.2 284 x7.toNatClampNeg) + r18)) _ _ _ h hI (lv_sub hl [1, 2, 3, 4, 0] rfl)
set_option maxHeartbeats 4000000 in
set_option maxRecDepth 100000 in
theorem L_MD_train_234 {p : Program} {l : Launch} {e : Env} {s : State} {m : MethodId} {args : Array Value} {below : List Frame} {meth : Method} {c : Code} {D : va_G} {cy : Nat → ClassId} {ad : Nat → Nat} (C : Cx p s m args meth c b_MD_train 8 (some .int) "BoostForestsModel" D cy ad) {Q : Int32 → gM → Prop} (n : Nat) : ∀ (x2 : Int32) (x3 : Int64) (x5 : Int32) (x6 : Int32) (M : gM) (H : Heap) (locs : List Loc) (ls : Array Slot), wp_MD_train_234 Q n x2 x3 x5 x6 M → gI D cy ad s M H locs → lv_has ls 8 [(0, .ref (ad 273)), (2, .int x2), (3, .long x3), (5, .int x5), (6, .int x6)] → W p l e rm_MD_train s m args below meth c H locs 0 0 (MQ below (va_Qi Q (gB D cy ad) (gA ad s.heap.size)) args s 0 0 (gA ad s.heap.size)) (F0 m 234 ls []) := by
  obtain ⟨hx, hb, hml, hown, hts, hr, hlk, hK, hja⟩ := id C
  induction n with
  | zero => exact fun _ _ _ _ _ _ _ _ h _ _ => h.elim
  | succ n ih =>
    intro x2 x3 x5 x6 M H locs ls h hI hl
    have h := h
    refine lv_aload_n hx hb d_MD_train_234 rfl (lv_at hl 0 rfl) ?_
    refine gw_get (v := .int (M.1 273 14)) C hI lay_273 i_MD rfl 14 (by decide) kw_3_85 rfl rfl d_MD_train_235 ?_
    refine lv_aload_n hx hb d_MD_train_238 rfl (lv_at hl 0 rfl) ?_
    refine gw_get (v := .ref (ad 283)) C hI lay_273 i_MD rfl 12 (by decide) kw_3_83 rfl rfl d_MD_train_239 ?_
    refine lv_iconst (v := (4 : Int32)) hx hb d_MD_train_242 (by decide) ?_
    refine gw_iald C hI lay_283 (j := 4) (by decide) (v := M.1 283 4) rfl (vi_lit (4 : Int32) 15 (by decide)) d_MD_train_243 ?_
    refine lv_icmp_ge (tgt := 457) hx hb d_MD_train_244 (by decide) (fun c25 => ?_) (fun c25 => ?_)
    · have h := h.1 c25
      exact L_MD_train_457 C h hI (lv_sub hl [0] rfl)
    · have h := h.2 c25
      refine lv_iload hx hb d_MD_train_247 (lv_at hl 4 rfl) ?_
      refine lv_if_ne (tgt := 457) hx hb d_MD_train_249 (by decide) (fun c24 => ?_) (fun c24 => ?_)
      · have h := h.1 c24
        exact L_MD_train_457 C h hI (lv_sub hl [0] rfl)
      · have h := h.2 c24
        refine lv_aload_n hx hb d_MD_train_252 rfl (lv_at hl 0 rfl) ?_
        refine lv_aload_n hx hb d_MD_train_253 rfl (lv_at hl 0 rfl) ?_
        refine gw_get (v := .int (M.1 273 14)) C hI lay_273 i_MD rfl 14 (by decide) kw_3_85 rfl rfl d_MD_train_254 ?_
        refine gw_Vv C hI hl.1 (As := [.int (M.1 273 14)]) (rest := []) (c_MD_makeTree hja h) kV_MD_126 lay_273 rfl rfl ⟨rfl, rfl⟩ ⟨Nat.le_of_ble_eq_true rfl, Nat.le_of_ble_eq_true rfl⟩ rfl (Nat.le_of_ble_eq_true rfl) ⟨Nat.zero_le _, Nat.zero_le _⟩ d_MD_train_257 (fun M22 H locs h hI => ?_)
        refine lv_iconst (v := (0 : Int32)) hx hb d_MD_train_260 (by decide) ?_
        refine lv_istore (lv' := [(7, .int (0 : Int32)), (0, .ref (ad 273)), (2, .int x2), (3, .long x3), (5, .int x5), (6, .int x6)]) hx hb d_MD_train_261 hl (by decide) rfl (fun ls hl => ?_)
        obtain ⟨n23, h⟩ := h
        exact L_MD_train_263 C ih n23 x2 x3 x5 (0 : Int32) M22 _ _ _ h hI (lv_sub hl [1, 2, 3, 4, 0] rfl)
set_option maxHeartbeats 4000000 in
set_option maxRecDepth 100000 in
theorem L_MD_train_186 {p : Program} {l : Launch} {e : Env} {s : State} {m : MethodId} {args : Array Value} {below : List Frame} {meth : Method} {c : Code} {D : va_G} {cy : Nat → ClassId} {ad : Nat → Nat} (C : Cx p s m args meth c b_MD_train 8 (some .int) "BoostForestsModel" D cy ad) {Q : Int32 → gM → Prop} {x3 : Int32} {s0 : Int32} {k87 : Int32 → Int32 → gM → Prop} {M : gM} {H : Heap} {locs : List Loc} {ls : Array Slot} (K87 : ∀ (x2 : Int32) (x3 : Int32) (M : gM) (H : Heap) (locs : List Loc) (ls : Array Slot), k87 x2 x3 M → gI D cy ad s M H locs → lv_has ls 8 [(0, .ref (ad 273)), (2, .int x2), (3, .int x3)] → W p l e rm_MD_train s m args below meth c H locs 0 0 (MQ below (va_Qi Q (gB D cy ad) (gA ad s.heap.size)) args s 0 0 (gA ad s.heap.size)) (F0 m 87 ls [])) (h : wp_MD_train_186 Q k87 x3 s0 M) (hI : gI D cy ad s M H locs) (hl : lv_has ls 8 [(0, .ref (ad 273)), (3, .int x3)]) : W p l e rm_MD_train s m args below meth c H locs 0 0 (MQ below (va_Qi Q (gB D cy ad) (gA ad s.heap.size)) args s 0 0 (gA ad s.heap.size)) (F0 m 186 ls [.int s0]) := by
  obtain ⟨hx, hb, hml, hown, hts, hr, hlk, hK, hja⟩ := id C
  refine lv_istore_n (lv' := [(2, .int s0), (0, .ref (ad 273)), (3, .int x3)]) hx hb d_MD_train_186 rfl hl (by decide) rfl (fun ls hl => ?_)
  refine lv_aload_n hx hb d_MD_train_187 rfl (lv_at hl 1 rfl) ?_
  refine gw_get (v := .ref (ad 284)) C hI lay_273 i_MD rfl 13 (by decide) kw_3_84 rfl rfl d_MD_train_188 ?_
  refine lv_iload_n hx hb d_MD_train_191 rfl (lv_at hl 2 rfl) ?_
  refine lv_ldc2 hx hb hown (hts _ kw_3_201) d_MD_train_192 ?_
  refine lv_aload_n hx hb d_MD_train_195 rfl (lv_at hl 1 rfl) ?_
  refine gw_get (v := .ref (ad 283)) C hI lay_273 i_MD rfl 12 (by decide) kw_3_83 rfl rfl d_MD_train_196 ?_
  refine lv_bipush (v := (9 : Int32)) hx hb d_MD_train_199 (by decide) ?_
  refine gw_iald C hI lay_283 (j := 9) (by decide) (v := M.1 283 9) rfl (vi_lit (9 : Int32) 15 (by decide)) d_MD_train_201 ?_
  refine lv_i2l hx hb d_MD_train_202 rfl ?_
  refine lv_lmul hx hb d_MD_train_203 ?_
  obtain ⟨g26, h⟩ := h
  refine gw_last C hI lay_284 (j := x3.toNatClampNeg) rfl g26 d_MD_train_204 (fun H locs hI => ?_)
  refine lv_iinc (v := x3 + 1) (lv' := [(3, .int (x3 + 1)), (2, .int s0), (0, .ref (ad 273))]) hx hb d_MD_train_205 hl (k := 2) rfl rfl (by decide) rfl (fun ls hl => ?_)
  refine lv_goto (tgt := 87) hx hb d_MD_train_208 (by decide) ?_
  exact K87 s0 (x3 + 1) (wl M (284) x3.toNatClampNeg ((256 : Int64) * ((M.1 283 9).toInt64))) _ _ _ h hI (lv_sub hl [2, 1, 0] rfl)
set_option maxHeartbeats 4000000 in
set_option maxRecDepth 100000 in
theorem L_MD_train_181 {p : Program} {l : Launch} {e : Env} {s : State} {m : MethodId} {args : Array Value} {below : List Frame} {meth : Method} {c : Code} {D : va_G} {cy : Nat → ClassId} {ad : Nat → Nat} (C : Cx p s m args meth c b_MD_train 8 (some .int) "BoostForestsModel" D cy ad) {Q : Int32 → gM → Prop} {x3 : Int32} {k87 : Int32 → Int32 → gM → Prop} {M : gM} {H : Heap} {locs : List Loc} {ls : Array Slot} (K87 : ∀ (x2 : Int32) (x3 : Int32) (M : gM) (H : Heap) (locs : List Loc) (ls : Array Slot), k87 x2 x3 M → gI D cy ad s M H locs → lv_has ls 8 [(0, .ref (ad 273)), (2, .int x2), (3, .int x3)] → W p l e rm_MD_train s m args below meth c H locs 0 0 (MQ below (va_Qi Q (gB D cy ad) (gA ad s.heap.size)) args s 0 0 (gA ad s.heap.size)) (F0 m 87 ls [])) (h : wp_MD_train_181 Q k87 x3 M) (hI : gI D cy ad s M H locs) (hl : lv_has ls 8 [(0, .ref (ad 273)), (3, .int x3)]) : W p l e rm_MD_train s m args below meth c H locs 0 0 (MQ below (va_Qi Q (gB D cy ad) (gA ad s.heap.size)) args s 0 0 (gA ad s.heap.size)) (F0 m 181 ls []) := by
  obtain ⟨hx, hb, hml, hown, hts, hr, hlk, hK, hja⟩ := id C
  refine lv_iconst (v := (1 : Int32)) hx hb d_MD_train_181 (by decide) ?_
  refine lv_goto (tgt := 186) hx hb d_MD_train_182 (by decide) ?_
  exact L_MD_train_186 C K87 h hI (lv_sub hl [0, 1] rfl)
set_option maxHeartbeats 4000000 in
set_option maxRecDepth 100000 in
theorem L_MD_train_98 {p : Program} {l : Launch} {e : Env} {s : State} {m : MethodId} {args : Array Value} {below : List Frame} {meth : Method} {c : Code} {D : va_G} {cy : Nat → ClassId} {ad : Nat → Nat} (C : Cx p s m args meth c b_MD_train 8 (some .int) "BoostForestsModel" D cy ad) {Q : Int32 → gM → Prop} {k87 : Int32 → Int32 → gM → Prop} (K87 : ∀ (x2 : Int32) (x3 : Int32) (M : gM) (H : Heap) (locs : List Loc) (ls : Array Slot), k87 x2 x3 M → gI D cy ad s M H locs → lv_has ls 8 [(0, .ref (ad 273)), (2, .int x2), (3, .int x3)] → W p l e rm_MD_train s m args below meth c H locs 0 0 (MQ below (va_Qi Q (gB D cy ad) (gA ad s.heap.size)) args s 0 0 (gA ad s.heap.size)) (F0 m 87 ls [])) (n : Nat) : ∀ (x2 : Int32) (x3 : Int32) (x4 : Int32) (M : gM) (H : Heap) (locs : List Loc) (ls : Array Slot), wp_MD_train_98 Q k87 n x2 x3 x4 M → gI D cy ad s M H locs → lv_has ls 8 [(0, .ref (ad 273)), (2, .int x2), (3, .int x3), (4, .int x4)] → W p l e rm_MD_train s m args below meth c H locs 0 0 (MQ below (va_Qi Q (gB D cy ad) (gA ad s.heap.size)) args s 0 0 (gA ad s.heap.size)) (F0 m 98 ls []) := by
  obtain ⟨hx, hb, hml, hown, hts, hr, hlk, hK, hja⟩ := id C
  induction n with
  | zero => exact fun _ _ _ _ _ _ _ h _ _ => h.elim
  | succ n ih =>
    intro x2 x3 x4 M H locs ls h hI hl
    have h := h
    refine lv_iload hx hb d_MD_train_98 (lv_at hl 3 rfl) ?_
    refine lv_iconst (v := (4 : Int32)) hx hb d_MD_train_100 (by decide) ?_
    refine lv_icmp_ge (tgt := 132) hx hb d_MD_train_101 (by decide) (fun c31 => ?_) (fun c31 => ?_)
    · have h := h.1 c31
      refine lv_aload_n hx hb d_MD_train_132 rfl (lv_at hl 0 rfl) ?_
      refine gw_get (v := .ref (ad 280)) C hI lay_273 i_MD rfl 9 (by decide) kw_3_80 rfl rfl d_MD_train_133 ?_
      refine lv_iload_n hx hb d_MD_train_136 rfl (lv_at hl 2 rfl) ?_
      refine lv_aload_n hx hb d_MD_train_137 rfl (lv_at hl 0 rfl) ?_
      refine gw_get (v := .ref (ad 275)) C hI lay_273 i_MD rfl 2 (by decide) kw_3_73 rfl rfl d_MD_train_138 ?_
      refine lv_iload_n hx hb d_MD_train_141 rfl (lv_at hl 2 rfl) ?_
      obtain ⟨g27, h⟩ := h
      refine gw_iald C hI lay_275 (j := x3.toNatClampNeg) rfl (v := M.1 275 x3.toNatClampNeg) rfl g27 d_MD_train_142 ?_
      refine gw_iast C hI lay_280 (j := x3.toNatClampNeg) rfl g27 d_MD_train_143 (fun H locs hI => ?_)
      refine lv_aload_n hx hb d_MD_train_144 rfl (lv_at hl 0 rfl) ?_
      refine gw_get (v := .ref (ad 281)) C hI lay_273 i_MD rfl 10 (by decide) kw_3_81 rfl rfl d_MD_train_145 ?_
      refine lv_iload_n hx hb d_MD_train_148 rfl (lv_at hl 2 rfl) ?_
      refine lv_aload_n hx hb d_MD_train_149 rfl (lv_at hl 0 rfl) ?_
      refine gw_get (v := .ref (ad 276)) C hI lay_273 i_MD rfl 3 (by decide) kw_3_74 rfl rfl d_MD_train_150 ?_
      refine lv_iload_n hx hb d_MD_train_153 rfl (lv_at hl 2 rfl) ?_
      refine gw_iald C hI lay_276 (j := x3.toNatClampNeg) rfl (v := M.1 276 x3.toNatClampNeg) rfl g27 d_MD_train_154 ?_
      refine gw_iast C hI lay_281 (j := x3.toNatClampNeg) rfl g27 d_MD_train_155 (fun H locs hI => ?_)
      refine lv_aload_n hx hb d_MD_train_156 rfl (lv_at hl 0 rfl) ?_
      refine gw_get (v := .ref (ad 282)) C hI lay_273 i_MD rfl 11 (by decide) kw_3_82 rfl rfl d_MD_train_157 ?_
      refine lv_iload_n hx hb d_MD_train_160 rfl (lv_at hl 2 rfl) ?_
      refine lv_aload_n hx hb d_MD_train_161 rfl (lv_at hl 0 rfl) ?_
      refine gw_get (v := .ref (ad 277)) C hI lay_273 i_MD rfl 4 (by decide) kw_3_75 rfl rfl d_MD_train_162 ?_
      refine lv_iload_n hx hb d_MD_train_165 rfl (lv_at hl 2 rfl) ?_
      refine gw_zald C hI lay_277 (j := x3.toNatClampNeg) rfl (v := M.1 277 x3.toNatClampNeg) rfl g27 d_MD_train_166 ?_
      refine gw_zast C hI lay_282 (j := x3.toNatClampNeg) rfl g27 d_MD_train_167 (fun H locs hI => ?_)
      refine lv_iload_n hx hb d_MD_train_168 rfl (lv_at hl 1 rfl) ?_
      refine lv_if_ne (tgt := 181) hx hb d_MD_train_169 (by decide) (fun c29 => ?_) (fun c29 => ?_)
      · have h := h.1 c29
        exact L_MD_train_181 C K87 h hI (lv_sub hl [0, 2] rfl)
      · have h := h.2 c29
        refine lv_aload_n hx hb d_MD_train_172 rfl (lv_at hl 0 rfl) ?_
        refine gw_get (v := .ref (ad 277)) C hI lay_273 i_MD rfl 4 (by decide) kw_3_75 rfl rfl d_MD_train_173 ?_
        refine lv_iload_n hx hb d_MD_train_176 rfl (lv_at hl 2 rfl) ?_
        refine gw_zald C hI lay_277 (j := x3.toNatClampNeg) rfl (v := M.1 277 x3.toNatClampNeg) rfl g27 d_MD_train_177 ?_
        refine lv_if_eq (tgt := 185) hx hb d_MD_train_178 (by decide) (fun c28 => ?_) (fun c28 => ?_)
        · have h := h.1 c28
          refine lv_iconst (v := (0 : Int32)) hx hb d_MD_train_185 (by decide) ?_
          exact L_MD_train_186 C K87 h hI (lv_sub hl [0, 2] rfl)
        · have h := h.2 c28
          exact L_MD_train_181 C K87 h hI (lv_sub hl [0, 2] rfl)
    · have h := h.2 c31
      refine lv_aload_n hx hb d_MD_train_104 rfl (lv_at hl 0 rfl) ?_
      refine gw_get (v := .ref (ad 279)) C hI lay_273 i_MD rfl 8 (by decide) kw_3_79 rfl rfl d_MD_train_105 ?_
      refine lv_iconst (v := (4 : Int32)) hx hb d_MD_train_108 (by decide) ?_
      refine lv_iload_n hx hb d_MD_train_109 rfl (lv_at hl 2 rfl) ?_
      refine lv_imul hx hb d_MD_train_110 ?_
      refine lv_iload hx hb d_MD_train_111 (lv_at hl 3 rfl) ?_
      refine lv_iadd hx hb d_MD_train_113 ?_
      refine lv_aload_n hx hb d_MD_train_114 rfl (lv_at hl 0 rfl) ?_
      refine gw_get (v := .ref (ad 274)) C hI lay_273 i_MD rfl 1 (by decide) kw_3_72 rfl rfl d_MD_train_115 ?_
      refine lv_iconst (v := (4 : Int32)) hx hb d_MD_train_118 (by decide) ?_
      refine lv_iload_n hx hb d_MD_train_119 rfl (lv_at hl 2 rfl) ?_
      refine lv_imul hx hb d_MD_train_120 ?_
      refine lv_iload hx hb d_MD_train_121 (lv_at hl 3 rfl) ?_
      refine lv_iadd hx hb d_MD_train_123 ?_
      obtain ⟨g30, h⟩ := h
      refine gw_iald C hI lay_274 (j := (((4 : Int32) * x3) + x4).toNatClampNeg) rfl (v := M.1 274 ((((4 : Int32) * x3) + x4).toNatClampNeg)) rfl g30 d_MD_train_124 ?_
      refine gw_iast C hI lay_279 (j := (((4 : Int32) * x3) + x4).toNatClampNeg) rfl g30 d_MD_train_125 (fun H locs hI => ?_)
      refine lv_iinc (v := x4 + 1) (lv' := [(4, .int (x4 + 1)), (0, .ref (ad 273)), (2, .int x2), (3, .int x3)]) hx hb d_MD_train_126 hl (k := 3) rfl rfl (by decide) rfl (fun ls hl => ?_)
      refine lv_goto (tgt := 98) hx hb d_MD_train_129 (by decide) ?_
      exact ih x2 x3 (x4 + 1) (wi M (279) ((((4 : Int32) * x3) + x4).toNatClampNeg) (M.1 274 ((((4 : Int32) * x3) + x4).toNatClampNeg))) _ _ _ h hI (lv_sub hl [1, 2, 3, 0] rfl)
set_option maxHeartbeats 4000000 in
set_option maxRecDepth 100000 in
theorem L_MD_train_87 {p : Program} {l : Launch} {e : Env} {s : State} {m : MethodId} {args : Array Value} {below : List Frame} {meth : Method} {c : Code} {D : va_G} {cy : Nat → ClassId} {ad : Nat → Nat} (C : Cx p s m args meth c b_MD_train 8 (some .int) "BoostForestsModel" D cy ad) {Q : Int32 → gM → Prop} (n : Nat) : ∀ (x2 : Int32) (x3 : Int32) (M : gM) (H : Heap) (locs : List Loc) (ls : Array Slot), wp_MD_train_87 Q n x2 x3 M → gI D cy ad s M H locs → lv_has ls 8 [(0, .ref (ad 273)), (2, .int x2), (3, .int x3)] → W p l e rm_MD_train s m args below meth c H locs 0 0 (MQ below (va_Qi Q (gB D cy ad) (gA ad s.heap.size)) args s 0 0 (gA ad s.heap.size)) (F0 m 87 ls []) := by
  obtain ⟨hx, hb, hml, hown, hts, hr, hlk, hK, hja⟩ := id C
  induction n with
  | zero => exact fun _ _ _ _ _ _ h _ _ => h.elim
  | succ n ih =>
    intro x2 x3 M H locs ls h hI hl
    have h := h
    refine lv_iload_n hx hb d_MD_train_87 rfl (lv_at hl 2 rfl) ?_
    refine lv_aload_n hx hb d_MD_train_88 rfl (lv_at hl 0 rfl) ?_
    refine gw_get (v := .int (M.1 273 0)) C hI lay_273 i_MD rfl 0 (by decide) kw_3_71 rfl rfl d_MD_train_89 ?_
    refine lv_icmp_ge (tgt := 211) hx hb d_MD_train_92 (by decide) (fun c36 => ?_) (fun c36 => ?_)
    · have h := h.1 c36
      refine lv_aload_n hx hb d_MD_train_211 rfl (lv_at hl 0 rfl) ?_
      refine lv_iconst (v := (0 : Int32)) hx hb d_MD_train_212 (by decide) ?_
      refine gw_puti C hI lay_273 i_MD rfl t_MD_ok n_MD 14 (by decide) kw_3_85 rfl rfl rfl rfl rfl d_MD_train_213 (fun H locs hI => ?_)
      refine lv_aload_n hx hb d_MD_train_216 rfl (lv_at hl 0 rfl) ?_
      refine gw_Vv C hI hl.1 (As := []) (rest := []) (c_MD_keepLosses hja h) kV_MD_123 lay_273 rfl rfl ⟨rfl, rfl⟩ ⟨Nat.le_of_ble_eq_true rfl, Nat.le_of_ble_eq_true rfl⟩ rfl (Nat.le_of_ble_eq_true rfl) ⟨Nat.zero_le _, Nat.zero_le _⟩ d_MD_train_217 (fun M33 H locs h hI => ?_)
      refine lv_aload_n hx hb d_MD_train_220 rfl (lv_at hl 0 rfl) ?_
      refine gw_get (v := .ref (ad 285)) C hI lay_273 i_MD rfl 15 (by decide) kw_3_86 rfl rfl d_MD_train_221 ?_
      refine lv_bipush (v := (13 : Int32)) hx hb d_MD_train_224 (by decide) ?_
      refine gw_lald C hI lay_285 (j := 13) (by decide) (v := M33.2 285 13) rfl (vi_lit (13 : Int32) 26 (by decide)) d_MD_train_226 ?_
      refine lv_lstore_n (lv' := [(3, .long (M33.2 285 13)), (0, .ref (ad 273)), (2, .int x2)]) hx hb d_MD_train_227 rfl hl (by decide) rfl (fun ls hl => ?_)
      refine lv_iconst (v := (0 : Int32)) hx hb d_MD_train_228 (by decide) ?_
      refine lv_istore (lv' := [(5, .int (0 : Int32)), (3, .long (M33.2 285 13)), (0, .ref (ad 273)), (2, .int x2)]) hx hb d_MD_train_229 hl (by decide) rfl (fun ls hl => ?_)
      refine lv_iconst (v := (0 : Int32)) hx hb d_MD_train_231 (by decide) ?_
      refine lv_istore (lv' := [(6, .int (0 : Int32)), (5, .int (0 : Int32)), (3, .long (M33.2 285 13)), (0, .ref (ad 273)), (2, .int x2)]) hx hb d_MD_train_232 hl (by decide) rfl (fun ls hl => ?_)
      obtain ⟨n34, h⟩ := h
      exact L_MD_train_234 C n34 x2 (M33.2 285 13) (0 : Int32) (0 : Int32) M33 _ _ _ h hI (lv_sub hl [3, 4, 2, 1, 0] rfl)
    · have h := h.2 c36
      refine lv_iconst (v := (0 : Int32)) hx hb d_MD_train_95 (by decide) ?_
      refine lv_istore (lv' := [(4, .int (0 : Int32)), (0, .ref (ad 273)), (2, .int x2), (3, .int x3)]) hx hb d_MD_train_96 hl (by decide) rfl (fun ls hl => ?_)
      obtain ⟨n35, h⟩ := h
      exact L_MD_train_98 C ih n35 x2 x3 (0 : Int32) M _ _ _ h hI (lv_sub hl [1, 2, 3, 0] rfl)
set_option maxHeartbeats 4000000 in
set_option maxRecDepth 100000 in
theorem L_MD_train_59 {p : Program} {l : Launch} {e : Env} {s : State} {m : MethodId} {args : Array Value} {below : List Frame} {meth : Method} {c : Code} {D : va_G} {cy : Nat → ClassId} {ad : Nat → Nat} (C : Cx p s m args meth c b_MD_train 8 (some .int) "BoostForestsModel" D cy ad) {Q : Int32 → gM → Prop} (n : Nat) : ∀ (x2 : Int32) (M : gM) (H : Heap) (locs : List Loc) (ls : Array Slot), wp_MD_train_59 Q n x2 M → gI D cy ad s M H locs → lv_has ls 8 [(0, .ref (ad 273)), (2, .int x2)] → W p l e rm_MD_train s m args below meth c H locs 0 0 (MQ below (va_Qi Q (gB D cy ad) (gA ad s.heap.size)) args s 0 0 (gA ad s.heap.size)) (F0 m 59 ls []) := by
  obtain ⟨hx, hb, hml, hown, hts, hr, hlk, hK, hja⟩ := id C
  induction n with
  | zero => exact fun _ _ _ _ _ h _ _ => h.elim
  | succ n ih =>
    intro x2 M H locs ls h hI hl
    have h := h
    refine lv_iload_n hx hb d_MD_train_59 rfl (lv_at hl 1 rfl) ?_
    refine lv_bipush (v := (15 : Int32)) hx hb d_MD_train_60 (by decide) ?_
    refine lv_icmp_ge (tgt := 83) hx hb d_MD_train_62 (by decide) (fun c39 => ?_) (fun c39 => ?_)
    · have h := h.1 c39
      refine lv_iconst (v := (0 : Int32)) hx hb d_MD_train_83 (by decide) ?_
      refine lv_istore_n (lv' := [(2, .int (0 : Int32)), (0, .ref (ad 273))]) hx hb d_MD_train_84 rfl hl (by decide) rfl (fun ls hl => ?_)
      refine lv_iconst (v := (0 : Int32)) hx hb d_MD_train_85 (by decide) ?_
      refine lv_istore_n (lv' := [(3, .int (0 : Int32)), (2, .int (0 : Int32)), (0, .ref (ad 273))]) hx hb d_MD_train_86 rfl hl (by decide) rfl (fun ls hl => ?_)
      obtain ⟨n37, h⟩ := h
      exact L_MD_train_87 C n37 (0 : Int32) (0 : Int32) M _ _ _ h hI (lv_sub hl [2, 1, 0] rfl)
    · have h := h.2 c39
      refine lv_aload_n hx hb d_MD_train_65 rfl (lv_at hl 0 rfl) ?_
      refine gw_get (v := .ref (ad 283)) C hI lay_273 i_MD rfl 12 (by decide) kw_3_83 rfl rfl d_MD_train_66 ?_
      refine lv_iload_n hx hb d_MD_train_69 rfl (lv_at hl 1 rfl) ?_
      refine lv_aload_n hx hb d_MD_train_70 rfl (lv_at hl 0 rfl) ?_
      refine gw_get (v := .ref (ad 278)) C hI lay_273 i_MD rfl 5 (by decide) kw_3_76 rfl rfl d_MD_train_71 ?_
      refine lv_iload_n hx hb d_MD_train_74 rfl (lv_at hl 1 rfl) ?_
      obtain ⟨g38, h⟩ := h
      refine gw_iald C hI lay_278 (j := x2.toNatClampNeg) rfl (v := M.1 278 x2.toNatClampNeg) rfl g38 d_MD_train_75 ?_
      refine gw_iast C hI lay_283 (j := x2.toNatClampNeg) rfl g38 d_MD_train_76 (fun H locs hI => ?_)
      refine lv_iinc (v := x2 + 1) (lv' := [(2, .int (x2 + 1)), (0, .ref (ad 273))]) hx hb d_MD_train_77 hl (k := 1) rfl rfl (by decide) rfl (fun ls hl => ?_)
      refine lv_goto (tgt := 59) hx hb d_MD_train_80 (by decide) ?_
      exact ih (x2 + 1) (wi M (283) x2.toNatClampNeg (M.1 278 x2.toNatClampNeg)) _ _ _ h hI (lv_sub hl [1, 0] rfl)
set_option maxHeartbeats 4000000 in
set_option maxRecDepth 100000 in
theorem L_MD_train_30 {p : Program} {l : Launch} {e : Env} {s : State} {m : MethodId} {args : Array Value} {below : List Frame} {meth : Method} {c : Code} {D : va_G} {cy : Nat → ClassId} {ad : Nat → Nat} (C : Cx p s m args meth c b_MD_train 8 (some .int) "BoostForestsModel" D cy ad) {Q : Int32 → gM → Prop} {x2 : Int32} {s0 : Int32} {k4 : Int32 → Int32 → gM → Prop} {M : gM} {H : Heap} {locs : List Loc} {ls : Array Slot} (K4 : ∀ (x1 : Int32) (x2 : Int32) (M : gM) (H : Heap) (locs : List Loc) (ls : Array Slot), k4 x1 x2 M → gI D cy ad s M H locs → lv_has ls 8 [(0, .ref (ad 273)), (1, .int x1), (2, .int x2)] → W p l e rm_MD_train s m args below meth c H locs 0 0 (MQ below (va_Qi Q (gB D cy ad) (gA ad s.heap.size)) args s 0 0 (gA ad s.heap.size)) (F0 m 4 ls [])) (h : wp_MD_train_30 Q k4 x2 s0 M) (hI : gI D cy ad s M H locs) (hl : lv_has ls 8 [(0, .ref (ad 273)), (2, .int x2)]) : W p l e rm_MD_train s m args below meth c H locs 0 0 (MQ below (va_Qi Q (gB D cy ad) (gA ad s.heap.size)) args s 0 0 (gA ad s.heap.size)) (F0 m 30 ls [.int s0]) := by
  obtain ⟨hx, hb, hml, hown, hts, hr, hlk, hK, hja⟩ := id C
  refine lv_istore_n (lv' := [(1, .int s0), (0, .ref (ad 273)), (2, .int x2)]) hx hb d_MD_train_30 rfl hl (by decide) rfl (fun ls hl => ?_)
  refine lv_iinc (v := x2 + 1) (lv' := [(2, .int (x2 + 1)), (1, .int s0), (0, .ref (ad 273))]) hx hb d_MD_train_31 hl (k := 2) rfl rfl (by decide) rfl (fun ls hl => ?_)
  refine lv_goto (tgt := 4) hx hb d_MD_train_34 (by decide) ?_
  exact K4 s0 (x2 + 1) M _ _ _ h hI (lv_sub hl [2, 1, 0] rfl)
set_option maxHeartbeats 4000000 in
set_option maxRecDepth 100000 in
theorem L_MD_train_25 {p : Program} {l : Launch} {e : Env} {s : State} {m : MethodId} {args : Array Value} {below : List Frame} {meth : Method} {c : Code} {D : va_G} {cy : Nat → ClassId} {ad : Nat → Nat} (C : Cx p s m args meth c b_MD_train 8 (some .int) "BoostForestsModel" D cy ad) {Q : Int32 → gM → Prop} {x2 : Int32} {k4 : Int32 → Int32 → gM → Prop} {M : gM} {H : Heap} {locs : List Loc} {ls : Array Slot} (K4 : ∀ (x1 : Int32) (x2 : Int32) (M : gM) (H : Heap) (locs : List Loc) (ls : Array Slot), k4 x1 x2 M → gI D cy ad s M H locs → lv_has ls 8 [(0, .ref (ad 273)), (1, .int x1), (2, .int x2)] → W p l e rm_MD_train s m args below meth c H locs 0 0 (MQ below (va_Qi Q (gB D cy ad) (gA ad s.heap.size)) args s 0 0 (gA ad s.heap.size)) (F0 m 4 ls [])) (h : wp_MD_train_25 Q k4 x2 M) (hI : gI D cy ad s M H locs) (hl : lv_has ls 8 [(0, .ref (ad 273)), (2, .int x2)]) : W p l e rm_MD_train s m args below meth c H locs 0 0 (MQ below (va_Qi Q (gB D cy ad) (gA ad s.heap.size)) args s 0 0 (gA ad s.heap.size)) (F0 m 25 ls []) := by
  obtain ⟨hx, hb, hml, hown, hts, hr, hlk, hK, hja⟩ := id C
  refine lv_iconst (v := (1 : Int32)) hx hb d_MD_train_25 (by decide) ?_
  refine lv_goto (tgt := 30) hx hb d_MD_train_26 (by decide) ?_
  exact L_MD_train_30 C K4 h hI (lv_sub hl [0, 1] rfl)
set_option maxHeartbeats 4000000 in
set_option maxRecDepth 100000 in
theorem L_MD_train_4 {p : Program} {l : Launch} {e : Env} {s : State} {m : MethodId} {args : Array Value} {below : List Frame} {meth : Method} {c : Code} {D : va_G} {cy : Nat → ClassId} {ad : Nat → Nat} (C : Cx p s m args meth c b_MD_train 8 (some .int) "BoostForestsModel" D cy ad) {Q : Int32 → gM → Prop} (n : Nat) : ∀ (x1 : Int32) (x2 : Int32) (M : gM) (H : Heap) (locs : List Loc) (ls : Array Slot), wp_MD_train_4 Q n x1 x2 M → gI D cy ad s M H locs → lv_has ls 8 [(0, .ref (ad 273)), (1, .int x1), (2, .int x2)] → W p l e rm_MD_train s m args below meth c H locs 0 0 (MQ below (va_Qi Q (gB D cy ad) (gA ad s.heap.size)) args s 0 0 (gA ad s.heap.size)) (F0 m 4 ls []) := by
  obtain ⟨hx, hb, hml, hown, hts, hr, hlk, hK, hja⟩ := id C
  induction n with
  | zero => exact fun _ _ _ _ _ _ h _ _ => h.elim
  | succ n ih =>
    intro x1 x2 M H locs ls h hI hl
    have h := h
    refine lv_iload_n hx hb d_MD_train_4 rfl (lv_at hl 2 rfl) ?_
    refine lv_aload_n hx hb d_MD_train_5 rfl (lv_at hl 0 rfl) ?_
    refine gw_get (v := .int (M.1 273 0)) C hI lay_273 i_MD rfl 0 (by decide) kw_3_71 rfl rfl d_MD_train_6 ?_
    refine lv_icmp_ge (tgt := 37) hx hb d_MD_train_9 (by decide) (fun c45 => ?_) (fun c45 => ?_)
    · have h := h.1 c45
      refine lv_iload_n hx hb d_MD_train_37 rfl (lv_at hl 1 rfl) ?_
      refine lv_if_ne (tgt := 44) hx hb d_MD_train_38 (by decide) (fun c41 => ?_) (fun c41 => ?_)
      · have h := h.1 c41
        refine lv_aload_n hx hb d_MD_train_44 rfl (lv_at hl 0 rfl) ?_
        refine lv_iconst (v := (1 : Int32)) hx hb d_MD_train_45 (by decide) ?_
        refine gw_puti C hI lay_273 i_MD rfl t_MD_ok n_MD 6 (by decide) kw_3_77 rfl rfl rfl rfl rfl d_MD_train_46 (fun H locs hI => ?_)
        refine lv_aload_n hx hb d_MD_train_49 rfl (lv_at hl 0 rfl) ?_
        refine lv_aload_n hx hb d_MD_train_50 rfl (lv_at hl 0 rfl) ?_
        refine gw_get (v := .int (M.1 273 0)) C hI lay_273 i_MD rfl 0 (by decide) kw_3_71 rfl rfl d_MD_train_51 ?_
        refine gw_puti C hI lay_273 i_MD rfl t_MD_ok n_MD 7 (by decide) kw_3_78 rfl rfl rfl rfl rfl d_MD_train_54 (fun H locs hI => ?_)
        refine lv_iconst (v := (0 : Int32)) hx hb d_MD_train_57 (by decide) ?_
        refine lv_istore_n (lv' := [(2, .int (0 : Int32)), (0, .ref (ad 273)), (1, .int x1)]) hx hb d_MD_train_58 rfl hl (by decide) rfl (fun ls hl => ?_)
        obtain ⟨n40, h⟩ := h
        exact L_MD_train_59 C n40 (0 : Int32) (wi (wi M 273 6 (1 : Int32)) 273 7 (M.1 273 0)) _ _ _ h hI (lv_sub hl [1, 0] rfl)
      · have h := h.2 c41
        refine lv_bipush (v := (-2 : Int32)) hx hb d_MD_train_41 (by decide) ?_
        exact gr_i C hI h d_MD_train_43
    · have h := h.2 c45
      refine lv_iload_n hx hb d_MD_train_12 rfl (lv_at hl 1 rfl) ?_
      refine lv_if_ne (tgt := 25) hx hb d_MD_train_13 (by decide) (fun c44 => ?_) (fun c44 => ?_)
      · have h := h.1 c44
        exact L_MD_train_25 C ih h hI (lv_sub hl [0, 2] rfl)
      · have h := h.2 c44
        refine lv_aload_n hx hb d_MD_train_16 rfl (lv_at hl 0 rfl) ?_
        refine gw_get (v := .ref (ad 277)) C hI lay_273 i_MD rfl 4 (by decide) kw_3_75 rfl rfl d_MD_train_17 ?_
        refine lv_iload_n hx hb d_MD_train_20 rfl (lv_at hl 2 rfl) ?_
        obtain ⟨g42, h⟩ := h
        refine gw_zald C hI lay_277 (j := x2.toNatClampNeg) rfl (v := M.1 277 x2.toNatClampNeg) rfl g42 d_MD_train_21 ?_
        refine lv_if_ne (tgt := 29) hx hb d_MD_train_22 (by decide) (fun c43 => ?_) (fun c43 => ?_)
        · have h := h.1 c43
          refine lv_iconst (v := (0 : Int32)) hx hb d_MD_train_29 (by decide) ?_
          exact L_MD_train_30 C ih h hI (lv_sub hl [0, 2] rfl)
        · have h := h.2 c43
          exact L_MD_train_25 C ih h hI (lv_sub hl [0, 2] rfl)
set_option maxHeartbeats 4000000 in
set_option maxRecDepth 100000 in
theorem c_MD_train {l : Launch} {D : va_G} {cy : Nat → ClassId} {ad : Nat → Nat} (hj : gJ ad) {M : gM} {Q : Int32 → gM → Prop} (h : wp_MD_train Q M) : Ci l y_MD_train b_MD_train 8 (some .int) rm_MD_train D cy ad [.ref (ad 273)] M Q := by
  refine gm (by decide +kernel) hj (Nat.le_of_ble_eq_true rfl) (fun p e s m args below meth c ls C hl hI => ?_)
  have hl : lv_has ls 8 [(0, .ref (ad 273))] := hl
  obtain ⟨hx, hb, hml, hown, hts, hr, hlk, hK, hja⟩ := id C
  refine lv_iconst (v := (0 : Int32)) hx hb d_MD_train_0 (by decide) ?_
  refine lv_istore_n (lv' := [(1, .int (0 : Int32)), (0, .ref (ad 273))]) hx hb d_MD_train_1 rfl hl (by decide) rfl (fun ls hl => ?_)
  refine lv_iconst (v := (0 : Int32)) hx hb d_MD_train_2 (by decide) ?_
  refine lv_istore_n (lv' := [(2, .int (0 : Int32)), (1, .int (0 : Int32)), (0, .ref (ad 273))]) hx hb d_MD_train_3 rfl hl (by decide) rfl (fun ls hl => ?_)
  obtain ⟨n46, h⟩ := h
  exact L_MD_train_4 C n46 (0 : Int32) (0 : Int32) M _ _ _ h hI (lv_sub hl [2, 1, 0] rfl)
set_option maxHeartbeats 4000000 in
set_option maxRecDepth 100000 in
theorem L_MD_isTree_16 {p : Program} {l : Launch} {e : Env} {s : State} {m : MethodId} {args : Array Value} {below : List Frame} {meth : Method} {c : Code} {D : va_G} {cy : Nat → ClassId} {ad : Nat → Nat} (C : Cx p s m args meth c b_MD_isTree 2 (some .boolean) "BoostForestsModel" D cy ad) {Q : Int32 → gM → Prop} {M : gM} {H : Heap} {locs : List Loc} {ls : Array Slot} (h : wp_MD_isTree_16 Q M) (hI : gI D cy ad s M H locs) (hl : lv_has ls 2 []) : W p l e rm_MD_isTree s m args below meth c H locs 0 0 (MQ below (va_Qi Q (gB D cy ad) (gA ad s.heap.size)) args s 0 0 (gA ad s.heap.size)) (F0 m 16 ls []) := by
  obtain ⟨hx, hb, hml, hown, hts, hr, hlk, hK, hja⟩ := id C
  refine lv_iconst (v := (0 : Int32)) hx hb d_MD_isTree_16 (by decide) ?_
  exact gr_z C hI rfl h d_MD_isTree_17
set_option maxHeartbeats 4000000 in
set_option maxRecDepth 100000 in
theorem c_MD_isTree {l : Launch} {D : va_G} {cy : Nat → ClassId} {ad : Nat → Nat} (hj : gJ ad) {a1 : Int32} {M : gM} {Q : Int32 → gM → Prop} (h : wp_MD_isTree Q a1 M) : Ci l y_MD_isTree b_MD_isTree 2 (some .boolean) rm_MD_isTree D cy ad [.ref (ad 273), .int a1] M Q := by
  refine gm (by decide +kernel) hj (Nat.le_of_ble_eq_true rfl) (fun p e s m args below meth c ls C hl hI => ?_)
  have hl : lv_has ls 2 [(0, .ref (ad 273)), (1, .int a1)] := hl
  obtain ⟨hx, hb, hml, hown, hts, hr, hlk, hK, hja⟩ := id C
  refine lv_iload_n hx hb d_MD_isTree_0 rfl (lv_at hl 1 rfl) ?_
  refine lv_if_lt (tgt := 16) hx hb d_MD_isTree_1 (by decide) (fun c2 => ?_) (fun c2 => ?_)
  · have h := h.1 c2
    exact L_MD_isTree_16 C h hI (lv_sub hl [] rfl)
  · have h := h.2 c2
    refine lv_iload_n hx hb d_MD_isTree_4 rfl (lv_at hl 1 rfl) ?_
    refine lv_aload_n hx hb d_MD_isTree_5 rfl (lv_at hl 0 rfl) ?_
    refine gw_get (v := .int (M.1 273 14)) C hI lay_273 i_MD rfl 14 (by decide) kw_3_85 rfl rfl d_MD_isTree_6 ?_
    refine lv_icmp_ge (tgt := 16) hx hb d_MD_isTree_9 (by decide) (fun c1 => ?_) (fun c1 => ?_)
    · have h := h.1 c1
      exact L_MD_isTree_16 C h hI (lv_sub hl [] rfl)
    · have h := h.2 c1
      refine lv_iconst (v := (1 : Int32)) hx hb d_MD_isTree_12 (by decide) ?_
      refine lv_goto (tgt := 17) hx hb d_MD_isTree_13 (by decide) ?_
      exact gr_z C hI rfl h d_MD_isTree_17
set_option maxHeartbeats 4000000 in
set_option maxRecDepth 100000 in
theorem L_MD_isNode_26 {p : Program} {l : Launch} {e : Env} {s : State} {m : MethodId} {args : Array Value} {below : List Frame} {meth : Method} {c : Code} {D : va_G} {cy : Nat → ClassId} {ad : Nat → Nat} (C : Cx p s m args meth c b_MD_isNode 3 (some .boolean) "BoostForestsModel" D cy ad) {Q : Int32 → gM → Prop} {M : gM} {H : Heap} {locs : List Loc} {ls : Array Slot} (h : wp_MD_isNode_26 Q M) (hI : gI D cy ad s M H locs) (hl : lv_has ls 3 []) : W p l e rm_MD_isNode s m args below meth c H locs 0 0 (MQ below (va_Qi Q (gB D cy ad) (gA ad s.heap.size)) args s 0 0 (gA ad s.heap.size)) (F0 m 26 ls []) := by
  obtain ⟨hx, hb, hml, hown, hts, hr, hlk, hK, hja⟩ := id C
  refine lv_iconst (v := (0 : Int32)) hx hb d_MD_isNode_26 (by decide) ?_
  exact gr_z C hI rfl h d_MD_isNode_27
set_option maxHeartbeats 4000000 in
set_option maxRecDepth 100000 in
theorem c_MD_isNode {l : Launch} {D : va_G} {cy : Nat → ClassId} {ad : Nat → Nat} (hj : gJ ad) {a1 : Int32} {a2 : Int32} {M : gM} {Q : Int32 → gM → Prop} (h : wp_MD_isNode Q a1 a2 M) : Ci l y_MD_isNode b_MD_isNode 3 (some .boolean) rm_MD_isNode D cy ad [.ref (ad 273), .int a1, .int a2] M Q := by
  refine gm (by decide +kernel) hj (Nat.le_of_ble_eq_true rfl) (fun p e s m args below meth c ls C hl hI => ?_)
  have hl : lv_has ls 3 [(0, .ref (ad 273)), (1, .int a1), (2, .int a2)] := hl
  obtain ⟨hx, hb, hml, hown, hts, hr, hlk, hK, hja⟩ := id C
  refine lv_aload_n hx hb d_MD_isNode_0 rfl (lv_at hl 0 rfl) ?_
  refine lv_iload_n hx hb d_MD_isNode_1 rfl (lv_at hl 1 rfl) ?_
  refine gw_Vi C hI hl.1 (As := [.int a1]) (rest := []) (c_MD_isTree hja h) kV_MD_184 lay_273 rfl rfl ⟨rfl, rfl⟩ ⟨Nat.le_of_ble_eq_true rfl, Nat.le_of_ble_eq_true rfl⟩ rfl (Nat.le_of_ble_eq_true rfl) ⟨Nat.zero_le _, Nat.zero_le _⟩ d_MD_isNode_2 (fun r1 M2 H locs h hI => ?_)
  refine lv_if_eq (tgt := 26) hx hb d_MD_isNode_5 (by decide) (fun c6 => ?_) (fun c6 => ?_)
  · have h := h.1 c6
    exact L_MD_isNode_26 C h hI (lv_sub hl [] rfl)
  · have h := h.2 c6
    refine lv_iload_n hx hb d_MD_isNode_8 rfl (lv_at hl 2 rfl) ?_
    refine lv_if_lt (tgt := 26) hx hb d_MD_isNode_9 (by decide) (fun c5 => ?_) (fun c5 => ?_)
    · have h := h.1 c5
      exact L_MD_isNode_26 C h hI (lv_sub hl [] rfl)
    · have h := h.2 c5
      refine lv_iload_n hx hb d_MD_isNode_12 rfl (lv_at hl 2 rfl) ?_
      refine lv_aload_n hx hb d_MD_isNode_13 rfl (lv_at hl 0 rfl) ?_
      refine gw_get (v := .ref (ad 287)) C hI lay_273 i_MD rfl 17 (by decide) kw_3_88 rfl rfl d_MD_isNode_14 ?_
      refine lv_iload_n hx hb d_MD_isNode_17 rfl (lv_at hl 1 rfl) ?_
      obtain ⟨g3, h⟩ := h
      refine gw_iald C hI lay_287 (j := a1.toNatClampNeg) rfl (v := M2.1 287 a1.toNatClampNeg) rfl g3 d_MD_isNode_18 ?_
      refine lv_icmp_ge (tgt := 26) hx hb d_MD_isNode_19 (by decide) (fun c4 => ?_) (fun c4 => ?_)
      · have h := h.1 c4
        exact L_MD_isNode_26 C h hI (lv_sub hl [] rfl)
      · have h := h.2 c4
        refine lv_iconst (v := (1 : Int32)) hx hb d_MD_isNode_22 (by decide) ?_
        refine lv_goto (tgt := 27) hx hb d_MD_isNode_23 (by decide) ?_
        exact gr_z C hI rfl h d_MD_isNode_27
set_option maxHeartbeats 4000000 in
set_option maxRecDepth 100000 in
theorem c_MD_node {l : Launch} {D : va_G} {cy : Nat → ClassId} {ad : Nat → Nat} (hj : gJ ad) {a1 : Int32} {a2 : Int32} {a3 : Int32} {M : gM} {Q : Int32 → gM → Prop} (h : wp_MD_node Q a1 a2 a3 M) : Ci l y_MD_node b_MD_node 5 (some .int) rm_MD_node D cy ad [.ref (ad 273), .int a1, .int a2, .int a3] M Q := by
  refine gm (by decide +kernel) hj (Nat.le_of_ble_eq_true rfl) (fun p e s m args below meth c ls C hl hI => ?_)
  have hl : lv_has ls 5 [(0, .ref (ad 273)), (1, .int a1), (2, .int a2), (3, .int a3)] := hl
  obtain ⟨hx, hb, hml, hown, hts, hr, hlk, hK, hja⟩ := id C
  refine lv_aload_n hx hb d_MD_node_0 rfl (lv_at hl 0 rfl) ?_
  refine lv_iload_n hx hb d_MD_node_1 rfl (lv_at hl 1 rfl) ?_
  refine lv_iload_n hx hb d_MD_node_2 rfl (lv_at hl 2 rfl) ?_
  refine gw_Vi C hI hl.1 (As := [.int a1, .int a2]) (rest := []) (c_MD_isNode hja h) kV_MD_187 lay_273 rfl rfl ⟨rfl, rfl⟩ ⟨Nat.le_of_ble_eq_true rfl, Nat.le_of_ble_eq_true rfl⟩ rfl (Nat.le_of_ble_eq_true rfl) ⟨Nat.zero_le _, Nat.zero_le _⟩ d_MD_node_3 (fun r1 M2 H locs h hI => ?_)
  refine lv_if_ne (tgt := 12) hx hb d_MD_node_6 (by decide) (fun c17 => ?_) (fun c17 => ?_)
  · have h := h.1 c17
    refine lv_bipush (v := (32 : Int32)) hx hb d_MD_node_12 (by decide) ?_
    refine lv_iload_n hx hb d_MD_node_14 rfl (lv_at hl 1 rfl) ?_
    refine lv_imul hx hb d_MD_node_15 ?_
    refine lv_iload_n hx hb d_MD_node_16 rfl (lv_at hl 2 rfl) ?_
    refine lv_iadd hx hb d_MD_node_17 ?_
    refine lv_istore (lv' := [(4, .int (((32 : Int32) * a1) + a2)), (0, .ref (ad 273)), (1, .int a1), (2, .int a2), (3, .int a3)]) hx hb d_MD_node_18 hl (by decide) rfl (fun ls hl => ?_)
    refine lv_iload_n hx hb d_MD_node_20 rfl (lv_at hl 4 rfl) ?_
    rcases Classical.em (a3 = 0) with c3 | c3
    · have h := h.1 c3
      refine lv_tableIn (tgt := 64) hx hb d_MD_node_21 (by rw [c3]; decide) (by rw [c3]; decide) (by rw [c3]; rfl) (by decide) ?_
      refine lv_aload_n hx hb d_MD_node_64 rfl (lv_at hl 1 rfl) ?_
      refine gw_get (v := .ref (ad 288)) C hI lay_273 i_MD rfl 18 (by decide) kw_3_89 rfl rfl d_MD_node_65 ?_
      refine lv_iload hx hb d_MD_node_68 (lv_at hl 0 rfl) ?_
      obtain ⟨g4, h⟩ := h
      refine gw_iald C hI lay_288 (j := (((32 : Int32) * a1) + a2).toNatClampNeg) rfl (v := M2.1 288 ((((32 : Int32) * a1) + a2).toNatClampNeg)) rfl g4 d_MD_node_70 ?_
      exact gr_i C hI h d_MD_node_71
    · have h := h.2 c3
      rcases Classical.em (a3 = 1) with c5 | c5
      · have h := h.1 c5
        refine lv_tableIn (tgt := 72) hx hb d_MD_node_21 (by rw [c5]; decide) (by rw [c5]; decide) (by rw [c5]; rfl) (by decide) ?_
        refine lv_aload_n hx hb d_MD_node_72 rfl (lv_at hl 1 rfl) ?_
        refine gw_get (v := .ref (ad 289)) C hI lay_273 i_MD rfl 19 (by decide) kw_3_90 rfl rfl d_MD_node_73 ?_
        refine lv_iload hx hb d_MD_node_76 (lv_at hl 0 rfl) ?_
        obtain ⟨g6, h⟩ := h
        refine gw_iald C hI lay_289 (j := (((32 : Int32) * a1) + a2).toNatClampNeg) rfl (v := M2.1 289 ((((32 : Int32) * a1) + a2).toNatClampNeg)) rfl g6 d_MD_node_78 ?_
        exact gr_i C hI h d_MD_node_79
      · have h := h.2 c5
        rcases Classical.em (a3 = 2) with c7 | c7
        · have h := h.1 c7
          refine lv_tableIn (tgt := 80) hx hb d_MD_node_21 (by rw [c7]; decide) (by rw [c7]; decide) (by rw [c7]; rfl) (by decide) ?_
          refine lv_aload_n hx hb d_MD_node_80 rfl (lv_at hl 1 rfl) ?_
          refine gw_get (v := .ref (ad 290)) C hI lay_273 i_MD rfl 20 (by decide) kw_3_91 rfl rfl d_MD_node_81 ?_
          refine lv_iload hx hb d_MD_node_84 (lv_at hl 0 rfl) ?_
          obtain ⟨g8, h⟩ := h
          refine gw_iald C hI lay_290 (j := (((32 : Int32) * a1) + a2).toNatClampNeg) rfl (v := M2.1 290 ((((32 : Int32) * a1) + a2).toNatClampNeg)) rfl g8 d_MD_node_86 ?_
          exact gr_i C hI h d_MD_node_87
        · have h := h.2 c7
          rcases Classical.em (a3 = 3) with c9 | c9
          · have h := h.1 c9
            refine lv_tableIn (tgt := 88) hx hb d_MD_node_21 (by rw [c9]; decide) (by rw [c9]; decide) (by rw [c9]; rfl) (by decide) ?_
            refine lv_aload_n hx hb d_MD_node_88 rfl (lv_at hl 1 rfl) ?_
            refine gw_get (v := .ref (ad 291)) C hI lay_273 i_MD rfl 21 (by decide) kw_3_92 rfl rfl d_MD_node_89 ?_
            refine lv_iload hx hb d_MD_node_92 (lv_at hl 0 rfl) ?_
            obtain ⟨g10, h⟩ := h
            refine gw_iald C hI lay_291 (j := (((32 : Int32) * a1) + a2).toNatClampNeg) rfl (v := M2.1 291 ((((32 : Int32) * a1) + a2).toNatClampNeg)) rfl g10 d_MD_node_94 ?_
            exact gr_i C hI h d_MD_node_95
          · have h := h.2 c9
            rcases Classical.em (a3 = 4) with c11 | c11
            · have h := h.1 c11
              refine lv_tableIn (tgt := 96) hx hb d_MD_node_21 (by rw [c11]; decide) (by rw [c11]; decide) (by rw [c11]; rfl) (by decide) ?_
              refine lv_aload_n hx hb d_MD_node_96 rfl (lv_at hl 1 rfl) ?_
              refine gw_get (v := .ref (ad 292)) C hI lay_273 i_MD rfl 22 (by decide) kw_3_93 rfl rfl d_MD_node_97 ?_
              refine lv_iload hx hb d_MD_node_100 (lv_at hl 0 rfl) ?_
              obtain ⟨g12, h⟩ := h
              refine gw_iald C hI lay_292 (j := (((32 : Int32) * a1) + a2).toNatClampNeg) rfl (v := M2.1 292 ((((32 : Int32) * a1) + a2).toNatClampNeg)) rfl g12 d_MD_node_102 ?_
              exact gr_i C hI h d_MD_node_103
            · have h := h.2 c11
              rcases Classical.em (a3 = 5) with c13 | c13
              · have h := h.1 c13
                refine lv_tableIn (tgt := 104) hx hb d_MD_node_21 (by rw [c13]; decide) (by rw [c13]; decide) (by rw [c13]; rfl) (by decide) ?_
                refine lv_aload_n hx hb d_MD_node_104 rfl (lv_at hl 1 rfl) ?_
                refine gw_get (v := .ref (ad 293)) C hI lay_273 i_MD rfl 23 (by decide) kw_3_94 rfl rfl d_MD_node_105 ?_
                refine lv_iload hx hb d_MD_node_108 (lv_at hl 0 rfl) ?_
                obtain ⟨g14, h⟩ := h
                refine gw_iald C hI lay_293 (j := (((32 : Int32) * a1) + a2).toNatClampNeg) rfl (v := M2.1 293 ((((32 : Int32) * a1) + a2).toNatClampNeg)) rfl g14 d_MD_node_110 ?_
                exact gr_i C hI h d_MD_node_111
              · have h := h.2 c13
                rcases Classical.em (a3 = 6) with c15 | c15
                · have h := h.1 c15
                  refine lv_tableIn (tgt := 112) hx hb d_MD_node_21 (by rw [c15]; decide) (by rw [c15]; decide) (by rw [c15]; rfl) (by decide) ?_
                  refine lv_aload_n hx hb d_MD_node_112 rfl (lv_at hl 1 rfl) ?_
                  refine gw_get (v := .ref (ad 294)) C hI lay_273 i_MD rfl 24 (by decide) kw_3_95 rfl rfl d_MD_node_113 ?_
                  refine lv_iload hx hb d_MD_node_116 (lv_at hl 0 rfl) ?_
                  obtain ⟨g16, h⟩ := h
                  refine gw_iald C hI lay_294 (j := (((32 : Int32) * a1) + a2).toNatClampNeg) rfl (v := M2.1 294 ((((32 : Int32) * a1) + a2).toNatClampNeg)) rfl g16 d_MD_node_118 ?_
                  exact gr_i C hI h d_MD_node_119
                · have h := h.2 c15
                  refine lv_tableOut (tgt := 120) hx hb d_MD_node_21 (by have := lv_neT (a := 0) c3 rfl; have := lv_neT (a := 1) c5 rfl; have := lv_neT (a := 2) c7 rfl; have := lv_neT (a := 3) c9 rfl; have := lv_neT (a := 4) c11 rfl; have := lv_neT (a := 5) c13 rfl; have := lv_neT (a := 6) c15 rfl; omega) (by decide) ?_
                  refine lv_bipush (v := (-2 : Int32)) hx hb d_MD_node_120 (by decide) ?_
                  exact gr_i C hI h d_MD_node_122
  · have h := h.2 c17
    refine lv_bipush (v := (-2 : Int32)) hx hb d_MD_node_9 (by decide) ?_
    exact gr_i C hI h d_MD_node_11
set_option maxHeartbeats 4000000 in
set_option maxRecDepth 100000 in
theorem c_MD_sum {l : Launch} {D : va_G} {cy : Nat → ClassId} {ad : Nat → Nat} (hj : gJ ad) {a1 : Int32} {a2 : Int32} {a3 : Int32} {M : gM} {Q : Int64 → gM → Prop} (h : wp_MD_sum Q a1 a2 a3 M) : Cl l y_MD_sum b_MD_sum 5 (some .long) rm_MD_sum D cy ad [.ref (ad 273), .int a1, .int a2, .int a3] M Q := by
  refine gm (by decide +kernel) hj (Nat.le_of_ble_eq_true rfl) (fun p e s m args below meth c ls C hl hI => ?_)
  have hl : lv_has ls 5 [(0, .ref (ad 273)), (1, .int a1), (2, .int a2), (3, .int a3)] := hl
  obtain ⟨hx, hb, hml, hown, hts, hr, hlk, hK, hja⟩ := id C
  refine lv_aload_n hx hb d_MD_sum_0 rfl (lv_at hl 0 rfl) ?_
  refine lv_iload_n hx hb d_MD_sum_1 rfl (lv_at hl 1 rfl) ?_
  refine lv_iload_n hx hb d_MD_sum_2 rfl (lv_at hl 2 rfl) ?_
  refine gw_Vi C hI hl.1 (As := [.int a1, .int a2]) (rest := []) (c_MD_isNode hja h) kV_MD_187 lay_273 rfl rfl ⟨rfl, rfl⟩ ⟨Nat.le_of_ble_eq_true rfl, Nat.le_of_ble_eq_true rfl⟩ rfl (Nat.le_of_ble_eq_true rfl) ⟨Nat.zero_le _, Nat.zero_le _⟩ d_MD_sum_3 (fun r1 M2 H locs h hI => ?_)
  refine lv_if_ne (tgt := 11) hx hb d_MD_sum_6 (by decide) (fun c11 => ?_) (fun c11 => ?_)
  · have h := h.1 c11
    refine lv_bipush (v := (32 : Int32)) hx hb d_MD_sum_11 (by decide) ?_
    refine lv_iload_n hx hb d_MD_sum_13 rfl (lv_at hl 1 rfl) ?_
    refine lv_imul hx hb d_MD_sum_14 ?_
    refine lv_iload_n hx hb d_MD_sum_15 rfl (lv_at hl 2 rfl) ?_
    refine lv_iadd hx hb d_MD_sum_16 ?_
    refine lv_istore (lv' := [(4, .int (((32 : Int32) * a1) + a2)), (0, .ref (ad 273)), (1, .int a1), (2, .int a2), (3, .int a3)]) hx hb d_MD_sum_17 hl (by decide) rfl (fun ls hl => ?_)
    refine lv_iload_n hx hb d_MD_sum_19 rfl (lv_at hl 4 rfl) ?_
    refine lv_if_ne (tgt := 33) hx hb d_MD_sum_20 (by decide) (fun c10 => ?_) (fun c10 => ?_)
    · have h := h.1 c10
      refine lv_iload_n hx hb d_MD_sum_33 rfl (lv_at hl 4 rfl) ?_
      refine lv_iconst (v := (1 : Int32)) hx hb d_MD_sum_34 (by decide) ?_
      refine lv_icmp_ne (tgt := 59) hx hb d_MD_sum_35 (by decide) (fun c8 => ?_) (fun c8 => ?_)
      · have h := h.1 c8
        refine lv_iload_n hx hb d_MD_sum_59 rfl (lv_at hl 4 rfl) ?_
        refine lv_iconst (v := (2 : Int32)) hx hb d_MD_sum_60 (by decide) ?_
        refine lv_icmp_ne (tgt := 74) hx hb d_MD_sum_61 (by decide) (fun c4 => ?_) (fun c4 => ?_)
        · have h := h.1 c4
          refine lv_lconst (v := 0) hx hb d_MD_sum_74 (by decide) ?_
          exact gr_l C hI h d_MD_sum_75
        · have h := h.2 c4
          refine lv_aload_n hx hb d_MD_sum_64 rfl (lv_at hl 1 rfl) ?_
          refine gw_get (v := .ref (ad 296)) C hI lay_273 i_MD rfl 26 (by decide) kw_3_97 rfl rfl d_MD_sum_65 ?_
          refine lv_iload hx hb d_MD_sum_68 (lv_at hl 0 rfl) ?_
          obtain ⟨g3, h⟩ := h
          refine gw_lald C hI lay_296 (j := (((32 : Int32) * a1) + a2).toNatClampNeg) rfl (v := M2.2 296 ((((32 : Int32) * a1) + a2).toNatClampNeg)) rfl g3 d_MD_sum_70 ?_
          refine lv_goto (tgt := 75) hx hb d_MD_sum_71 (by decide) ?_
          exact gr_l C hI h d_MD_sum_75
      · have h := h.2 c8
        refine lv_aload_n hx hb d_MD_sum_38 rfl (lv_at hl 1 rfl) ?_
        refine lv_aload_n hx hb d_MD_sum_39 rfl (lv_at hl 1 rfl) ?_
        refine gw_get (v := .ref (ad 295)) C hI lay_273 i_MD rfl 25 (by decide) kw_3_96 rfl rfl d_MD_sum_40 ?_
        refine lv_iload hx hb d_MD_sum_43 (lv_at hl 0 rfl) ?_
        obtain ⟨g5, h⟩ := h
        refine gw_lald C hI lay_295 (j := (((32 : Int32) * a1) + a2).toNatClampNeg) rfl (v := M2.2 295 ((((32 : Int32) * a1) + a2).toNatClampNeg)) rfl g5 d_MD_sum_45 ?_
        refine lv_aload_n hx hb d_MD_sum_46 rfl (lv_at hl 1 rfl) ?_
        refine gw_get (v := .ref (ad 293)) C hI lay_273 i_MD rfl 23 (by decide) kw_3_94 rfl rfl d_MD_sum_47 ?_
        refine lv_iload hx hb d_MD_sum_50 (lv_at hl 0 rfl) ?_
        refine gw_iald C hI lay_293 (j := (((32 : Int32) * a1) + a2).toNatClampNeg) rfl (v := M2.1 293 ((((32 : Int32) * a1) + a2).toNatClampNeg)) rfl g5 d_MD_sum_52 ?_
        refine gw_Vl C hI hl.1 (As := [.long (M2.2 295 ((((32 : Int32) * a1) + a2).toNatClampNeg)), .int (M2.1 293 ((((32 : Int32) * a1) + a2).toNatClampNeg))]) (rest := []) (c_MD_valueOf hja h) kV_MD_177 lay_273 rfl rfl ⟨rfl, rfl⟩ ⟨Nat.le_of_ble_eq_true rfl, Nat.le_of_ble_eq_true rfl⟩ rfl (Nat.le_of_ble_eq_true rfl) ⟨Nat.zero_le _, Nat.zero_le _⟩ d_MD_sum_53 (fun r6 M7 H locs h hI => ?_)
        refine lv_goto (tgt := 75) hx hb d_MD_sum_56 (by decide) ?_
        exact gr_l C hI h d_MD_sum_75
    · have h := h.2 c10
      refine lv_aload_n hx hb d_MD_sum_23 rfl (lv_at hl 1 rfl) ?_
      refine gw_get (v := .ref (ad 295)) C hI lay_273 i_MD rfl 25 (by decide) kw_3_96 rfl rfl d_MD_sum_24 ?_
      refine lv_iload hx hb d_MD_sum_27 (lv_at hl 0 rfl) ?_
      obtain ⟨g9, h⟩ := h
      refine gw_lald C hI lay_295 (j := (((32 : Int32) * a1) + a2).toNatClampNeg) rfl (v := M2.2 295 ((((32 : Int32) * a1) + a2).toNatClampNeg)) rfl g9 d_MD_sum_29 ?_
      refine lv_goto (tgt := 75) hx hb d_MD_sum_30 (by decide) ?_
      exact gr_l C hI h d_MD_sum_75
  · have h := h.2 c11
    refine lv_lconst (v := 0) hx hb d_MD_sum_9 (by decide) ?_
    exact gr_l C hI h d_MD_sum_10
set_option maxHeartbeats 4000000 in
set_option maxRecDepth 100000 in
theorem c_MD_size {l : Launch} {D : va_G} {cy : Nat → ClassId} {ad : Nat → Nat} (hj : gJ ad) {a1 : Int32} {M : gM} {Q : Int32 → gM → Prop} (h : wp_MD_size Q a1 M) : Ci l y_MD_size b_MD_size 2 (some .int) rm_MD_size D cy ad [.ref (ad 273), .int a1] M Q := by
  refine gm (by decide +kernel) hj (Nat.le_of_ble_eq_true rfl) (fun p e s m args below meth c ls C hl hI => ?_)
  have hl : lv_has ls 2 [(0, .ref (ad 273)), (1, .int a1)] := hl
  obtain ⟨hx, hb, hml, hown, hts, hr, hlk, hK, hja⟩ := id C
  refine lv_aload_n hx hb d_MD_size_0 rfl (lv_at hl 0 rfl) ?_
  refine lv_iload_n hx hb d_MD_size_1 rfl (lv_at hl 1 rfl) ?_
  refine gw_Vi C hI hl.1 (As := [.int a1]) (rest := []) (c_MD_isTree hja h) kV_MD_184 lay_273 rfl rfl ⟨rfl, rfl⟩ ⟨Nat.le_of_ble_eq_true rfl, Nat.le_of_ble_eq_true rfl⟩ rfl (Nat.le_of_ble_eq_true rfl) ⟨Nat.zero_le _, Nat.zero_le _⟩ d_MD_size_2 (fun r1 M2 H locs h hI => ?_)
  refine lv_if_eq (tgt := 17) hx hb d_MD_size_5 (by decide) (fun c4 => ?_) (fun c4 => ?_)
  · have h := h.1 c4
    refine lv_bipush (v := (-2 : Int32)) hx hb d_MD_size_17 (by decide) ?_
    exact gr_i C hI h d_MD_size_19
  · have h := h.2 c4
    refine lv_aload_n hx hb d_MD_size_8 rfl (lv_at hl 0 rfl) ?_
    refine gw_get (v := .ref (ad 287)) C hI lay_273 i_MD rfl 17 (by decide) kw_3_88 rfl rfl d_MD_size_9 ?_
    refine lv_iload_n hx hb d_MD_size_12 rfl (lv_at hl 1 rfl) ?_
    obtain ⟨g3, h⟩ := h
    refine gw_iald C hI lay_287 (j := a1.toNatClampNeg) rfl (v := M2.1 287 a1.toNatClampNeg) rfl g3 d_MD_size_13 ?_
    refine lv_goto (tgt := 19) hx hb d_MD_size_14 (by decide) ?_
    exact gr_i C hI h d_MD_size_19
set_option maxHeartbeats 4000000 in
set_option maxRecDepth 100000 in
theorem L_MD_leaf_34 {p : Program} {l : Launch} {e : Env} {s : State} {m : MethodId} {args : Array Value} {below : List Frame} {meth : Method} {c : Code} {D : va_G} {cy : Nat → ClassId} {ad : Nat → Nat} (C : Cx p s m args meth c b_MD_leaf 6 (some .int) "BoostForestsModel" D cy ad) {Q : Int32 → gM → Prop} {M : gM} {H : Heap} {locs : List Loc} {ls : Array Slot} (h : wp_MD_leaf_34 Q M) (hI : gI D cy ad s M H locs) (hl : lv_has ls 6 []) : W p l e rm_MD_leaf s m args below meth c H locs 0 0 (MQ below (va_Qi Q (gB D cy ad) (gA ad s.heap.size)) args s 0 0 (gA ad s.heap.size)) (F0 m 34 ls []) := by
  obtain ⟨hx, hb, hml, hown, hts, hr, hlk, hK, hja⟩ := id C
  refine lv_bipush (v := (-2 : Int32)) hx hb d_MD_leaf_34 (by decide) ?_
  exact gr_i C hI h d_MD_leaf_36
set_option maxHeartbeats 4000000 in
set_option maxRecDepth 100000 in
theorem c_MD_leaf {l : Launch} {D : va_G} {cy : Nat → ClassId} {ad : Nat → Nat} (hj : gJ ad) {a1 : Int32} {a2 : Int32} {a3 : Int32} {a4 : Int32} {a5 : Int32} {M : gM} {Q : Int32 → gM → Prop} (h : wp_MD_leaf Q a1 a2 a3 a4 a5 M) : Ci l y_MD_leaf b_MD_leaf 6 (some .int) rm_MD_leaf D cy ad [.ref (ad 273), .int a1, .int a2, .int a3, .int a4, .int a5] M Q := by
  refine gm (by decide +kernel) hj (Nat.le_of_ble_eq_true rfl) (fun p e s m args below meth c ls C hl hI => ?_)
  have hl : lv_has ls 6 [(0, .ref (ad 273)), (1, .int a1), (2, .int a2), (3, .int a3), (4, .int a4), (5, .int a5)] := hl
  obtain ⟨hx, hb, hml, hown, hts, hr, hlk, hK, hja⟩ := id C
  refine lv_aload_n hx hb d_MD_leaf_0 rfl (lv_at hl 0 rfl) ?_
  refine lv_iload_n hx hb d_MD_leaf_1 rfl (lv_at hl 1 rfl) ?_
  refine gw_Vi C hI hl.1 (As := [.int a1]) (rest := []) (c_MD_isTree hja h) kV_MD_184 lay_273 rfl rfl ⟨rfl, rfl⟩ ⟨Nat.le_of_ble_eq_true rfl, Nat.le_of_ble_eq_true rfl⟩ rfl (Nat.le_of_ble_eq_true rfl) ⟨Nat.zero_le _, Nat.zero_le _⟩ d_MD_leaf_2 (fun r1 M2 H locs h hI => ?_)
  refine lv_if_eq (tgt := 34) hx hb d_MD_leaf_5 (by decide) (fun c8 => ?_) (fun c8 => ?_)
  · have h := h.1 c8
    exact L_MD_leaf_34 C h hI (lv_sub hl [] rfl)
  · have h := h.2 c8
    refine lv_iload_n hx hb d_MD_leaf_8 rfl (lv_at hl 2 rfl) ?_
    refine lv_iload_n hx hb d_MD_leaf_9 rfl (lv_at hl 3 rfl) ?_
    refine lv_iload hx hb d_MD_leaf_10 (lv_at hl 4 rfl) ?_
    refine lv_iload hx hb d_MD_leaf_12 (lv_at hl 5 rfl) ?_
    refine gw_Si C hI hl.1 (As := [.int a2, .int a3, .int a4, .int a5]) (rest := []) (c_MD_areNumbers hja h) kS_MD_91 rfl ⟨rfl, rfl⟩ ⟨Nat.le_of_ble_eq_true rfl, Nat.le_of_ble_eq_true rfl⟩ rfl (Nat.le_of_ble_eq_true rfl) ⟨Nat.zero_le _, Nat.zero_le _⟩ d_MD_leaf_14 (fun r3 M4 H locs h hI => ?_)
    refine lv_if_eq (tgt := 34) hx hb d_MD_leaf_17 (by decide) (fun c7 => ?_) (fun c7 => ?_)
    · have h := h.1 c7
      exact L_MD_leaf_34 C h hI (lv_sub hl [] rfl)
    · have h := h.2 c7
      refine lv_aload_n hx hb d_MD_leaf_20 rfl (lv_at hl 0 rfl) ?_
      refine lv_iload_n hx hb d_MD_leaf_21 rfl (lv_at hl 1 rfl) ?_
      refine lv_iload_n hx hb d_MD_leaf_22 rfl (lv_at hl 2 rfl) ?_
      refine lv_iload_n hx hb d_MD_leaf_23 rfl (lv_at hl 3 rfl) ?_
      refine lv_iload hx hb d_MD_leaf_24 (lv_at hl 4 rfl) ?_
      refine lv_iload hx hb d_MD_leaf_26 (lv_at hl 5 rfl) ?_
      refine gw_Vi C hI hl.1 (As := [.int a1, .int a2, .int a3, .int a4, .int a5]) (rest := []) (c_MD_leafOf hja h) kV_MD_130 lay_273 rfl rfl ⟨rfl, rfl⟩ ⟨Nat.le_of_ble_eq_true rfl, Nat.le_of_ble_eq_true rfl⟩ rfl (Nat.le_of_ble_eq_true rfl) ⟨Nat.zero_le _, Nat.zero_le _⟩ d_MD_leaf_28 (fun r5 M6 H locs h hI => ?_)
      refine lv_goto (tgt := 36) hx hb d_MD_leaf_31 (by decide) ?_
      exact gr_i C hI h d_MD_leaf_36
set_option maxHeartbeats 4000000 in
set_option maxRecDepth 100000 in
theorem L_MD_answer_43 {p : Program} {l : Launch} {e : Env} {s : State} {m : MethodId} {args : Array Value} {below : List Frame} {meth : Method} {c : Code} {D : va_G} {cy : Nat → ClassId} {ad : Nat → Nat} (C : Cx p s m args meth c b_MD_answer 9 (some .long) "BoostForestsModel" D cy ad) {Q : Int64 → gM → Prop} (n : Nat) : ∀ (x1 : Int32) (x2 : Int32) (x3 : Int32) (x4 : Int32) (x5 : Int32) (x6 : Int64) (x8 : Int32) (M : gM) (H : Heap) (locs : List Loc) (ls : Array Slot), wp_MD_answer_43 Q n x1 x2 x3 x4 x5 x6 x8 M → gI D cy ad s M H locs → lv_has ls 9 [(0, .ref (ad 273)), (1, .int x1), (2, .int x2), (3, .int x3), (4, .int x4), (5, .int x5), (6, .long x6), (8, .int x8)] → W p l e rm_MD_answer s m args below meth c H locs 0 0 (MQ below (va_Ql Q (gB D cy ad) (gA ad s.heap.size)) args s 0 0 (gA ad s.heap.size)) (F0 m 43 ls []) := by
  obtain ⟨hx, hb, hml, hown, hts, hr, hlk, hK, hja⟩ := id C
  induction n with
  | zero => exact fun _ _ _ _ _ _ _ _ _ _ _ h _ _ => h.elim
  | succ n ih =>
    intro x1 x2 x3 x4 x5 x6 x8 M H locs ls h hI hl
    have h := h
    refine lv_iload hx hb d_MD_answer_43 (lv_at hl 7 rfl) ?_
    refine lv_iload_n hx hb d_MD_answer_45 rfl (lv_at hl 1 rfl) ?_
    refine lv_icmp_ge (tgt := 78) hx hb d_MD_answer_46 (by decide) (fun c5 => ?_) (fun c5 => ?_)
    · have h := h.1 c5
      refine lv_lload hx hb d_MD_answer_78 (lv_at hl 6 rfl) ?_
      exact gr_l C hI h d_MD_answer_80
    · have h := h.2 c5
      refine lv_lload hx hb d_MD_answer_49 (lv_at hl 6 rfl) ?_
      refine lv_aload_n hx hb d_MD_answer_51 rfl (lv_at hl 0 rfl) ?_
      refine lv_iload hx hb d_MD_answer_52 (lv_at hl 7 rfl) ?_
      refine lv_aload_n hx hb d_MD_answer_54 rfl (lv_at hl 0 rfl) ?_
      refine lv_iload hx hb d_MD_answer_55 (lv_at hl 7 rfl) ?_
      refine lv_iload_n hx hb d_MD_answer_57 rfl (lv_at hl 2 rfl) ?_
      refine lv_iload_n hx hb d_MD_answer_58 rfl (lv_at hl 3 rfl) ?_
      refine lv_iload hx hb d_MD_answer_59 (lv_at hl 4 rfl) ?_
      refine lv_iload hx hb d_MD_answer_61 (lv_at hl 5 rfl) ?_
      refine gw_Vi C hI hl.1 (As := [.int x8, .int x2, .int x3, .int x4, .int x5]) (rest := [.int x8, .ref (ad 273), .long x6]) (c_MD_leafOf hja h) kV_MD_130 lay_273 rfl rfl ⟨rfl, rfl⟩ ⟨Nat.le_of_ble_eq_true rfl, Nat.le_of_ble_eq_true rfl⟩ rfl (Nat.le_of_ble_eq_true rfl) ⟨Nat.zero_le _, Nat.zero_le _⟩ d_MD_answer_63 (fun r1 M2 H locs h hI => ?_)
      refine gw_Vl C hI hl.1 (As := [.int x8, .int r1]) (rest := [.long x6]) (c_MD_addOf hja h) kV_MD_133 lay_273 rfl rfl ⟨rfl, rfl⟩ ⟨Nat.le_of_ble_eq_true rfl, Nat.le_of_ble_eq_true rfl⟩ rfl (Nat.le_of_ble_eq_true rfl) ⟨Nat.zero_le _, Nat.zero_le _⟩ d_MD_answer_66 (fun r3 M4 H locs h hI => ?_)
      refine lv_ladd hx hb d_MD_answer_69 ?_
      refine lv_lstore (lv' := [(6, .long (x6 + r3)), (0, .ref (ad 273)), (1, .int x1), (2, .int x2), (3, .int x3), (4, .int x4), (5, .int x5), (8, .int x8)]) hx hb d_MD_answer_70 hl (by decide) rfl (fun ls hl => ?_)
      refine lv_iinc (v := x8 + 1) (lv' := [(8, .int (x8 + 1)), (6, .long (x6 + r3)), (0, .ref (ad 273)), (1, .int x1), (2, .int x2), (3, .int x3), (4, .int x4), (5, .int x5)]) hx hb d_MD_answer_72 hl (k := 7) rfl rfl (by decide) rfl (fun ls hl => ?_)
      refine lv_goto (tgt := 43) hx hb d_MD_answer_75 (by decide) ?_
      exact ih x1 x2 x3 x4 x5 (x6 + r3) (x8 + 1) M4 _ _ _ h hI (lv_sub hl [2, 3, 4, 5, 6, 7, 1, 0] rfl)
set_option maxHeartbeats 4000000 in
set_option maxRecDepth 100000 in
theorem L_MD_answer_24 {p : Program} {l : Launch} {e : Env} {s : State} {m : MethodId} {args : Array Value} {below : List Frame} {meth : Method} {c : Code} {D : va_G} {cy : Nat → ClassId} {ad : Nat → Nat} (C : Cx p s m args meth c b_MD_answer 9 (some .long) "BoostForestsModel" D cy ad) {Q : Int64 → gM → Prop} {M : gM} {H : Heap} {locs : List Loc} {ls : Array Slot} (h : wp_MD_answer_24 Q M) (hI : gI D cy ad s M H locs) (hl : lv_has ls 9 []) : W p l e rm_MD_answer s m args below meth c H locs 0 0 (MQ below (va_Ql Q (gB D cy ad) (gA ad s.heap.size)) args s 0 0 (gA ad s.heap.size)) (F0 m 24 ls []) := by
  obtain ⟨hx, hb, hml, hown, hts, hr, hlk, hK, hja⟩ := id C
  refine lv_lconst (v := 0) hx hb d_MD_answer_24 (by decide) ?_
  exact gr_l C hI h d_MD_answer_25
set_option maxHeartbeats 4000000 in
set_option maxRecDepth 100000 in
theorem c_MD_answer {l : Launch} {D : va_G} {cy : Nat → ClassId} {ad : Nat → Nat} (hj : gJ ad) {a1 : Int32} {a2 : Int32} {a3 : Int32} {a4 : Int32} {a5 : Int32} {M : gM} {Q : Int64 → gM → Prop} (h : wp_MD_answer Q a1 a2 a3 a4 a5 M) : Cl l y_MD_answer b_MD_answer 9 (some .long) rm_MD_answer D cy ad [.ref (ad 273), .int a1, .int a2, .int a3, .int a4, .int a5] M Q := by
  refine gm (by decide +kernel) hj (Nat.le_of_ble_eq_true rfl) (fun p e s m args below meth c ls C hl hI => ?_)
  have hl : lv_has ls 9 [(0, .ref (ad 273)), (1, .int a1), (2, .int a2), (3, .int a3), (4, .int a4), (5, .int a5)] := hl
  obtain ⟨hx, hb, hml, hown, hts, hr, hlk, hK, hja⟩ := id C
  refine lv_iload_n hx hb d_MD_answer_0 rfl (lv_at hl 1 rfl) ?_
  refine lv_if_lt (tgt := 24) hx hb d_MD_answer_1 (by decide) (fun c11 => ?_) (fun c11 => ?_)
  · have h := h.1 c11
    exact L_MD_answer_24 C h hI (lv_sub hl [] rfl)
  · have h := h.2 c11
    refine lv_iload_n hx hb d_MD_answer_4 rfl (lv_at hl 1 rfl) ?_
    refine lv_aload_n hx hb d_MD_answer_5 rfl (lv_at hl 0 rfl) ?_
    refine gw_get (v := .int (M.1 273 14)) C hI lay_273 i_MD rfl 14 (by decide) kw_3_85 rfl rfl d_MD_answer_6 ?_
    refine lv_icmp_gt (tgt := 24) hx hb d_MD_answer_9 (by decide) (fun c10 => ?_) (fun c10 => ?_)
    · have h := h.1 c10
      exact L_MD_answer_24 C h hI (lv_sub hl [] rfl)
    · have h := h.2 c10
      refine lv_iload_n hx hb d_MD_answer_12 rfl (lv_at hl 2 rfl) ?_
      refine lv_iload_n hx hb d_MD_answer_13 rfl (lv_at hl 3 rfl) ?_
      refine lv_iload hx hb d_MD_answer_14 (lv_at hl 4 rfl) ?_
      refine lv_iload hx hb d_MD_answer_16 (lv_at hl 5 rfl) ?_
      refine gw_Si C hI hl.1 (As := [.int a2, .int a3, .int a4, .int a5]) (rest := []) (c_MD_areNumbers hja h) kS_MD_91 rfl ⟨rfl, rfl⟩ ⟨Nat.le_of_ble_eq_true rfl, Nat.le_of_ble_eq_true rfl⟩ rfl (Nat.le_of_ble_eq_true rfl) ⟨Nat.zero_le _, Nat.zero_le _⟩ d_MD_answer_18 (fun r6 M7 H locs h hI => ?_)
      refine lv_if_ne (tgt := 26) hx hb d_MD_answer_21 (by decide) (fun c9 => ?_) (fun c9 => ?_)
      · have h := h.1 c9
        refine lv_ldc2 hx hb hown (hts _ kw_3_201) d_MD_answer_26 ?_
        refine lv_aload_n hx hb d_MD_answer_29 rfl (lv_at hl 0 rfl) ?_
        refine gw_get (v := .ref (ad 283)) C hI lay_273 i_MD rfl 12 (by decide) kw_3_83 rfl rfl d_MD_answer_30 ?_
        refine lv_bipush (v := (9 : Int32)) hx hb d_MD_answer_33 (by decide) ?_
        refine gw_iald C hI lay_283 (j := 9) (by decide) (v := M7.1 283 9) rfl (vi_lit (9 : Int32) 15 (by decide)) d_MD_answer_35 ?_
        refine lv_i2l hx hb d_MD_answer_36 rfl ?_
        refine lv_lmul hx hb d_MD_answer_37 ?_
        refine lv_lstore (lv' := [(6, .long ((256 : Int64) * ((M7.1 283 9).toInt64))), (0, .ref (ad 273)), (1, .int a1), (2, .int a2), (3, .int a3), (4, .int a4), (5, .int a5)]) hx hb d_MD_answer_38 hl (by decide) rfl (fun ls hl => ?_)
        refine lv_iconst (v := (0 : Int32)) hx hb d_MD_answer_40 (by decide) ?_
        refine lv_istore (lv' := [(8, .int (0 : Int32)), (6, .long ((256 : Int64) * ((M7.1 283 9).toInt64))), (0, .ref (ad 273)), (1, .int a1), (2, .int a2), (3, .int a3), (4, .int a4), (5, .int a5)]) hx hb d_MD_answer_41 hl (by decide) rfl (fun ls hl => ?_)
        obtain ⟨n8, h⟩ := h
        exact L_MD_answer_43 C n8 a1 a2 a3 a4 a5 ((256 : Int64) * ((M7.1 283 9).toInt64)) (0 : Int32) M7 _ _ _ h hI (lv_sub hl [2, 3, 4, 5, 6, 7, 1, 0] rfl)
      · have h := h.2 c9
        exact L_MD_answer_24 C h hI (lv_sub hl [] rfl)
set_option maxHeartbeats 4000000 in
set_option maxRecDepth 100000 in
theorem L_MD_loss_28 {p : Program} {l : Launch} {e : Env} {s : State} {m : MethodId} {args : Array Value} {below : List Frame} {meth : Method} {c : Code} {D : va_G} {cy : Nat → ClassId} {ad : Nat → Nat} (C : Cx p s m args meth c b_MD_loss 3 (some .long) "BoostForestsModel" D cy ad) {Q : Int64 → gM → Prop} {M : gM} {H : Heap} {locs : List Loc} {ls : Array Slot} (h : wp_MD_loss_28 Q M) (hI : gI D cy ad s M H locs) (hl : lv_has ls 3 []) : W p l e rm_MD_loss s m args below meth c H locs 0 0 (MQ below (va_Ql Q (gB D cy ad) (gA ad s.heap.size)) args s 0 0 (gA ad s.heap.size)) (F0 m 28 ls []) := by
  obtain ⟨hx, hb, hml, hown, hts, hr, hlk, hK, hja⟩ := id C
  refine lv_ldc2 hx hb hown (hts _ kw_4_50) d_MD_loss_28 ?_
  refine lv_goto (tgt := 45) hx hb d_MD_loss_31 (by decide) ?_
  exact gr_l C hI h d_MD_loss_45
set_option maxHeartbeats 4000000 in
set_option maxRecDepth 100000 in
theorem c_MD_loss {l : Launch} {D : va_G} {cy : Nat → ClassId} {ad : Nat → Nat} (hj : gJ ad) {a1 : Int32} {a2 : Int32} {M : gM} {Q : Int64 → gM → Prop} (h : wp_MD_loss Q a1 a2 M) : Cl l y_MD_loss b_MD_loss 3 (some .long) rm_MD_loss D cy ad [.ref (ad 273), .int a1, .int a2] M Q := by
  refine gm (by decide +kernel) hj (Nat.le_of_ble_eq_true rfl) (fun p e s m args below meth c ls C hl hI => ?_)
  have hl : lv_has ls 3 [(0, .ref (ad 273)), (1, .int a1), (2, .int a2)] := hl
  obtain ⟨hx, hb, hml, hown, hts, hr, hlk, hK, hja⟩ := id C
  refine lv_aload_n hx hb d_MD_loss_0 rfl (lv_at hl 0 rfl) ?_
  refine gw_get (v := .int (M.1 273 6)) C hI lay_273 i_MD rfl 6 (by decide) kw_3_77 rfl rfl d_MD_loss_1 ?_
  refine lv_if_eq (tgt := 28) hx hb d_MD_loss_4 (by decide) (fun c6 => ?_) (fun c6 => ?_)
  · have h := h.1 c6
    exact L_MD_loss_28 C h hI (lv_sub hl [] rfl)
  · have h := h.2 c6
    refine lv_iload_n hx hb d_MD_loss_7 rfl (lv_at hl 1 rfl) ?_
    refine lv_if_lt (tgt := 28) hx hb d_MD_loss_8 (by decide) (fun c5 => ?_) (fun c5 => ?_)
    · have h := h.1 c5
      exact L_MD_loss_28 C h hI (lv_sub hl [] rfl)
    · have h := h.2 c5
      refine lv_iload_n hx hb d_MD_loss_11 rfl (lv_at hl 1 rfl) ?_
      refine lv_aload_n hx hb d_MD_loss_12 rfl (lv_at hl 0 rfl) ?_
      refine gw_get (v := .int (M.1 273 14)) C hI lay_273 i_MD rfl 14 (by decide) kw_3_85 rfl rfl d_MD_loss_13 ?_
      refine lv_icmp_gt (tgt := 28) hx hb d_MD_loss_16 (by decide) (fun c4 => ?_) (fun c4 => ?_)
      · have h := h.1 c4
        exact L_MD_loss_28 C h hI (lv_sub hl [] rfl)
      · have h := h.2 c4
        refine lv_iload_n hx hb d_MD_loss_19 rfl (lv_at hl 2 rfl) ?_
        refine lv_if_lt (tgt := 28) hx hb d_MD_loss_20 (by decide) (fun c3 => ?_) (fun c3 => ?_)
        · have h := h.1 c3
          exact L_MD_loss_28 C h hI (lv_sub hl [] rfl)
        · have h := h.2 c3
          refine lv_iload_n hx hb d_MD_loss_23 rfl (lv_at hl 2 rfl) ?_
          refine lv_iconst (v := (1 : Int32)) hx hb d_MD_loss_24 (by decide) ?_
          refine lv_icmp_le (tgt := 34) hx hb d_MD_loss_25 (by decide) (fun c2 => ?_) (fun c2 => ?_)
          · have h := h.1 c2
            refine lv_aload_n hx hb d_MD_loss_34 rfl (lv_at hl 0 rfl) ?_
            refine gw_get (v := .ref (ad 285)) C hI lay_273 i_MD rfl 15 (by decide) kw_3_86 rfl rfl d_MD_loss_35 ?_
            refine lv_bipush (v := (13 : Int32)) hx hb d_MD_loss_38 (by decide) ?_
            refine lv_iload_n hx hb d_MD_loss_40 rfl (lv_at hl 2 rfl) ?_
            refine lv_imul hx hb d_MD_loss_41 ?_
            refine lv_iload_n hx hb d_MD_loss_42 rfl (lv_at hl 1 rfl) ?_
            refine lv_iadd hx hb d_MD_loss_43 ?_
            obtain ⟨g1, h⟩ := h
            refine gw_lald C hI lay_285 (j := (((13 : Int32) * a2) + a1).toNatClampNeg) rfl (v := M.2 285 ((((13 : Int32) * a2) + a1).toNatClampNeg)) rfl g1 d_MD_loss_44 ?_
            exact gr_l C hI h d_MD_loss_45
          · have h := h.2 c2
            exact L_MD_loss_28 C h hI (lv_sub hl [] rfl)
set_option maxHeartbeats 4000000 in
set_option maxRecDepth 100000 in
theorem L_MD_best_108 {p : Program} {l : Launch} {e : Env} {s : State} {m : MethodId} {args : Array Value} {below : List Frame} {meth : Method} {c : Code} {D : va_G} {cy : Nat → ClassId} {ad : Nat → Nat} (C : Cx p s m args meth c b_MD_best 4 (some .int) "BoostForestsModel" D cy ad) {Q : Int32 → gM → Prop} {x2 : Int32} {M : gM} {H : Heap} {locs : List Loc} {ls : Array Slot} (h : wp_MD_best_108 Q x2 M) (hI : gI D cy ad s M H locs) (hl : lv_has ls 4 [(2, .int x2)]) : W p l e rm_MD_best s m args below meth c H locs 0 0 (MQ below (va_Qi Q (gB D cy ad) (gA ad s.heap.size)) args s 0 0 (gA ad s.heap.size)) (F0 m 108 ls []) := by
  obtain ⟨hx, hb, hml, hown, hts, hr, hlk, hK, hja⟩ := id C
  refine lv_iload_n hx hb d_MD_best_108 rfl (lv_at hl 0 rfl) ?_
  exact gr_i C hI h d_MD_best_109
set_option maxHeartbeats 4000000 in
set_option maxRecDepth 100000 in
theorem L_MD_best_101 {p : Program} {l : Launch} {e : Env} {s : State} {m : MethodId} {args : Array Value} {below : List Frame} {meth : Method} {c : Code} {D : va_G} {cy : Nat → ClassId} {ad : Nat → Nat} (C : Cx p s m args meth c b_MD_best 4 (some .int) "BoostForestsModel" D cy ad) {Q : Int32 → gM → Prop} {x1 : Int32} {x3 : Int32} {s0 : Int32} {k62 : Int32 → Int32 → Int32 → gM → Prop} {M : gM} {H : Heap} {locs : List Loc} {ls : Array Slot} (K62 : ∀ (x1 : Int32) (x2 : Int32) (x3 : Int32) (M : gM) (H : Heap) (locs : List Loc) (ls : Array Slot), k62 x1 x2 x3 M → gI D cy ad s M H locs → lv_has ls 4 [(0, .ref (ad 273)), (1, .int x1), (2, .int x2), (3, .int x3)] → W p l e rm_MD_best s m args below meth c H locs 0 0 (MQ below (va_Qi Q (gB D cy ad) (gA ad s.heap.size)) args s 0 0 (gA ad s.heap.size)) (F0 m 62 ls [])) (h : wp_MD_best_101 Q k62 x1 x3 s0 M) (hI : gI D cy ad s M H locs) (hl : lv_has ls 4 [(0, .ref (ad 273)), (1, .int x1), (3, .int x3)]) : W p l e rm_MD_best s m args below meth c H locs 0 0 (MQ below (va_Qi Q (gB D cy ad) (gA ad s.heap.size)) args s 0 0 (gA ad s.heap.size)) (F0 m 101 ls [.int s0]) := by
  obtain ⟨hx, hb, hml, hown, hts, hr, hlk, hK, hja⟩ := id C
  refine lv_istore_n (lv' := [(2, .int s0), (0, .ref (ad 273)), (1, .int x1), (3, .int x3)]) hx hb d_MD_best_101 rfl hl (by decide) rfl (fun ls hl => ?_)
  refine lv_iinc (v := x3 + 1) (lv' := [(3, .int (x3 + 1)), (2, .int s0), (0, .ref (ad 273)), (1, .int x1)]) hx hb d_MD_best_102 hl (k := 3) rfl rfl (by decide) rfl (fun ls hl => ?_)
  refine lv_goto (tgt := 62) hx hb d_MD_best_105 (by decide) ?_
  exact K62 x1 s0 (x3 + 1) M _ _ _ h hI (lv_sub hl [2, 3, 1, 0] rfl)
set_option maxHeartbeats 4000000 in
set_option maxRecDepth 100000 in
theorem L_MD_best_62 {p : Program} {l : Launch} {e : Env} {s : State} {m : MethodId} {args : Array Value} {below : List Frame} {meth : Method} {c : Code} {D : va_G} {cy : Nat → ClassId} {ad : Nat → Nat} (C : Cx p s m args meth c b_MD_best 4 (some .int) "BoostForestsModel" D cy ad) {Q : Int32 → gM → Prop} (n : Nat) : ∀ (x1 : Int32) (x2 : Int32) (x3 : Int32) (M : gM) (H : Heap) (locs : List Loc) (ls : Array Slot), wp_MD_best_62 Q n x1 x2 x3 M → gI D cy ad s M H locs → lv_has ls 4 [(0, .ref (ad 273)), (1, .int x1), (2, .int x2), (3, .int x3)] → W p l e rm_MD_best s m args below meth c H locs 0 0 (MQ below (va_Qi Q (gB D cy ad) (gA ad s.heap.size)) args s 0 0 (gA ad s.heap.size)) (F0 m 62 ls []) := by
  obtain ⟨hx, hb, hml, hown, hts, hr, hlk, hK, hja⟩ := id C
  induction n with
  | zero => exact fun _ _ _ _ _ _ _ h _ _ => h.elim
  | succ n ih =>
    intro x1 x2 x3 M H locs ls h hI hl
    have h := h
    refine lv_iload_n hx hb d_MD_best_62 rfl (lv_at hl 3 rfl) ?_
    refine lv_aload_n hx hb d_MD_best_63 rfl (lv_at hl 0 rfl) ?_
    refine gw_get (v := .int (M.1 273 14)) C hI lay_273 i_MD rfl 14 (by decide) kw_3_85 rfl rfl d_MD_best_64 ?_
    refine lv_icmp_gt (tgt := 108) hx hb d_MD_best_67 (by decide) (fun c5 => ?_) (fun c5 => ?_)
    · have h := h.1 c5
      exact L_MD_best_108 C h hI (lv_sub hl [2] rfl)
    · have h := h.2 c5
      refine lv_iload_n hx hb d_MD_best_70 rfl (lv_at hl 1 rfl) ?_
      refine lv_if_eq (tgt := 108) hx hb d_MD_best_71 (by decide) (fun c4 => ?_) (fun c4 => ?_)
      · have h := h.1 c4
        exact L_MD_best_108 C h hI (lv_sub hl [2] rfl)
      · have h := h.2 c4
        refine lv_aload_n hx hb d_MD_best_74 rfl (lv_at hl 0 rfl) ?_
        refine gw_get (v := .ref (ad 285)) C hI lay_273 i_MD rfl 15 (by decide) kw_3_86 rfl rfl d_MD_best_75 ?_
        refine lv_bipush (v := (13 : Int32)) hx hb d_MD_best_78 (by decide) ?_
        refine lv_iload_n hx hb d_MD_best_80 rfl (lv_at hl 3 rfl) ?_
        refine lv_iadd hx hb d_MD_best_81 ?_
        obtain ⟨g1, h⟩ := h
        refine gw_lald C hI lay_285 (j := ((13 : Int32) + x3).toNatClampNeg) rfl (v := M.2 285 (((13 : Int32) + x3).toNatClampNeg)) rfl g1 d_MD_best_82 ?_
        refine lv_aload_n hx hb d_MD_best_83 rfl (lv_at hl 0 rfl) ?_
        refine gw_get (v := .ref (ad 285)) C hI lay_273 i_MD rfl 15 (by decide) kw_3_86 rfl rfl d_MD_best_84 ?_
        refine lv_bipush (v := (13 : Int32)) hx hb d_MD_best_87 (by decide) ?_
        refine lv_iload_n hx hb d_MD_best_89 rfl (lv_at hl 2 rfl) ?_
        refine lv_iadd hx hb d_MD_best_90 ?_
        obtain ⟨g2, h⟩ := h
        refine gw_lald C hI lay_285 (j := ((13 : Int32) + x2).toNatClampNeg) rfl (v := M.2 285 (((13 : Int32) + x2).toNatClampNeg)) rfl g2 d_MD_best_91 ?_
        refine gl_ge (tgt := 100) C d_MD_best_92 d_MD_best_93 (by decide) (fun c3 => ?_) (fun c3 => ?_)
        · have h := h.1 c3
          refine lv_iload_n hx hb d_MD_best_100 rfl (lv_at hl 2 rfl) ?_
          exact L_MD_best_101 C ih h hI (lv_sub hl [0, 1, 3] rfl)
        · have h := h.2 c3
          refine lv_iload_n hx hb d_MD_best_96 rfl (lv_at hl 3 rfl) ?_
          refine lv_goto (tgt := 101) hx hb d_MD_best_97 (by decide) ?_
          exact L_MD_best_101 C ih h hI (lv_sub hl [0, 1, 3] rfl)
set_option maxHeartbeats 4000000 in
set_option maxRecDepth 100000 in
theorem L_MD_best_59 {p : Program} {l : Launch} {e : Env} {s : State} {m : MethodId} {args : Array Value} {below : List Frame} {meth : Method} {c : Code} {D : va_G} {cy : Nat → ClassId} {ad : Nat → Nat} (C : Cx p s m args meth c b_MD_best 4 (some .int) "BoostForestsModel" D cy ad) {Q : Int32 → gM → Prop} {x1 : Int32} {s0 : Int32} {M : gM} {H : Heap} {locs : List Loc} {ls : Array Slot} (h : wp_MD_best_59 Q x1 s0 M) (hI : gI D cy ad s M H locs) (hl : lv_has ls 4 [(0, .ref (ad 273)), (1, .int x1)]) : W p l e rm_MD_best s m args below meth c H locs 0 0 (MQ below (va_Qi Q (gB D cy ad) (gA ad s.heap.size)) args s 0 0 (gA ad s.heap.size)) (F0 m 59 ls [.int s0]) := by
  obtain ⟨hx, hb, hml, hown, hts, hr, hlk, hK, hja⟩ := id C
  refine lv_istore_n (lv' := [(2, .int s0), (0, .ref (ad 273)), (1, .int x1)]) hx hb d_MD_best_59 rfl hl (by decide) rfl (fun ls hl => ?_)
  refine lv_iconst (v := (0 : Int32)) hx hb d_MD_best_60 (by decide) ?_
  refine lv_istore_n (lv' := [(3, .int (0 : Int32)), (2, .int s0), (0, .ref (ad 273)), (1, .int x1)]) hx hb d_MD_best_61 rfl hl (by decide) rfl (fun ls hl => ?_)
  obtain ⟨n6, h⟩ := h
  exact L_MD_best_62 C n6 x1 s0 (0 : Int32) M _ _ _ h hI (lv_sub hl [2, 3, 1, 0] rfl)
set_option maxHeartbeats 4000000 in
set_option maxRecDepth 100000 in
theorem L_MD_best_40 {p : Program} {l : Launch} {e : Env} {s : State} {m : MethodId} {args : Array Value} {below : List Frame} {meth : Method} {c : Code} {D : va_G} {cy : Nat → ClassId} {ad : Nat → Nat} (C : Cx p s m args meth c b_MD_best 4 (some .int) "BoostForestsModel" D cy ad) {Q : Int32 → gM → Prop} {x2 : Int32} {s0 : Int32} {k14 : Int32 → Int32 → gM → Prop} {M : gM} {H : Heap} {locs : List Loc} {ls : Array Slot} (K14 : ∀ (x1 : Int32) (x2 : Int32) (M : gM) (H : Heap) (locs : List Loc) (ls : Array Slot), k14 x1 x2 M → gI D cy ad s M H locs → lv_has ls 4 [(0, .ref (ad 273)), (1, .int x1), (2, .int x2)] → W p l e rm_MD_best s m args below meth c H locs 0 0 (MQ below (va_Qi Q (gB D cy ad) (gA ad s.heap.size)) args s 0 0 (gA ad s.heap.size)) (F0 m 14 ls [])) (h : wp_MD_best_40 Q k14 x2 s0 M) (hI : gI D cy ad s M H locs) (hl : lv_has ls 4 [(0, .ref (ad 273)), (2, .int x2)]) : W p l e rm_MD_best s m args below meth c H locs 0 0 (MQ below (va_Qi Q (gB D cy ad) (gA ad s.heap.size)) args s 0 0 (gA ad s.heap.size)) (F0 m 40 ls [.int s0]) := by
  obtain ⟨hx, hb, hml, hown, hts, hr, hlk, hK, hja⟩ := id C
  refine lv_istore_n (lv' := [(1, .int s0), (0, .ref (ad 273)), (2, .int x2)]) hx hb d_MD_best_40 rfl hl (by decide) rfl (fun ls hl => ?_)
  refine lv_iinc (v := x2 + 1) (lv' := [(2, .int (x2 + 1)), (1, .int s0), (0, .ref (ad 273))]) hx hb d_MD_best_41 hl (k := 2) rfl rfl (by decide) rfl (fun ls hl => ?_)
  refine lv_goto (tgt := 14) hx hb d_MD_best_44 (by decide) ?_
  exact K14 s0 (x2 + 1) M _ _ _ h hI (lv_sub hl [2, 1, 0] rfl)
set_option maxHeartbeats 4000000 in
set_option maxRecDepth 100000 in
theorem L_MD_best_35 {p : Program} {l : Launch} {e : Env} {s : State} {m : MethodId} {args : Array Value} {below : List Frame} {meth : Method} {c : Code} {D : va_G} {cy : Nat → ClassId} {ad : Nat → Nat} (C : Cx p s m args meth c b_MD_best 4 (some .int) "BoostForestsModel" D cy ad) {Q : Int32 → gM → Prop} {x2 : Int32} {k14 : Int32 → Int32 → gM → Prop} {M : gM} {H : Heap} {locs : List Loc} {ls : Array Slot} (K14 : ∀ (x1 : Int32) (x2 : Int32) (M : gM) (H : Heap) (locs : List Loc) (ls : Array Slot), k14 x1 x2 M → gI D cy ad s M H locs → lv_has ls 4 [(0, .ref (ad 273)), (1, .int x1), (2, .int x2)] → W p l e rm_MD_best s m args below meth c H locs 0 0 (MQ below (va_Qi Q (gB D cy ad) (gA ad s.heap.size)) args s 0 0 (gA ad s.heap.size)) (F0 m 14 ls [])) (h : wp_MD_best_35 Q k14 x2 M) (hI : gI D cy ad s M H locs) (hl : lv_has ls 4 [(0, .ref (ad 273)), (2, .int x2)]) : W p l e rm_MD_best s m args below meth c H locs 0 0 (MQ below (va_Qi Q (gB D cy ad) (gA ad s.heap.size)) args s 0 0 (gA ad s.heap.size)) (F0 m 35 ls []) := by
  obtain ⟨hx, hb, hml, hown, hts, hr, hlk, hK, hja⟩ := id C
  refine lv_iconst (v := (1 : Int32)) hx hb d_MD_best_35 (by decide) ?_
  refine lv_goto (tgt := 40) hx hb d_MD_best_36 (by decide) ?_
  exact L_MD_best_40 C K14 h hI (lv_sub hl [0, 1] rfl)
set_option maxHeartbeats 4000000 in
set_option maxRecDepth 100000 in
theorem L_MD_best_14 {p : Program} {l : Launch} {e : Env} {s : State} {m : MethodId} {args : Array Value} {below : List Frame} {meth : Method} {c : Code} {D : va_G} {cy : Nat → ClassId} {ad : Nat → Nat} (C : Cx p s m args meth c b_MD_best 4 (some .int) "BoostForestsModel" D cy ad) {Q : Int32 → gM → Prop} (n : Nat) : ∀ (x1 : Int32) (x2 : Int32) (M : gM) (H : Heap) (locs : List Loc) (ls : Array Slot), wp_MD_best_14 Q n x1 x2 M → gI D cy ad s M H locs → lv_has ls 4 [(0, .ref (ad 273)), (1, .int x1), (2, .int x2)] → W p l e rm_MD_best s m args below meth c H locs 0 0 (MQ below (va_Qi Q (gB D cy ad) (gA ad s.heap.size)) args s 0 0 (gA ad s.heap.size)) (F0 m 14 ls []) := by
  obtain ⟨hx, hb, hml, hown, hts, hr, hlk, hK, hja⟩ := id C
  induction n with
  | zero => exact fun _ _ _ _ _ _ h _ _ => h.elim
  | succ n ih =>
    intro x1 x2 M H locs ls h hI hl
    have h := h
    refine lv_iload_n hx hb d_MD_best_14 rfl (lv_at hl 2 rfl) ?_
    refine lv_aload_n hx hb d_MD_best_15 rfl (lv_at hl 0 rfl) ?_
    refine gw_get (v := .int (M.1 273 7)) C hI lay_273 i_MD rfl 7 (by decide) kw_3_78 rfl rfl d_MD_best_16 ?_
    refine lv_icmp_ge (tgt := 47) hx hb d_MD_best_19 (by decide) (fun c11 => ?_) (fun c11 => ?_)
    · have h := h.1 c11
      refine lv_iload_n hx hb d_MD_best_47 rfl (lv_at hl 1 rfl) ?_
      refine lv_if_eq (tgt := 55) hx hb d_MD_best_48 (by decide) (fun c7 => ?_) (fun c7 => ?_)
      · have h := h.1 c7
        refine lv_aload_n hx hb d_MD_best_55 rfl (lv_at hl 0 rfl) ?_
        refine gw_get (v := .int (M.1 273 14)) C hI lay_273 i_MD rfl 14 (by decide) kw_3_85 rfl rfl d_MD_best_56 ?_
        exact L_MD_best_59 C h hI (lv_sub hl [0, 1] rfl)
      · have h := h.2 c7
        refine lv_iconst (v := (0 : Int32)) hx hb d_MD_best_51 (by decide) ?_
        refine lv_goto (tgt := 59) hx hb d_MD_best_52 (by decide) ?_
        exact L_MD_best_59 C h hI (lv_sub hl [0, 1] rfl)
    · have h := h.2 c11
      refine lv_iload_n hx hb d_MD_best_22 rfl (lv_at hl 1 rfl) ?_
      refine lv_if_ne (tgt := 35) hx hb d_MD_best_23 (by decide) (fun c10 => ?_) (fun c10 => ?_)
      · have h := h.1 c10
        exact L_MD_best_35 C ih h hI (lv_sub hl [0, 2] rfl)
      · have h := h.2 c10
        refine lv_aload_n hx hb d_MD_best_26 rfl (lv_at hl 0 rfl) ?_
        refine gw_get (v := .ref (ad 282)) C hI lay_273 i_MD rfl 11 (by decide) kw_3_82 rfl rfl d_MD_best_27 ?_
        refine lv_iload_n hx hb d_MD_best_30 rfl (lv_at hl 2 rfl) ?_
        obtain ⟨g8, h⟩ := h
        refine gw_zald C hI lay_282 (j := x2.toNatClampNeg) rfl (v := M.1 282 x2.toNatClampNeg) rfl g8 d_MD_best_31 ?_
        refine lv_if_eq (tgt := 39) hx hb d_MD_best_32 (by decide) (fun c9 => ?_) (fun c9 => ?_)
        · have h := h.1 c9
          refine lv_iconst (v := (0 : Int32)) hx hb d_MD_best_39 (by decide) ?_
          exact L_MD_best_40 C ih h hI (lv_sub hl [0, 2] rfl)
        · have h := h.2 c9
          exact L_MD_best_35 C ih h hI (lv_sub hl [0, 2] rfl)
set_option maxHeartbeats 4000000 in
set_option maxRecDepth 100000 in
theorem c_MD_best {l : Launch} {D : va_G} {cy : Nat → ClassId} {ad : Nat → Nat} (hj : gJ ad) {M : gM} {Q : Int32 → gM → Prop} (h : wp_MD_best Q M) : Ci l y_MD_best b_MD_best 4 (some .int) rm_MD_best D cy ad [.ref (ad 273)] M Q := by
  refine gm (by decide +kernel) hj (Nat.le_of_ble_eq_true rfl) (fun p e s m args below meth c ls C hl hI => ?_)
  have hl : lv_has ls 4 [(0, .ref (ad 273))] := hl
  obtain ⟨hx, hb, hml, hown, hts, hr, hlk, hK, hja⟩ := id C
  refine lv_aload_n hx hb d_MD_best_0 rfl (lv_at hl 0 rfl) ?_
  refine gw_get (v := .int (M.1 273 6)) C hI lay_273 i_MD rfl 6 (by decide) kw_3_77 rfl rfl d_MD_best_1 ?_
  refine lv_if_ne (tgt := 10) hx hb d_MD_best_4 (by decide) (fun c13 => ?_) (fun c13 => ?_)
  · have h := h.1 c13
    refine lv_iconst (v := (0 : Int32)) hx hb d_MD_best_10 (by decide) ?_
    refine lv_istore_n (lv' := [(1, .int (0 : Int32)), (0, .ref (ad 273))]) hx hb d_MD_best_11 rfl hl (by decide) rfl (fun ls hl => ?_)
    refine lv_iconst (v := (0 : Int32)) hx hb d_MD_best_12 (by decide) ?_
    refine lv_istore_n (lv' := [(2, .int (0 : Int32)), (1, .int (0 : Int32)), (0, .ref (ad 273))]) hx hb d_MD_best_13 rfl hl (by decide) rfl (fun ls hl => ?_)
    obtain ⟨n12, h⟩ := h
    exact L_MD_best_14 C n12 (0 : Int32) (0 : Int32) M _ _ _ h hI (lv_sub hl [2, 1, 0] rfl)
  · have h := h.2 c13
    refine lv_bipush (v := (-2 : Int32)) hx hb d_MD_best_7 (by decide) ?_
    exact gr_i C hI h d_MD_best_9
set_option maxHeartbeats 4000000 in
set_option maxRecDepth 100000 in
theorem L_MD_without_116 {p : Program} {l : Launch} {e : Env} {s : State} {m : MethodId} {args : Array Value} {below : List Frame} {meth : Method} {c : Code} {D : va_G} {cy : Nat → ClassId} {ad : Nat → Nat} (C : Cx p s m args meth c b_MD_without 5 (some .long) "BoostForestsModel" D cy ad) {Q : Int64 → gM → Prop} {x1 : Int32} {x4 : Int32} {s0 : Int64} {s1 : Int64} {k37 : Int32 → Int64 → Int32 → gM → Prop} {M : gM} {H : Heap} {locs : List Loc} {ls : Array Slot} (K37 : ∀ (x1 : Int32) (x2 : Int64) (x4 : Int32) (M : gM) (H : Heap) (locs : List Loc) (ls : Array Slot), k37 x1 x2 x4 M → gI D cy ad s M H locs → lv_has ls 5 [(0, .ref (ad 273)), (1, .int x1), (2, .long x2), (4, .int x4)] → W p l e rm_MD_without s m args below meth c H locs 0 0 (MQ below (va_Ql Q (gB D cy ad) (gA ad s.heap.size)) args s 0 0 (gA ad s.heap.size)) (F0 m 37 ls [])) (h : wp_MD_without_116 Q k37 x1 x4 s0 s1 M) (hI : gI D cy ad s M H locs) (hl : lv_has ls 5 [(0, .ref (ad 273)), (1, .int x1), (4, .int x4)]) : W p l e rm_MD_without s m args below meth c H locs 0 0 (MQ below (va_Ql Q (gB D cy ad) (gA ad s.heap.size)) args s 0 0 (gA ad s.heap.size)) (F0 m 116 ls [.long s0, .long s1]) := by
  obtain ⟨hx, hb, hml, hown, hts, hr, hlk, hK, hja⟩ := id C
  refine lv_ladd hx hb d_MD_without_116 ?_
  refine lv_lstore_n (lv' := [(2, .long (s1 + s0)), (0, .ref (ad 273)), (1, .int x1), (4, .int x4)]) hx hb d_MD_without_117 rfl hl (by decide) rfl (fun ls hl => ?_)
  refine lv_iinc (v := x4 + 1) (lv' := [(4, .int (x4 + 1)), (2, .long (s1 + s0)), (0, .ref (ad 273)), (1, .int x1)]) hx hb d_MD_without_118 hl (k := 3) rfl rfl (by decide) rfl (fun ls hl => ?_)
  refine lv_goto (tgt := 37) hx hb d_MD_without_121 (by decide) ?_
  exact K37 x1 (s1 + s0) (x4 + 1) M _ _ _ h hI (lv_sub hl [2, 3, 1, 0] rfl)
set_option maxHeartbeats 4000000 in
set_option maxRecDepth 100000 in
theorem L_MD_without_37 {p : Program} {l : Launch} {e : Env} {s : State} {m : MethodId} {args : Array Value} {below : List Frame} {meth : Method} {c : Code} {D : va_G} {cy : Nat → ClassId} {ad : Nat → Nat} (C : Cx p s m args meth c b_MD_without 5 (some .long) "BoostForestsModel" D cy ad) {Q : Int64 → gM → Prop} (n : Nat) : ∀ (x1 : Int32) (x2 : Int64) (x4 : Int32) (M : gM) (H : Heap) (locs : List Loc) (ls : Array Slot), wp_MD_without_37 Q n x1 x2 x4 M → gI D cy ad s M H locs → lv_has ls 5 [(0, .ref (ad 273)), (1, .int x1), (2, .long x2), (4, .int x4)] → W p l e rm_MD_without s m args below meth c H locs 0 0 (MQ below (va_Ql Q (gB D cy ad) (gA ad s.heap.size)) args s 0 0 (gA ad s.heap.size)) (F0 m 37 ls []) := by
  obtain ⟨hx, hb, hml, hown, hts, hr, hlk, hK, hja⟩ := id C
  induction n with
  | zero => exact fun _ _ _ _ _ _ _ h _ _ => h.elim
  | succ n ih =>
    intro x1 x2 x4 M H locs ls h hI hl
    have h := h
    refine lv_iload hx hb d_MD_without_37 (lv_at hl 3 rfl) ?_
    refine lv_aload_n hx hb d_MD_without_39 rfl (lv_at hl 0 rfl) ?_
    refine gw_get (v := .int (M.1 273 14)) C hI lay_273 i_MD rfl 14 (by decide) kw_3_85 rfl rfl d_MD_without_40 ?_
    refine lv_icmp_ge (tgt := 124) hx hb d_MD_without_43 (by decide) (fun c11 => ?_) (fun c11 => ?_)
    · have h := h.1 c11
      refine lv_lload_n hx hb d_MD_without_124 rfl (lv_at hl 2 rfl) ?_
      exact gr_l C hI h d_MD_without_125
    · have h := h.2 c11
      refine lv_lload_n hx hb d_MD_without_46 rfl (lv_at hl 2 rfl) ?_
      refine lv_aload_n hx hb d_MD_without_47 rfl (lv_at hl 0 rfl) ?_
      refine gw_get (v := .ref (ad 286)) C hI lay_273 i_MD rfl 16 (by decide) kw_3_87 rfl rfl d_MD_without_48 ?_
      refine lv_bipush (v := (40 : Int32)) hx hb d_MD_without_51 (by decide) ?_
      refine lv_iload hx hb d_MD_without_53 (lv_at hl 3 rfl) ?_
      refine lv_imul hx hb d_MD_without_55 ?_
      refine lv_iload_n hx hb d_MD_without_56 rfl (lv_at hl 1 rfl) ?_
      refine lv_iadd hx hb d_MD_without_57 ?_
      obtain ⟨g1, h⟩ := h
      refine gw_zald C hI lay_286 (j := (((40 : Int32) * x4) + x1).toNatClampNeg) rfl (v := M.1 286 ((((40 : Int32) * x4) + x1).toNatClampNeg)) rfl g1 d_MD_without_58 ?_
      refine lv_if_eq (tgt := 66) hx hb d_MD_without_59 (by decide) (fun c10 => ?_) (fun c10 => ?_)
      · have h := h.1 c10
        refine lv_aload_n hx hb d_MD_without_66 rfl (lv_at hl 0 rfl) ?_
        refine lv_iload hx hb d_MD_without_67 (lv_at hl 3 rfl) ?_
        refine lv_aload_n hx hb d_MD_without_69 rfl (lv_at hl 0 rfl) ?_
        refine lv_iload hx hb d_MD_without_70 (lv_at hl 3 rfl) ?_
        refine lv_aload_n hx hb d_MD_without_72 rfl (lv_at hl 0 rfl) ?_
        refine gw_get (v := .ref (ad 279)) C hI lay_273 i_MD rfl 8 (by decide) kw_3_79 rfl rfl d_MD_without_73 ?_
        refine lv_iconst (v := (4 : Int32)) hx hb d_MD_without_76 (by decide) ?_
        refine lv_iload_n hx hb d_MD_without_77 rfl (lv_at hl 1 rfl) ?_
        refine lv_imul hx hb d_MD_without_78 ?_
        obtain ⟨g2, h⟩ := h
        refine gw_iald C hI lay_279 (j := ((4 : Int32) * x1).toNatClampNeg) rfl (v := M.1 279 (((4 : Int32) * x1).toNatClampNeg)) rfl g2 d_MD_without_79 ?_
        refine lv_aload_n hx hb d_MD_without_80 rfl (lv_at hl 0 rfl) ?_
        refine gw_get (v := .ref (ad 279)) C hI lay_273 i_MD rfl 8 (by decide) kw_3_79 rfl rfl d_MD_without_81 ?_
        refine lv_iconst (v := (4 : Int32)) hx hb d_MD_without_84 (by decide) ?_
        refine lv_iload_n hx hb d_MD_without_85 rfl (lv_at hl 1 rfl) ?_
        refine lv_imul hx hb d_MD_without_86 ?_
        refine lv_iconst (v := (1 : Int32)) hx hb d_MD_without_87 (by decide) ?_
        refine lv_iadd hx hb d_MD_without_88 ?_
        obtain ⟨g3, h⟩ := h
        refine gw_iald C hI lay_279 (j := (((4 : Int32) * x1) + (1 : Int32)).toNatClampNeg) rfl (v := M.1 279 ((((4 : Int32) * x1) + (1 : Int32)).toNatClampNeg)) rfl g3 d_MD_without_89 ?_
        refine lv_aload_n hx hb d_MD_without_90 rfl (lv_at hl 0 rfl) ?_
        refine gw_get (v := .ref (ad 279)) C hI lay_273 i_MD rfl 8 (by decide) kw_3_79 rfl rfl d_MD_without_91 ?_
        refine lv_iconst (v := (4 : Int32)) hx hb d_MD_without_94 (by decide) ?_
        refine lv_iload_n hx hb d_MD_without_95 rfl (lv_at hl 1 rfl) ?_
        refine lv_imul hx hb d_MD_without_96 ?_
        refine lv_iconst (v := (2 : Int32)) hx hb d_MD_without_97 (by decide) ?_
        refine lv_iadd hx hb d_MD_without_98 ?_
        obtain ⟨g4, h⟩ := h
        refine gw_iald C hI lay_279 (j := (((4 : Int32) * x1) + (2 : Int32)).toNatClampNeg) rfl (v := M.1 279 ((((4 : Int32) * x1) + (2 : Int32)).toNatClampNeg)) rfl g4 d_MD_without_99 ?_
        refine lv_aload_n hx hb d_MD_without_100 rfl (lv_at hl 0 rfl) ?_
        refine gw_get (v := .ref (ad 279)) C hI lay_273 i_MD rfl 8 (by decide) kw_3_79 rfl rfl d_MD_without_101 ?_
        refine lv_iconst (v := (4 : Int32)) hx hb d_MD_without_104 (by decide) ?_
        refine lv_iload_n hx hb d_MD_without_105 rfl (lv_at hl 1 rfl) ?_
        refine lv_imul hx hb d_MD_without_106 ?_
        refine lv_iconst (v := (3 : Int32)) hx hb d_MD_without_107 (by decide) ?_
        refine lv_iadd hx hb d_MD_without_108 ?_
        obtain ⟨g5, h⟩ := h
        refine gw_iald C hI lay_279 (j := (((4 : Int32) * x1) + (3 : Int32)).toNatClampNeg) rfl (v := M.1 279 ((((4 : Int32) * x1) + (3 : Int32)).toNatClampNeg)) rfl g5 d_MD_without_109 ?_
        refine gw_Vi C hI hl.1 (As := [.int x4, .int (M.1 279 (((4 : Int32) * x1).toNatClampNeg)), .int (M.1 279 ((((4 : Int32) * x1) + (1 : Int32)).toNatClampNeg)), .int (M.1 279 ((((4 : Int32) * x1) + (2 : Int32)).toNatClampNeg)), .int (M.1 279 ((((4 : Int32) * x1) + (3 : Int32)).toNatClampNeg))]) (rest := [.int x4, .ref (ad 273), .long x2]) (c_MD_leafOf hja h) kV_MD_130 lay_273 rfl rfl ⟨rfl, rfl⟩ ⟨Nat.le_of_ble_eq_true rfl, Nat.le_of_ble_eq_true rfl⟩ rfl (Nat.le_of_ble_eq_true rfl) ⟨Nat.zero_le _, Nat.zero_le _⟩ d_MD_without_110 (fun r6 M7 H locs h hI => ?_)
        refine gw_Vl C hI hl.1 (As := [.int x4, .int r6]) (rest := [.long x2]) (c_MD_addOf hja h) kV_MD_133 lay_273 rfl rfl ⟨rfl, rfl⟩ ⟨Nat.le_of_ble_eq_true rfl, Nat.le_of_ble_eq_true rfl⟩ rfl (Nat.le_of_ble_eq_true rfl) ⟨Nat.zero_le _, Nat.zero_le _⟩ d_MD_without_113 (fun r8 M9 H locs h hI => ?_)
        exact L_MD_without_116 C ih h hI (lv_sub hl [0, 1, 3] rfl)
      · have h := h.2 c10
        refine lv_lconst (v := 0) hx hb d_MD_without_62 (by decide) ?_
        refine lv_goto (tgt := 116) hx hb d_MD_without_63 (by decide) ?_
        exact L_MD_without_116 C ih h hI (lv_sub hl [0, 1, 3] rfl)
set_option maxHeartbeats 4000000 in
set_option maxRecDepth 100000 in
theorem L_MD_without_19 {p : Program} {l : Launch} {e : Env} {s : State} {m : MethodId} {args : Array Value} {below : List Frame} {meth : Method} {c : Code} {D : va_G} {cy : Nat → ClassId} {ad : Nat → Nat} (C : Cx p s m args meth c b_MD_without 5 (some .long) "BoostForestsModel" D cy ad) {Q : Int64 → gM → Prop} {M : gM} {H : Heap} {locs : List Loc} {ls : Array Slot} (h : wp_MD_without_19 Q M) (hI : gI D cy ad s M H locs) (hl : lv_has ls 5 []) : W p l e rm_MD_without s m args below meth c H locs 0 0 (MQ below (va_Ql Q (gB D cy ad) (gA ad s.heap.size)) args s 0 0 (gA ad s.heap.size)) (F0 m 19 ls []) := by
  obtain ⟨hx, hb, hml, hown, hts, hr, hlk, hK, hja⟩ := id C
  refine lv_lconst (v := 0) hx hb d_MD_without_19 (by decide) ?_
  exact gr_l C hI h d_MD_without_20
set_option maxHeartbeats 4000000 in
set_option maxRecDepth 100000 in
theorem c_MD_without {l : Launch} {D : va_G} {cy : Nat → ClassId} {ad : Nat → Nat} (hj : gJ ad) {a1 : Int32} {M : gM} {Q : Int64 → gM → Prop} (h : wp_MD_without Q a1 M) : Cl l y_MD_without b_MD_without 5 (some .long) rm_MD_without D cy ad [.ref (ad 273), .int a1] M Q := by
  refine gm (by decide +kernel) hj (Nat.le_of_ble_eq_true rfl) (fun p e s m args below meth c ls C hl hI => ?_)
  have hl : lv_has ls 5 [(0, .ref (ad 273)), (1, .int a1)] := hl
  obtain ⟨hx, hb, hml, hown, hts, hr, hlk, hK, hja⟩ := id C
  refine lv_aload_n hx hb d_MD_without_0 rfl (lv_at hl 0 rfl) ?_
  refine gw_get (v := .int (M.1 273 6)) C hI lay_273 i_MD rfl 6 (by decide) kw_3_77 rfl rfl d_MD_without_1 ?_
  refine lv_if_eq (tgt := 19) hx hb d_MD_without_4 (by decide) (fun c15 => ?_) (fun c15 => ?_)
  · have h := h.1 c15
    exact L_MD_without_19 C h hI (lv_sub hl [] rfl)
  · have h := h.2 c15
    refine lv_iload_n hx hb d_MD_without_7 rfl (lv_at hl 1 rfl) ?_
    refine lv_if_lt (tgt := 19) hx hb d_MD_without_8 (by decide) (fun c14 => ?_) (fun c14 => ?_)
    · have h := h.1 c14
      exact L_MD_without_19 C h hI (lv_sub hl [] rfl)
    · have h := h.2 c14
      refine lv_iload_n hx hb d_MD_without_11 rfl (lv_at hl 1 rfl) ?_
      refine lv_aload_n hx hb d_MD_without_12 rfl (lv_at hl 0 rfl) ?_
      refine gw_get (v := .int (M.1 273 7)) C hI lay_273 i_MD rfl 7 (by decide) kw_3_78 rfl rfl d_MD_without_13 ?_
      refine lv_icmp_lt (tgt := 21) hx hb d_MD_without_16 (by decide) (fun c13 => ?_) (fun c13 => ?_)
      · have h := h.1 c13
        refine lv_ldc2 hx hb hown (hts _ kw_3_201) d_MD_without_21 ?_
        refine lv_aload_n hx hb d_MD_without_24 rfl (lv_at hl 0 rfl) ?_
        refine gw_get (v := .ref (ad 283)) C hI lay_273 i_MD rfl 12 (by decide) kw_3_83 rfl rfl d_MD_without_25 ?_
        refine lv_bipush (v := (9 : Int32)) hx hb d_MD_without_28 (by decide) ?_
        refine gw_iald C hI lay_283 (j := 9) (by decide) (v := M.1 283 9) rfl (vi_lit (9 : Int32) 15 (by decide)) d_MD_without_30 ?_
        refine lv_i2l hx hb d_MD_without_31 rfl ?_
        refine lv_lmul hx hb d_MD_without_32 ?_
        refine lv_lstore_n (lv' := [(2, .long ((256 : Int64) * ((M.1 283 9).toInt64))), (0, .ref (ad 273)), (1, .int a1)]) hx hb d_MD_without_33 rfl hl (by decide) rfl (fun ls hl => ?_)
        refine lv_iconst (v := (0 : Int32)) hx hb d_MD_without_34 (by decide) ?_
        refine lv_istore (lv' := [(4, .int (0 : Int32)), (2, .long ((256 : Int64) * ((M.1 283 9).toInt64))), (0, .ref (ad 273)), (1, .int a1)]) hx hb d_MD_without_35 hl (by decide) rfl (fun ls hl => ?_)
        obtain ⟨n12, h⟩ := h
        exact L_MD_without_37 C n12 a1 ((256 : Int64) * ((M.1 283 9).toInt64)) (0 : Int32) M _ _ _ h hI (lv_sub hl [2, 3, 1, 0] rfl)
      · have h := h.2 c13
        exact L_MD_without_19 C h hI (lv_sub hl [] rfl)
set_option maxHeartbeats 4000000 in
set_option maxRecDepth 100000 in
theorem L_MD_took_54 {p : Program} {l : Launch} {e : Env} {s : State} {m : MethodId} {args : Array Value} {below : List Frame} {meth : Method} {c : Code} {D : va_G} {cy : Nat → ClassId} {ad : Nat → Nat} (C : Cx p s m args meth c b_MD_took 4 (some .int) "BoostForestsModel" D cy ad) {Q : Int32 → gM → Prop} {x1 : Int32} {x3 : Int32} {s0 : Int32} {s1 : Int32} {k26 : Int32 → Int32 → Int32 → gM → Prop} {M : gM} {H : Heap} {locs : List Loc} {ls : Array Slot} (K26 : ∀ (x1 : Int32) (x2 : Int32) (x3 : Int32) (M : gM) (H : Heap) (locs : List Loc) (ls : Array Slot), k26 x1 x2 x3 M → gI D cy ad s M H locs → lv_has ls 4 [(0, .ref (ad 273)), (1, .int x1), (2, .int x2), (3, .int x3)] → W p l e rm_MD_took s m args below meth c H locs 0 0 (MQ below (va_Qi Q (gB D cy ad) (gA ad s.heap.size)) args s 0 0 (gA ad s.heap.size)) (F0 m 26 ls [])) (h : wp_MD_took_54 Q k26 x1 x3 s0 s1 M) (hI : gI D cy ad s M H locs) (hl : lv_has ls 4 [(0, .ref (ad 273)), (1, .int x1), (3, .int x3)]) : W p l e rm_MD_took s m args below meth c H locs 0 0 (MQ below (va_Qi Q (gB D cy ad) (gA ad s.heap.size)) args s 0 0 (gA ad s.heap.size)) (F0 m 54 ls [.int s0, .int s1]) := by
  obtain ⟨hx, hb, hml, hown, hts, hr, hlk, hK, hja⟩ := id C
  refine lv_iadd hx hb d_MD_took_54 ?_
  refine lv_istore_n (lv' := [(2, .int (s1 + s0)), (0, .ref (ad 273)), (1, .int x1), (3, .int x3)]) hx hb d_MD_took_55 rfl hl (by decide) rfl (fun ls hl => ?_)
  refine lv_iinc (v := x3 + 1) (lv' := [(3, .int (x3 + 1)), (2, .int (s1 + s0)), (0, .ref (ad 273)), (1, .int x1)]) hx hb d_MD_took_56 hl (k := 3) rfl rfl (by decide) rfl (fun ls hl => ?_)
  refine lv_goto (tgt := 26) hx hb d_MD_took_59 (by decide) ?_
  exact K26 x1 (s1 + s0) (x3 + 1) M _ _ _ h hI (lv_sub hl [2, 3, 1, 0] rfl)
set_option maxHeartbeats 4000000 in
set_option maxRecDepth 100000 in
theorem L_MD_took_26 {p : Program} {l : Launch} {e : Env} {s : State} {m : MethodId} {args : Array Value} {below : List Frame} {meth : Method} {c : Code} {D : va_G} {cy : Nat → ClassId} {ad : Nat → Nat} (C : Cx p s m args meth c b_MD_took 4 (some .int) "BoostForestsModel" D cy ad) {Q : Int32 → gM → Prop} (n : Nat) : ∀ (x1 : Int32) (x2 : Int32) (x3 : Int32) (M : gM) (H : Heap) (locs : List Loc) (ls : Array Slot), wp_MD_took_26 Q n x1 x2 x3 M → gI D cy ad s M H locs → lv_has ls 4 [(0, .ref (ad 273)), (1, .int x1), (2, .int x2), (3, .int x3)] → W p l e rm_MD_took s m args below meth c H locs 0 0 (MQ below (va_Qi Q (gB D cy ad) (gA ad s.heap.size)) args s 0 0 (gA ad s.heap.size)) (F0 m 26 ls []) := by
  obtain ⟨hx, hb, hml, hown, hts, hr, hlk, hK, hja⟩ := id C
  induction n with
  | zero => exact fun _ _ _ _ _ _ _ h _ _ => h.elim
  | succ n ih =>
    intro x1 x2 x3 M H locs ls h hI hl
    have h := h
    refine lv_iload_n hx hb d_MD_took_26 rfl (lv_at hl 3 rfl) ?_
    refine lv_aload_n hx hb d_MD_took_27 rfl (lv_at hl 0 rfl) ?_
    refine gw_get (v := .int (M.1 273 14)) C hI lay_273 i_MD rfl 14 (by decide) kw_3_85 rfl rfl d_MD_took_28 ?_
    refine lv_icmp_ge (tgt := 62) hx hb d_MD_took_31 (by decide) (fun c3 => ?_) (fun c3 => ?_)
    · have h := h.1 c3
      refine lv_iload_n hx hb d_MD_took_62 rfl (lv_at hl 2 rfl) ?_
      exact gr_i C hI h d_MD_took_63
    · have h := h.2 c3
      refine lv_iload_n hx hb d_MD_took_34 rfl (lv_at hl 2 rfl) ?_
      refine lv_aload_n hx hb d_MD_took_35 rfl (lv_at hl 0 rfl) ?_
      refine gw_get (v := .ref (ad 286)) C hI lay_273 i_MD rfl 16 (by decide) kw_3_87 rfl rfl d_MD_took_36 ?_
      refine lv_bipush (v := (40 : Int32)) hx hb d_MD_took_39 (by decide) ?_
      refine lv_iload_n hx hb d_MD_took_41 rfl (lv_at hl 3 rfl) ?_
      refine lv_imul hx hb d_MD_took_42 ?_
      refine lv_iload_n hx hb d_MD_took_43 rfl (lv_at hl 1 rfl) ?_
      refine lv_iadd hx hb d_MD_took_44 ?_
      obtain ⟨g1, h⟩ := h
      refine gw_zald C hI lay_286 (j := (((40 : Int32) * x3) + x1).toNatClampNeg) rfl (v := M.1 286 ((((40 : Int32) * x3) + x1).toNatClampNeg)) rfl g1 d_MD_took_45 ?_
      refine lv_if_eq (tgt := 53) hx hb d_MD_took_46 (by decide) (fun c2 => ?_) (fun c2 => ?_)
      · have h := h.1 c2
        refine lv_iconst (v := (0 : Int32)) hx hb d_MD_took_53 (by decide) ?_
        exact L_MD_took_54 C ih h hI (lv_sub hl [0, 1, 3] rfl)
      · have h := h.2 c2
        refine lv_iconst (v := (1 : Int32)) hx hb d_MD_took_49 (by decide) ?_
        refine lv_goto (tgt := 54) hx hb d_MD_took_50 (by decide) ?_
        exact L_MD_took_54 C ih h hI (lv_sub hl [0, 1, 3] rfl)
set_option maxHeartbeats 4000000 in
set_option maxRecDepth 100000 in
theorem L_MD_took_19 {p : Program} {l : Launch} {e : Env} {s : State} {m : MethodId} {args : Array Value} {below : List Frame} {meth : Method} {c : Code} {D : va_G} {cy : Nat → ClassId} {ad : Nat → Nat} (C : Cx p s m args meth c b_MD_took 4 (some .int) "BoostForestsModel" D cy ad) {Q : Int32 → gM → Prop} {M : gM} {H : Heap} {locs : List Loc} {ls : Array Slot} (h : wp_MD_took_19 Q M) (hI : gI D cy ad s M H locs) (hl : lv_has ls 4 []) : W p l e rm_MD_took s m args below meth c H locs 0 0 (MQ below (va_Qi Q (gB D cy ad) (gA ad s.heap.size)) args s 0 0 (gA ad s.heap.size)) (F0 m 19 ls []) := by
  obtain ⟨hx, hb, hml, hown, hts, hr, hlk, hK, hja⟩ := id C
  refine lv_bipush (v := (-2 : Int32)) hx hb d_MD_took_19 (by decide) ?_
  exact gr_i C hI h d_MD_took_21
set_option maxHeartbeats 4000000 in
set_option maxRecDepth 100000 in
theorem c_MD_took {l : Launch} {D : va_G} {cy : Nat → ClassId} {ad : Nat → Nat} (hj : gJ ad) {a1 : Int32} {M : gM} {Q : Int32 → gM → Prop} (h : wp_MD_took Q a1 M) : Ci l y_MD_took b_MD_took 4 (some .int) rm_MD_took D cy ad [.ref (ad 273), .int a1] M Q := by
  refine gm (by decide +kernel) hj (Nat.le_of_ble_eq_true rfl) (fun p e s m args below meth c ls C hl hI => ?_)
  have hl : lv_has ls 4 [(0, .ref (ad 273)), (1, .int a1)] := hl
  obtain ⟨hx, hb, hml, hown, hts, hr, hlk, hK, hja⟩ := id C
  refine lv_aload_n hx hb d_MD_took_0 rfl (lv_at hl 0 rfl) ?_
  refine gw_get (v := .int (M.1 273 6)) C hI lay_273 i_MD rfl 6 (by decide) kw_3_77 rfl rfl d_MD_took_1 ?_
  refine lv_if_eq (tgt := 19) hx hb d_MD_took_4 (by decide) (fun c7 => ?_) (fun c7 => ?_)
  · have h := h.1 c7
    exact L_MD_took_19 C h hI (lv_sub hl [] rfl)
  · have h := h.2 c7
    refine lv_iload_n hx hb d_MD_took_7 rfl (lv_at hl 1 rfl) ?_
    refine lv_if_lt (tgt := 19) hx hb d_MD_took_8 (by decide) (fun c6 => ?_) (fun c6 => ?_)
    · have h := h.1 c6
      exact L_MD_took_19 C h hI (lv_sub hl [] rfl)
    · have h := h.2 c6
      refine lv_iload_n hx hb d_MD_took_11 rfl (lv_at hl 1 rfl) ?_
      refine lv_aload_n hx hb d_MD_took_12 rfl (lv_at hl 0 rfl) ?_
      refine gw_get (v := .int (M.1 273 7)) C hI lay_273 i_MD rfl 7 (by decide) kw_3_78 rfl rfl d_MD_took_13 ?_
      refine lv_icmp_lt (tgt := 22) hx hb d_MD_took_16 (by decide) (fun c5 => ?_) (fun c5 => ?_)
      · have h := h.1 c5
        refine lv_iconst (v := (0 : Int32)) hx hb d_MD_took_22 (by decide) ?_
        refine lv_istore_n (lv' := [(2, .int (0 : Int32)), (0, .ref (ad 273)), (1, .int a1)]) hx hb d_MD_took_23 rfl hl (by decide) rfl (fun ls hl => ?_)
        refine lv_iconst (v := (0 : Int32)) hx hb d_MD_took_24 (by decide) ?_
        refine lv_istore_n (lv' := [(3, .int (0 : Int32)), (2, .int (0 : Int32)), (0, .ref (ad 273)), (1, .int a1)]) hx hb d_MD_took_25 rfl hl (by decide) rfl (fun ls hl => ?_)
        obtain ⟨n4, h⟩ := h
        exact L_MD_took_26 C n4 a1 (0 : Int32) (0 : Int32) M _ _ _ h hI (lv_sub hl [2, 3, 1, 0] rfl)
      · have h := h.2 c5
        exact L_MD_took_19 C h hI (lv_sub hl [] rfl)
set_option maxHeartbeats 4000000 in
set_option maxRecDepth 100000 in
theorem L_MD_gain_66 {p : Program} {l : Launch} {e : Env} {s : State} {m : MethodId} {args : Array Value} {below : List Frame} {meth : Method} {c : Code} {D : va_G} {cy : Nat → ClassId} {ad : Nat → Nat} (C : Cx p s m args meth c b_MD_gain 7 (some .long) "BoostForestsModel" D cy ad) {Q : Int64 → gM → Prop} {x1 : Int32} {x4 : Int32} {x5 : Int32} {s0 : Int64} {s1 : Int64} {k5 : Int32 → Int64 → Int32 → gM → Prop} {k17 : Int32 → Int64 → Int32 → Int32 → gM → Prop} {M : gM} {H : Heap} {locs : List Loc} {ls : Array Slot} (K5 : ∀ (x1 : Int32) (x2 : Int64) (x4 : Int32) (M : gM) (H : Heap) (locs : List Loc) (ls : Array Slot), k5 x1 x2 x4 M → gI D cy ad s M H locs → lv_has ls 7 [(0, .ref (ad 273)), (1, .int x1), (2, .long x2), (4, .int x4)] → W p l e rm_MD_gain s m args below meth c H locs 0 0 (MQ below (va_Ql Q (gB D cy ad) (gA ad s.heap.size)) args s 0 0 (gA ad s.heap.size)) (F0 m 5 ls [])) (K17 : ∀ (x1 : Int32) (x2 : Int64) (x4 : Int32) (x5 : Int32) (M : gM) (H : Heap) (locs : List Loc) (ls : Array Slot), k17 x1 x2 x4 x5 M → gI D cy ad s M H locs → lv_has ls 7 [(0, .ref (ad 273)), (1, .int x1), (2, .long x2), (4, .int x4), (5, .int x5)] → W p l e rm_MD_gain s m args below meth c H locs 0 0 (MQ below (va_Ql Q (gB D cy ad) (gA ad s.heap.size)) args s 0 0 (gA ad s.heap.size)) (F0 m 17 ls [])) (h : wp_MD_gain_66 Q k5 k17 x1 x4 x5 s0 s1 M) (hI : gI D cy ad s M H locs) (hl : lv_has ls 7 [(0, .ref (ad 273)), (1, .int x1), (4, .int x4), (5, .int x5)]) : W p l e rm_MD_gain s m args below meth c H locs 0 0 (MQ below (va_Ql Q (gB D cy ad) (gA ad s.heap.size)) args s 0 0 (gA ad s.heap.size)) (F0 m 66 ls [.long s0, .long s1]) := by
  obtain ⟨hx, hb, hml, hown, hts, hr, hlk, hK, hja⟩ := id C
  refine lv_ladd hx hb d_MD_gain_66 ?_
  refine lv_lstore_n (lv' := [(2, .long (s1 + s0)), (0, .ref (ad 273)), (1, .int x1), (4, .int x4), (5, .int x5)]) hx hb d_MD_gain_67 rfl hl (by decide) rfl (fun ls hl => ?_)
  refine lv_iinc (v := x5 + 1) (lv' := [(5, .int (x5 + 1)), (2, .long (s1 + s0)), (0, .ref (ad 273)), (1, .int x1), (4, .int x4)]) hx hb d_MD_gain_68 hl (k := 4) rfl rfl (by decide) rfl (fun ls hl => ?_)
  refine lv_goto (tgt := 17) hx hb d_MD_gain_71 (by decide) ?_
  exact K17 x1 (s1 + s0) x4 (x5 + 1) M _ _ _ h hI (lv_sub hl [2, 3, 1, 4, 0] rfl)
set_option maxHeartbeats 4000000 in
set_option maxRecDepth 100000 in
theorem L_MD_gain_65 {p : Program} {l : Launch} {e : Env} {s : State} {m : MethodId} {args : Array Value} {below : List Frame} {meth : Method} {c : Code} {D : va_G} {cy : Nat → ClassId} {ad : Nat → Nat} (C : Cx p s m args meth c b_MD_gain 7 (some .long) "BoostForestsModel" D cy ad) {Q : Int64 → gM → Prop} {x1 : Int32} {x4 : Int32} {x5 : Int32} {s0 : Int64} {k5 : Int32 → Int64 → Int32 → gM → Prop} {k17 : Int32 → Int64 → Int32 → Int32 → gM → Prop} {M : gM} {H : Heap} {locs : List Loc} {ls : Array Slot} (K5 : ∀ (x1 : Int32) (x2 : Int64) (x4 : Int32) (M : gM) (H : Heap) (locs : List Loc) (ls : Array Slot), k5 x1 x2 x4 M → gI D cy ad s M H locs → lv_has ls 7 [(0, .ref (ad 273)), (1, .int x1), (2, .long x2), (4, .int x4)] → W p l e rm_MD_gain s m args below meth c H locs 0 0 (MQ below (va_Ql Q (gB D cy ad) (gA ad s.heap.size)) args s 0 0 (gA ad s.heap.size)) (F0 m 5 ls [])) (K17 : ∀ (x1 : Int32) (x2 : Int64) (x4 : Int32) (x5 : Int32) (M : gM) (H : Heap) (locs : List Loc) (ls : Array Slot), k17 x1 x2 x4 x5 M → gI D cy ad s M H locs → lv_has ls 7 [(0, .ref (ad 273)), (1, .int x1), (2, .long x2), (4, .int x4), (5, .int x5)] → W p l e rm_MD_gain s m args below meth c H locs 0 0 (MQ below (va_Ql Q (gB D cy ad) (gA ad s.heap.size)) args s 0 0 (gA ad s.heap.size)) (F0 m 17 ls [])) (h : wp_MD_gain_65 Q k5 k17 x1 x4 x5 s0 M) (hI : gI D cy ad s M H locs) (hl : lv_has ls 7 [(0, .ref (ad 273)), (1, .int x1), (4, .int x4), (5, .int x5)]) : W p l e rm_MD_gain s m args below meth c H locs 0 0 (MQ below (va_Ql Q (gB D cy ad) (gA ad s.heap.size)) args s 0 0 (gA ad s.heap.size)) (F0 m 65 ls [.long s0]) := by
  obtain ⟨hx, hb, hml, hown, hts, hr, hlk, hK, hja⟩ := id C
  refine lv_lconst (v := 0) hx hb d_MD_gain_65 (by decide) ?_
  exact L_MD_gain_66 C K5 K17 h hI (lv_sub hl [0, 1, 2, 3] rfl)
set_option maxHeartbeats 4000000 in
set_option maxRecDepth 100000 in
theorem L_MD_gain_17 {p : Program} {l : Launch} {e : Env} {s : State} {m : MethodId} {args : Array Value} {below : List Frame} {meth : Method} {c : Code} {D : va_G} {cy : Nat → ClassId} {ad : Nat → Nat} (C : Cx p s m args meth c b_MD_gain 7 (some .long) "BoostForestsModel" D cy ad) {Q : Int64 → gM → Prop} {k5 : Int32 → Int64 → Int32 → gM → Prop} (K5 : ∀ (x1 : Int32) (x2 : Int64) (x4 : Int32) (M : gM) (H : Heap) (locs : List Loc) (ls : Array Slot), k5 x1 x2 x4 M → gI D cy ad s M H locs → lv_has ls 7 [(0, .ref (ad 273)), (1, .int x1), (2, .long x2), (4, .int x4)] → W p l e rm_MD_gain s m args below meth c H locs 0 0 (MQ below (va_Ql Q (gB D cy ad) (gA ad s.heap.size)) args s 0 0 (gA ad s.heap.size)) (F0 m 5 ls [])) (n : Nat) : ∀ (x1 : Int32) (x2 : Int64) (x4 : Int32) (x5 : Int32) (M : gM) (H : Heap) (locs : List Loc) (ls : Array Slot), wp_MD_gain_17 Q k5 n x1 x2 x4 x5 M → gI D cy ad s M H locs → lv_has ls 7 [(0, .ref (ad 273)), (1, .int x1), (2, .long x2), (4, .int x4), (5, .int x5)] → W p l e rm_MD_gain s m args below meth c H locs 0 0 (MQ below (va_Ql Q (gB D cy ad) (gA ad s.heap.size)) args s 0 0 (gA ad s.heap.size)) (F0 m 17 ls []) := by
  obtain ⟨hx, hb, hml, hown, hts, hr, hlk, hK, hja⟩ := id C
  induction n with
  | zero => exact fun _ _ _ _ _ _ _ _ h _ _ => h.elim
  | succ n ih =>
    intro x1 x2 x4 x5 M H locs ls h hI hl
    have h := h
    refine lv_iload hx hb d_MD_gain_17 (lv_at hl 4 rfl) ?_
    refine lv_aload_n hx hb d_MD_gain_19 rfl (lv_at hl 0 rfl) ?_
    refine gw_get (v := .ref (ad 287)) C hI lay_273 i_MD rfl 17 (by decide) kw_3_88 rfl rfl d_MD_gain_20 ?_
    refine lv_iload hx hb d_MD_gain_23 (lv_at hl 3 rfl) ?_
    obtain ⟨g1, h⟩ := h
    refine gw_iald C hI lay_287 (j := x4.toNatClampNeg) rfl (v := M.1 287 x4.toNatClampNeg) rfl g1 d_MD_gain_25 ?_
    refine lv_icmp_ge (tgt := 74) hx hb d_MD_gain_26 (by decide) (fun c5 => ?_) (fun c5 => ?_)
    · have h := h.1 c5
      refine lv_iinc (v := x4 + 1) (lv' := [(4, .int (x4 + 1)), (0, .ref (ad 273)), (1, .int x1), (2, .long x2), (5, .int x5)]) hx hb d_MD_gain_74 hl (k := 3) rfl rfl (by decide) rfl (fun ls hl => ?_)
      refine lv_goto (tgt := 5) hx hb d_MD_gain_77 (by decide) ?_
      exact K5 x1 x2 (x4 + 1) M _ _ _ h hI (lv_sub hl [1, 2, 3, 0] rfl)
    · have h := h.2 c5
      refine lv_bipush (v := (32 : Int32)) hx hb d_MD_gain_29 (by decide) ?_
      refine lv_iload hx hb d_MD_gain_31 (lv_at hl 3 rfl) ?_
      refine lv_imul hx hb d_MD_gain_33 ?_
      refine lv_iload hx hb d_MD_gain_34 (lv_at hl 4 rfl) ?_
      refine lv_iadd hx hb d_MD_gain_36 ?_
      refine lv_istore (lv' := [(6, .int (((32 : Int32) * x4) + x5)), (0, .ref (ad 273)), (1, .int x1), (2, .long x2), (4, .int x4), (5, .int x5)]) hx hb d_MD_gain_37 hl (by decide) rfl (fun ls hl => ?_)
      refine lv_lload_n hx hb d_MD_gain_39 rfl (lv_at hl 3 rfl) ?_
      refine lv_iload_n hx hb d_MD_gain_40 rfl (lv_at hl 2 rfl) ?_
      refine lv_if_lt (tgt := 65) hx hb d_MD_gain_41 (by decide) (fun c4 => ?_) (fun c4 => ?_)
      · have h := h.1 c4
        exact L_MD_gain_65 C K5 ih h hI (lv_sub hl [1, 2, 4, 5] rfl)
      · have h := h.2 c4
        refine lv_aload_n hx hb d_MD_gain_44 rfl (lv_at hl 1 rfl) ?_
        refine gw_get (v := .ref (ad 288)) C hI lay_273 i_MD rfl 18 (by decide) kw_3_89 rfl rfl d_MD_gain_45 ?_
        refine lv_iload hx hb d_MD_gain_48 (lv_at hl 0 rfl) ?_
        obtain ⟨g2, h⟩ := h
        refine gw_iald C hI lay_288 (j := (((32 : Int32) * x4) + x5).toNatClampNeg) rfl (v := M.1 288 ((((32 : Int32) * x4) + x5).toNatClampNeg)) rfl g2 d_MD_gain_50 ?_
        refine lv_iload_n hx hb d_MD_gain_51 rfl (lv_at hl 2 rfl) ?_
        refine lv_icmp_ne (tgt := 65) hx hb d_MD_gain_52 (by decide) (fun c3 => ?_) (fun c3 => ?_)
        · have h := h.1 c3
          exact L_MD_gain_65 C K5 ih h hI (lv_sub hl [1, 2, 4, 5] rfl)
        · have h := h.2 c3
          refine lv_aload_n hx hb d_MD_gain_55 rfl (lv_at hl 1 rfl) ?_
          refine gw_get (v := .ref (ad 296)) C hI lay_273 i_MD rfl 26 (by decide) kw_3_97 rfl rfl d_MD_gain_56 ?_
          refine lv_iload hx hb d_MD_gain_59 (lv_at hl 0 rfl) ?_
          refine gw_lald C hI lay_296 (j := (((32 : Int32) * x4) + x5).toNatClampNeg) rfl (v := M.2 296 ((((32 : Int32) * x4) + x5).toNatClampNeg)) rfl g2 d_MD_gain_61 ?_
          refine lv_goto (tgt := 66) hx hb d_MD_gain_62 (by decide) ?_
          exact L_MD_gain_66 C K5 ih h hI (lv_sub hl [1, 2, 4, 5] rfl)
set_option maxHeartbeats 4000000 in
set_option maxRecDepth 100000 in
theorem L_MD_gain_5 {p : Program} {l : Launch} {e : Env} {s : State} {m : MethodId} {args : Array Value} {below : List Frame} {meth : Method} {c : Code} {D : va_G} {cy : Nat → ClassId} {ad : Nat → Nat} (C : Cx p s m args meth c b_MD_gain 7 (some .long) "BoostForestsModel" D cy ad) {Q : Int64 → gM → Prop} (n : Nat) : ∀ (x1 : Int32) (x2 : Int64) (x4 : Int32) (M : gM) (H : Heap) (locs : List Loc) (ls : Array Slot), wp_MD_gain_5 Q n x1 x2 x4 M → gI D cy ad s M H locs → lv_has ls 7 [(0, .ref (ad 273)), (1, .int x1), (2, .long x2), (4, .int x4)] → W p l e rm_MD_gain s m args below meth c H locs 0 0 (MQ below (va_Ql Q (gB D cy ad) (gA ad s.heap.size)) args s 0 0 (gA ad s.heap.size)) (F0 m 5 ls []) := by
  obtain ⟨hx, hb, hml, hown, hts, hr, hlk, hK, hja⟩ := id C
  induction n with
  | zero => exact fun _ _ _ _ _ _ _ h _ _ => h.elim
  | succ n ih =>
    intro x1 x2 x4 M H locs ls h hI hl
    have h := h
    refine lv_iload hx hb d_MD_gain_5 (lv_at hl 3 rfl) ?_
    refine lv_aload_n hx hb d_MD_gain_7 rfl (lv_at hl 0 rfl) ?_
    refine gw_get (v := .int (M.1 273 14)) C hI lay_273 i_MD rfl 14 (by decide) kw_3_85 rfl rfl d_MD_gain_8 ?_
    refine lv_icmp_ge (tgt := 80) hx hb d_MD_gain_11 (by decide) (fun c7 => ?_) (fun c7 => ?_)
    · have h := h.1 c7
      refine lv_lload_n hx hb d_MD_gain_80 rfl (lv_at hl 2 rfl) ?_
      exact gr_l C hI h d_MD_gain_81
    · have h := h.2 c7
      refine lv_iconst (v := (0 : Int32)) hx hb d_MD_gain_14 (by decide) ?_
      refine lv_istore (lv' := [(5, .int (0 : Int32)), (0, .ref (ad 273)), (1, .int x1), (2, .long x2), (4, .int x4)]) hx hb d_MD_gain_15 hl (by decide) rfl (fun ls hl => ?_)
      obtain ⟨n6, h⟩ := h
      exact L_MD_gain_17 C ih n6 x1 x2 x4 (0 : Int32) M _ _ _ h hI (lv_sub hl [1, 2, 3, 4, 0] rfl)
set_option maxHeartbeats 4000000 in
set_option maxRecDepth 100000 in
theorem c_MD_gain {l : Launch} {D : va_G} {cy : Nat → ClassId} {ad : Nat → Nat} (hj : gJ ad) {a1 : Int32} {M : gM} {Q : Int64 → gM → Prop} (h : wp_MD_gain Q a1 M) : Cl l y_MD_gain b_MD_gain 7 (some .long) rm_MD_gain D cy ad [.ref (ad 273), .int a1] M Q := by
  refine gm (by decide +kernel) hj (Nat.le_of_ble_eq_true rfl) (fun p e s m args below meth c ls C hl hI => ?_)
  have hl : lv_has ls 7 [(0, .ref (ad 273)), (1, .int a1)] := hl
  obtain ⟨hx, hb, hml, hown, hts, hr, hlk, hK, hja⟩ := id C
  refine lv_lconst (v := 0) hx hb d_MD_gain_0 (by decide) ?_
  refine lv_lstore_n (lv' := [(2, .long (0 : Int64)), (0, .ref (ad 273)), (1, .int a1)]) hx hb d_MD_gain_1 rfl hl (by decide) rfl (fun ls hl => ?_)
  refine lv_iconst (v := (0 : Int32)) hx hb d_MD_gain_2 (by decide) ?_
  refine lv_istore (lv' := [(4, .int (0 : Int32)), (2, .long (0 : Int64)), (0, .ref (ad 273)), (1, .int a1)]) hx hb d_MD_gain_3 hl (by decide) rfl (fun ls hl => ?_)
  obtain ⟨n8, h⟩ := h
  exact L_MD_gain_5 C n8 a1 (0 : Int64) (0 : Int32) M _ _ _ h hI (lv_sub hl [2, 3, 1, 0] rfl)
set_option maxHeartbeats 4000000 in
set_option maxRecDepth 100000 in
theorem c_MD_downward {l : Launch} {D : va_G} {cy : Nat → ClassId} {ad : Nat → Nat} (hj : gJ ad) {a0 : Int64} {a2 : Int64} {M : gM} {Q : Int64 → gM → Prop} (h : wp_MD_downward Q a0 a2 M) : Cl l y_MD_downward b_MD_downward 6 (some .long) rm_MD_downward D cy ad [.long a0, .long a2] M Q := by
  refine gm (by decide +kernel) hj (Nat.le_of_ble_eq_true rfl) (fun p e s m args below meth c ls C hl hI => ?_)
  have hl : lv_has ls 6 [(0, .long a0), (2, .long a2)] := hl
  obtain ⟨hx, hb, hml, hown, hts, hr, hlk, hK, hja⟩ := id C
  refine lv_lload_n hx hb d_MD_downward_0 rfl (lv_at hl 0 rfl) ?_
  refine lv_lload_n hx hb d_MD_downward_1 rfl (lv_at hl 1 rfl) ?_
  obtain ⟨g1, h⟩ := h
  refine lv_ldiv hx hb d_MD_downward_2 g1 ?_
  refine lv_lstore (lv' := [(4, .long (a0 / a2)), (0, .long a0), (2, .long a2)]) hx hb d_MD_downward_3 hl (by decide) rfl (fun ls hl => ?_)
  refine lv_lload_n hx hb d_MD_downward_5 rfl (lv_at hl 1 rfl) ?_
  refine lv_lload_n hx hb d_MD_downward_6 rfl (lv_at hl 2 rfl) ?_
  obtain ⟨g2, h⟩ := h
  refine lv_lrem hx hb d_MD_downward_7 g2 ?_
  refine lv_lconst (v := 0) hx hb d_MD_downward_8 (by decide) ?_
  refine gl_ge (tgt := 20) C d_MD_downward_9 d_MD_downward_10 (by decide) (fun c3 => ?_) (fun c3 => ?_)
  · have h := h.1 c3
    refine lv_lload hx hb d_MD_downward_20 (lv_at hl 0 rfl) ?_
    exact gr_l C hI h d_MD_downward_22
  · have h := h.2 c3
    refine lv_lload hx hb d_MD_downward_13 (lv_at hl 0 rfl) ?_
    refine lv_lconst (v := 1) hx hb d_MD_downward_15 (by decide) ?_
    refine lv_lsub hx hb d_MD_downward_16 ?_
    refine lv_goto (tgt := 22) hx hb d_MD_downward_17 (by decide) ?_
    exact gr_l C hI h d_MD_downward_22
set_option maxHeartbeats 4000000 in
set_option maxRecDepth 100000 in
theorem L_MD_tellOf_193 {p : Program} {l : Launch} {e : Env} {s : State} {m : MethodId} {args : Array Value} {below : List Frame} {meth : Method} {c : Code} {D : va_G} {cy : Nat → ClassId} {ad : Nat → Nat} (C : Cx p s m args meth c b_MD_tellOf 12 (some .long) "BoostForestsModel" D cy ad) {Q : Int64 → gM → Prop} {x1 : Int32} {x2 : Int32} {x3 : Int32} {x4 : Int32} {x5 : Int32} {x6 : Int32} {x7 : Int32} {k10 : Int32 → Int32 → Int32 → Int32 → Int32 → Int32 → Int32 → gM → Prop} {M : gM} {H : Heap} {locs : List Loc} {ls : Array Slot} (K10 : ∀ (x1 : Int32) (x2 : Int32) (x3 : Int32) (x4 : Int32) (x5 : Int32) (x6 : Int32) (x7 : Int32) (M : gM) (H : Heap) (locs : List Loc) (ls : Array Slot), k10 x1 x2 x3 x4 x5 x6 x7 M → gI D cy ad s M H locs → lv_has ls 12 [(0, .ref (ad 273)), (1, .int x1), (2, .int x2), (3, .int x3), (4, .int x4), (5, .int x5), (6, .int x6), (7, .int x7)] → W p l e rm_MD_tellOf s m args below meth c H locs 0 0 (MQ below (va_Ql Q (gB D cy ad) (gA ad s.heap.size)) args s 0 0 (gA ad s.heap.size)) (F0 m 10 ls [])) (h : wp_MD_tellOf_193 Q k10 x1 x2 x3 x4 x5 x6 x7 M) (hI : gI D cy ad s M H locs) (hl : lv_has ls 12 [(0, .ref (ad 273)), (1, .int x1), (2, .int x2), (3, .int x3), (4, .int x4), (5, .int x5), (6, .int x6), (7, .int x7)]) : W p l e rm_MD_tellOf s m args below meth c H locs 0 0 (MQ below (va_Ql Q (gB D cy ad) (gA ad s.heap.size)) args s 0 0 (gA ad s.heap.size)) (F0 m 193 ls []) := by
  obtain ⟨hx, hb, hml, hown, hts, hr, hlk, hK, hja⟩ := id C
  refine lv_iinc (v := x7 + (-1)) (lv' := [(7, .int (x7 + (-1))), (0, .ref (ad 273)), (1, .int x1), (2, .int x2), (3, .int x3), (4, .int x4), (5, .int x5), (6, .int x6)]) hx hb d_MD_tellOf_193 hl (k := 7) rfl rfl (by decide) rfl (fun ls hl => ?_)
  refine lv_goto (tgt := 10) hx hb d_MD_tellOf_196 (by decide) ?_
  exact K10 x1 x2 x3 x4 x5 x6 (x7 + (-1)) M _ _ _ h hI (lv_sub hl [1, 2, 3, 4, 5, 6, 7, 0] rfl)
set_option maxHeartbeats 4000000 in
set_option maxRecDepth 100000 in
theorem L_MD_tellOf_123 {p : Program} {l : Launch} {e : Env} {s : State} {m : MethodId} {args : Array Value} {below : List Frame} {meth : Method} {c : Code} {D : va_G} {cy : Nat → ClassId} {ad : Nat → Nat} (C : Cx p s m args meth c b_MD_tellOf 12 (some .long) "BoostForestsModel" D cy ad) {Q : Int64 → gM → Prop} {x1 : Int32} {x2 : Int32} {x3 : Int32} {x4 : Int32} {x5 : Int32} {x6 : Int32} {x7 : Int32} {s0 : Int32} {s1 : Int32} {s3 : Int32} {k10 : Int32 → Int32 → Int32 → Int32 → Int32 → Int32 → Int32 → gM → Prop} {M : gM} {H : Heap} {locs : List Loc} {ls : Array Slot} (K10 : ∀ (x1 : Int32) (x2 : Int32) (x3 : Int32) (x4 : Int32) (x5 : Int32) (x6 : Int32) (x7 : Int32) (M : gM) (H : Heap) (locs : List Loc) (ls : Array Slot), k10 x1 x2 x3 x4 x5 x6 x7 M → gI D cy ad s M H locs → lv_has ls 12 [(0, .ref (ad 273)), (1, .int x1), (2, .int x2), (3, .int x3), (4, .int x4), (5, .int x5), (6, .int x6), (7, .int x7)] → W p l e rm_MD_tellOf s m args below meth c H locs 0 0 (MQ below (va_Ql Q (gB D cy ad) (gA ad s.heap.size)) args s 0 0 (gA ad s.heap.size)) (F0 m 10 ls [])) (h : wp_MD_tellOf_123 Q k10 x1 x2 x3 x4 x5 x6 x7 s0 s1 s3 M) (hI : gI D cy ad s M H locs) (hl : lv_has ls 12 [(0, .ref (ad 273)), (1, .int x1), (2, .int x2), (3, .int x3), (4, .int x4), (5, .int x5), (6, .int x6), (7, .int x7)]) : W p l e rm_MD_tellOf s m args below meth c H locs 0 0 (MQ below (va_Ql Q (gB D cy ad) (gA ad s.heap.size)) args s 0 0 (gA ad s.heap.size)) (F0 m 123 ls [.int s0, .int s1, .ref (ad 298), .int s3, .ref (ad 298)]) := by
  obtain ⟨hx, hb, hml, hown, hts, hr, hlk, hK, hja⟩ := id C
  refine lv_iadd hx hb d_MD_tellOf_123 ?_
  obtain ⟨g1, h⟩ := h
  refine gw_lald C hI lay_298 (j := (s1 + s0).toNatClampNeg) rfl (v := M.2 298 ((s1 + s0).toNatClampNeg)) rfl g1 d_MD_tellOf_124 ?_
  obtain ⟨g2, h⟩ := h
  refine gw_last C hI lay_298 (j := s3.toNatClampNeg) rfl g2 d_MD_tellOf_125 (fun H locs hI => ?_)
  refine lv_goto (tgt := 193) hx hb d_MD_tellOf_126 (by decide) ?_
  exact L_MD_tellOf_193 C K10 h hI (lv_sub hl [0, 1, 2, 3, 4, 5, 6, 7] rfl)
set_option maxHeartbeats 4000000 in
set_option maxRecDepth 100000 in
theorem L_MD_tellOf_10 {p : Program} {l : Launch} {e : Env} {s : State} {m : MethodId} {args : Array Value} {below : List Frame} {meth : Method} {c : Code} {D : va_G} {cy : Nat → ClassId} {ad : Nat → Nat} (C : Cx p s m args meth c b_MD_tellOf 12 (some .long) "BoostForestsModel" D cy ad) {Q : Int64 → gM → Prop} (n : Nat) : ∀ (x1 : Int32) (x2 : Int32) (x3 : Int32) (x4 : Int32) (x5 : Int32) (x6 : Int32) (x7 : Int32) (M : gM) (H : Heap) (locs : List Loc) (ls : Array Slot), wp_MD_tellOf_10 Q n x1 x2 x3 x4 x5 x6 x7 M → gI D cy ad s M H locs → lv_has ls 12 [(0, .ref (ad 273)), (1, .int x1), (2, .int x2), (3, .int x3), (4, .int x4), (5, .int x5), (6, .int x6), (7, .int x7)] → W p l e rm_MD_tellOf s m args below meth c H locs 0 0 (MQ below (va_Ql Q (gB D cy ad) (gA ad s.heap.size)) args s 0 0 (gA ad s.heap.size)) (F0 m 10 ls []) := by
  obtain ⟨hx, hb, hml, hown, hts, hr, hlk, hK, hja⟩ := id C
  induction n with
  | zero => exact fun _ _ _ _ _ _ _ _ _ _ _ h _ _ => h.elim
  | succ n ih =>
    intro x1 x2 x3 x4 x5 x6 x7 M H locs ls h hI hl
    have h := h
    refine lv_iload hx hb d_MD_tellOf_10 (lv_at hl 7 rfl) ?_
    refine lv_if_lt (tgt := 199) hx hb d_MD_tellOf_12 (by decide) (fun c21 => ?_) (fun c21 => ?_)
    · have h := h.1 c21
      refine lv_aload_n hx hb d_MD_tellOf_199 rfl (lv_at hl 0 rfl) ?_
      refine gw_get (v := .ref (ad 298)) C hI lay_273 i_MD rfl 28 (by decide) kw_3_99 rfl rfl d_MD_tellOf_200 ?_
      refine lv_iconst (v := (0 : Int32)) hx hb d_MD_tellOf_203 (by decide) ?_
      refine gw_lald C hI lay_298 (j := 0) (by decide) (v := M.2 298 0) rfl (vi_lit (0 : Int32) 32 (by decide)) d_MD_tellOf_204 ?_
      exact gr_l C hI h d_MD_tellOf_205
    · have h := h.2 c21
      refine lv_bipush (v := (32 : Int32)) hx hb d_MD_tellOf_15 (by decide) ?_
      refine lv_iload_n hx hb d_MD_tellOf_17 rfl (lv_at hl 1 rfl) ?_
      refine lv_imul hx hb d_MD_tellOf_18 ?_
      refine lv_iload hx hb d_MD_tellOf_19 (lv_at hl 7 rfl) ?_
      refine lv_iadd hx hb d_MD_tellOf_21 ?_
      refine lv_istore (lv' := [(8, .int (((32 : Int32) * x1) + x7)), (0, .ref (ad 273)), (1, .int x1), (2, .int x2), (3, .int x3), (4, .int x4), (5, .int x5), (6, .int x6), (7, .int x7)]) hx hb d_MD_tellOf_22 hl (by decide) rfl (fun ls hl => ?_)
      refine lv_aload_n hx hb d_MD_tellOf_24 rfl (lv_at hl 1 rfl) ?_
      refine gw_get (v := .ref (ad 288)) C hI lay_273 i_MD rfl 18 (by decide) kw_3_89 rfl rfl d_MD_tellOf_25 ?_
      refine lv_iload hx hb d_MD_tellOf_28 (lv_at hl 0 rfl) ?_
      obtain ⟨g3, h⟩ := h
      refine gw_iald C hI lay_288 (j := (((32 : Int32) * x1) + x7).toNatClampNeg) rfl (v := M.1 288 ((((32 : Int32) * x1) + x7).toNatClampNeg)) rfl g3 d_MD_tellOf_30 ?_
      refine lv_istore (lv' := [(9, .int (M.1 288 ((((32 : Int32) * x1) + x7).toNatClampNeg))), (8, .int (((32 : Int32) * x1) + x7)), (0, .ref (ad 273)), (1, .int x1), (2, .int x2), (3, .int x3), (4, .int x4), (5, .int x5), (6, .int x6), (7, .int x7)]) hx hb d_MD_tellOf_31 hl (by decide) rfl (fun ls hl => ?_)
      refine lv_aload_n hx hb d_MD_tellOf_33 rfl (lv_at hl 2 rfl) ?_
      refine gw_get (v := .ref (ad 291)) C hI lay_273 i_MD rfl 21 (by decide) kw_3_92 rfl rfl d_MD_tellOf_34 ?_
      refine lv_iload hx hb d_MD_tellOf_37 (lv_at hl 1 rfl) ?_
      refine gw_iald C hI lay_291 (j := (((32 : Int32) * x1) + x7).toNatClampNeg) rfl (v := M.1 291 ((((32 : Int32) * x1) + x7).toNatClampNeg)) rfl g3 d_MD_tellOf_39 ?_
      refine lv_istore (lv' := [(10, .int (M.1 291 ((((32 : Int32) * x1) + x7).toNatClampNeg))), (9, .int (M.1 288 ((((32 : Int32) * x1) + x7).toNatClampNeg))), (8, .int (((32 : Int32) * x1) + x7)), (0, .ref (ad 273)), (1, .int x1), (2, .int x2), (3, .int x3), (4, .int x4), (5, .int x5), (6, .int x6), (7, .int x7)]) hx hb d_MD_tellOf_40 hl (by decide) rfl (fun ls hl => ?_)
      refine lv_iload hx hb d_MD_tellOf_42 (lv_at hl 1 rfl) ?_
      refine lv_if_ge (tgt := 64) hx hb d_MD_tellOf_44 (by decide) (fun c20 => ?_) (fun c20 => ?_)
      · have h := h.1 c20
        refine lv_iload_n hx hb d_MD_tellOf_64 rfl (lv_at hl 5 rfl) ?_
        refine lv_iload hx hb d_MD_tellOf_65 (lv_at hl 1 rfl) ?_
        refine lv_ishr hx hb d_MD_tellOf_67 ?_
        refine lv_iconst (v := (1 : Int32)) hx hb d_MD_tellOf_68 (by decide) ?_
        refine lv_iand hx hb d_MD_tellOf_69 ?_
        refine lv_iconst (v := (1 : Int32)) hx hb d_MD_tellOf_70 (by decide) ?_
        refine lv_icmp_ne (tgt := 129) hx hb d_MD_tellOf_71 (by decide) (fun c16 => ?_) (fun c16 => ?_)
        · have h := h.1 c16
          refine lv_bipush (v := (32 : Int32)) hx hb d_MD_tellOf_129 (by decide) ?_
          refine lv_iload_n hx hb d_MD_tellOf_131 rfl (lv_at hl 4 rfl) ?_
          refine lv_imul hx hb d_MD_tellOf_132 ?_
          refine lv_iload hx hb d_MD_tellOf_133 (lv_at hl 0 rfl) ?_
          refine lv_iadd hx hb d_MD_tellOf_135 ?_
          refine lv_istore (lv' := [(11, .int (((32 : Int32) * x1) + (M.1 291 ((((32 : Int32) * x1) + x7).toNatClampNeg)))), (10, .int (M.1 291 ((((32 : Int32) * x1) + x7).toNatClampNeg))), (9, .int (M.1 288 ((((32 : Int32) * x1) + x7).toNatClampNeg))), (8, .int (((32 : Int32) * x1) + x7)), (0, .ref (ad 273)), (1, .int x1), (2, .int x2), (3, .int x3), (4, .int x4), (5, .int x5), (6, .int x6), (7, .int x7)]) hx hb d_MD_tellOf_136 hl (by decide) rfl (fun ls hl => ?_)
          refine lv_aload_n hx hb d_MD_tellOf_138 rfl (lv_at hl 4 rfl) ?_
          refine gw_get (v := .ref (ad 298)) C hI lay_273 i_MD rfl 28 (by decide) kw_3_99 rfl rfl d_MD_tellOf_139 ?_
          refine lv_iload hx hb d_MD_tellOf_142 (lv_at hl 11 rfl) ?_
          refine lv_aload_n hx hb d_MD_tellOf_144 rfl (lv_at hl 4 rfl) ?_
          refine gw_get (v := .ref (ad 298)) C hI lay_273 i_MD rfl 28 (by decide) kw_3_99 rfl rfl d_MD_tellOf_145 ?_
          refine lv_iload hx hb d_MD_tellOf_148 (lv_at hl 1 rfl) ?_
          obtain ⟨g4, h⟩ := h
          refine gw_lald C hI lay_298 (j := (M.1 291 ((((32 : Int32) * x1) + x7).toNatClampNeg)).toNatClampNeg) rfl (v := M.2 298 ((M.1 291 ((((32 : Int32) * x1) + x7).toNatClampNeg)).toNatClampNeg)) rfl g4 d_MD_tellOf_150 ?_
          refine lv_aload_n hx hb d_MD_tellOf_151 rfl (lv_at hl 4 rfl) ?_
          refine gw_get (v := .ref (ad 292)) C hI lay_273 i_MD rfl 22 (by decide) kw_3_93 rfl rfl d_MD_tellOf_152 ?_
          refine lv_iload hx hb d_MD_tellOf_155 (lv_at hl 0 rfl) ?_
          obtain ⟨g5, h⟩ := h
          refine gw_iald C hI lay_292 (j := (((32 : Int32) * x1) + (M.1 291 ((((32 : Int32) * x1) + x7).toNatClampNeg))).toNatClampNeg) rfl (v := M.1 292 ((((32 : Int32) * x1) + (M.1 291 ((((32 : Int32) * x1) + x7).toNatClampNeg))).toNatClampNeg)) rfl g5 d_MD_tellOf_157 ?_
          refine lv_i2l hx hb d_MD_tellOf_158 rfl ?_
          refine lv_lmul hx hb d_MD_tellOf_159 ?_
          refine lv_aload_n hx hb d_MD_tellOf_160 rfl (lv_at hl 4 rfl) ?_
          refine gw_get (v := .ref (ad 298)) C hI lay_273 i_MD rfl 28 (by decide) kw_3_99 rfl rfl d_MD_tellOf_161 ?_
          refine lv_iload hx hb d_MD_tellOf_164 (lv_at hl 1 rfl) ?_
          refine lv_iconst (v := (1 : Int32)) hx hb d_MD_tellOf_166 (by decide) ?_
          refine lv_iadd hx hb d_MD_tellOf_167 ?_
          obtain ⟨g6, h⟩ := h
          refine gw_lald C hI lay_298 (j := ((M.1 291 ((((32 : Int32) * x1) + x7).toNatClampNeg)) + (1 : Int32)).toNatClampNeg) rfl (v := M.2 298 (((M.1 291 ((((32 : Int32) * x1) + x7).toNatClampNeg)) + (1 : Int32)).toNatClampNeg)) rfl g6 d_MD_tellOf_168 ?_
          refine lv_aload_n hx hb d_MD_tellOf_169 rfl (lv_at hl 4 rfl) ?_
          refine gw_get (v := .ref (ad 292)) C hI lay_273 i_MD rfl 22 (by decide) kw_3_93 rfl rfl d_MD_tellOf_170 ?_
          refine lv_iload hx hb d_MD_tellOf_173 (lv_at hl 0 rfl) ?_
          refine lv_iconst (v := (1 : Int32)) hx hb d_MD_tellOf_175 (by decide) ?_
          refine lv_iadd hx hb d_MD_tellOf_176 ?_
          obtain ⟨g7, h⟩ := h
          refine gw_iald C hI lay_292 (j := ((((32 : Int32) * x1) + (M.1 291 ((((32 : Int32) * x1) + x7).toNatClampNeg))) + (1 : Int32)).toNatClampNeg) rfl (v := M.1 292 (((((32 : Int32) * x1) + (M.1 291 ((((32 : Int32) * x1) + x7).toNatClampNeg))) + (1 : Int32)).toNatClampNeg)) rfl g7 d_MD_tellOf_177 ?_
          refine lv_i2l hx hb d_MD_tellOf_178 rfl ?_
          refine lv_lmul hx hb d_MD_tellOf_179 ?_
          refine lv_ladd hx hb d_MD_tellOf_180 ?_
          refine lv_aload_n hx hb d_MD_tellOf_181 rfl (lv_at hl 4 rfl) ?_
          refine gw_get (v := .ref (ad 292)) C hI lay_273 i_MD rfl 22 (by decide) kw_3_93 rfl rfl d_MD_tellOf_182 ?_
          refine lv_iload hx hb d_MD_tellOf_185 (lv_at hl 3 rfl) ?_
          refine gw_iald C hI lay_292 (j := (((32 : Int32) * x1) + x7).toNatClampNeg) rfl (v := M.1 292 ((((32 : Int32) * x1) + x7).toNatClampNeg)) rfl g3 d_MD_tellOf_187 ?_
          refine lv_i2l hx hb d_MD_tellOf_188 rfl ?_
          refine gw_Sl C hI hl.1 (As := [.long (((M.2 298 ((M.1 291 ((((32 : Int32) * x1) + x7).toNatClampNeg)).toNatClampNeg)) * ((M.1 292 ((((32 : Int32) * x1) + (M.1 291 ((((32 : Int32) * x1) + x7).toNatClampNeg))).toNatClampNeg)).toInt64)) + ((M.2 298 (((M.1 291 ((((32 : Int32) * x1) + x7).toNatClampNeg)) + (1 : Int32)).toNatClampNeg)) * ((M.1 292 (((((32 : Int32) * x1) + (M.1 291 ((((32 : Int32) * x1) + x7).toNatClampNeg))) + (1 : Int32)).toNatClampNeg)).toInt64))), .long ((M.1 292 ((((32 : Int32) * x1) + x7).toNatClampNeg)).toInt64)]) (rest := [.int x7, .ref (ad 298)]) (c_MD_downward hja h) kS_MD_192 rfl ⟨rfl, rfl⟩ ⟨Nat.le_of_ble_eq_true rfl, Nat.le_of_ble_eq_true rfl⟩ rfl (Nat.le_of_ble_eq_true rfl) ⟨Nat.zero_le _, Nat.zero_le _⟩ d_MD_tellOf_189 (fun r8 M9 H locs h hI => ?_)
          obtain ⟨g10, h⟩ := h
          refine gw_last C hI lay_298 (j := x7.toNatClampNeg) rfl g10 d_MD_tellOf_192 (fun H locs hI => ?_)
          exact L_MD_tellOf_193 C ih h hI (lv_sub hl [4, 5, 6, 7, 8, 9, 10, 11] rfl)
        · have h := h.2 c16
          refine lv_aload_n hx hb d_MD_tellOf_74 rfl (lv_at hl 3 rfl) ?_
          refine gw_get (v := .ref (ad 298)) C hI lay_273 i_MD rfl 28 (by decide) kw_3_99 rfl rfl d_MD_tellOf_75 ?_
          refine lv_iload hx hb d_MD_tellOf_78 (lv_at hl 10 rfl) ?_
          refine lv_aload_n hx hb d_MD_tellOf_80 rfl (lv_at hl 3 rfl) ?_
          refine gw_get (v := .ref (ad 298)) C hI lay_273 i_MD rfl 28 (by decide) kw_3_99 rfl rfl d_MD_tellOf_81 ?_
          refine lv_iload hx hb d_MD_tellOf_84 (lv_at hl 0 rfl) ?_
          refine lv_iload hx hb d_MD_tellOf_86 (lv_at hl 1 rfl) ?_
          refine lv_iload_n hx hb d_MD_tellOf_88 rfl (lv_at hl 6 rfl) ?_
          refine lv_iload hx hb d_MD_tellOf_89 (lv_at hl 7 rfl) ?_
          refine lv_iload hx hb d_MD_tellOf_91 (lv_at hl 8 rfl) ?_
          refine lv_iload hx hb d_MD_tellOf_93 (lv_at hl 9 rfl) ?_
          refine gw_Si C hI hl.1 (As := [.int (M.1 288 ((((32 : Int32) * x1) + x7).toNatClampNeg)), .int x3, .int x4, .int x5, .int x6]) (rest := [.int (M.1 291 ((((32 : Int32) * x1) + x7).toNatClampNeg)), .ref (ad 298), .int x7, .ref (ad 298)]) (c_MD_number hja h) kS_MD_99 rfl ⟨rfl, rfl⟩ ⟨Nat.le_of_ble_eq_true rfl, Nat.le_of_ble_eq_true rfl⟩ rfl (Nat.le_of_ble_eq_true rfl) ⟨Nat.zero_le _, Nat.zero_le _⟩ d_MD_tellOf_95 (fun r11 M12 H locs h hI => ?_)
          refine lv_aload_n hx hb d_MD_tellOf_98 rfl (lv_at hl 3 rfl) ?_
          refine gw_get (v := .ref (ad 289)) C hI lay_273 i_MD rfl 19 (by decide) kw_3_90 rfl rfl d_MD_tellOf_99 ?_
          refine lv_iload hx hb d_MD_tellOf_102 (lv_at hl 2 rfl) ?_
          refine gw_iald C hI lay_289 (j := (((32 : Int32) * x1) + x7).toNatClampNeg) rfl (v := M12.1 289 ((((32 : Int32) * x1) + x7).toNatClampNeg)) rfl g3 d_MD_tellOf_104 ?_
          refine lv_aload_n hx hb d_MD_tellOf_105 rfl (lv_at hl 3 rfl) ?_
          refine gw_get (v := .ref (ad 290)) C hI lay_273 i_MD rfl 20 (by decide) kw_3_91 rfl rfl d_MD_tellOf_106 ?_
          refine lv_iload hx hb d_MD_tellOf_109 (lv_at hl 2 rfl) ?_
          refine gw_iald C hI lay_290 (j := (((32 : Int32) * x1) + x7).toNatClampNeg) rfl (v := M12.1 290 ((((32 : Int32) * x1) + x7).toNatClampNeg)) rfl g3 d_MD_tellOf_111 ?_
          refine gw_Si C hI hl.1 (As := [.int r11, .int (M12.1 289 ((((32 : Int32) * x1) + x7).toNatClampNeg)), .int (M12.1 290 ((((32 : Int32) * x1) + x7).toNatClampNeg))]) (rest := [.int (M.1 291 ((((32 : Int32) * x1) + x7).toNatClampNeg)), .ref (ad 298), .int x7, .ref (ad 298)]) (c_MD_goesLeft hja h) kS_MD_147 rfl ⟨rfl, rfl⟩ ⟨Nat.le_of_ble_eq_true rfl, Nat.le_of_ble_eq_true rfl⟩ rfl (Nat.le_of_ble_eq_true rfl) ⟨Nat.zero_le _, Nat.zero_le _⟩ d_MD_tellOf_112 (fun r13 M14 H locs h hI => ?_)
          refine lv_if_eq (tgt := 122) hx hb d_MD_tellOf_115 (by decide) (fun c15 => ?_) (fun c15 => ?_)
          · have h := h.1 c15
            refine lv_iconst (v := (1 : Int32)) hx hb d_MD_tellOf_122 (by decide) ?_
            exact L_MD_tellOf_123 C ih h hI (lv_sub hl [3, 4, 5, 6, 7, 8, 9, 10] rfl)
          · have h := h.2 c15
            refine lv_iconst (v := (0 : Int32)) hx hb d_MD_tellOf_118 (by decide) ?_
            refine lv_goto (tgt := 123) hx hb d_MD_tellOf_119 (by decide) ?_
            exact L_MD_tellOf_123 C ih h hI (lv_sub hl [3, 4, 5, 6, 7, 8, 9, 10] rfl)
      · have h := h.2 c20
        refine lv_aload_n hx hb d_MD_tellOf_47 rfl (lv_at hl 3 rfl) ?_
        refine gw_get (v := .ref (ad 298)) C hI lay_273 i_MD rfl 28 (by decide) kw_3_99 rfl rfl d_MD_tellOf_48 ?_
        refine lv_iload hx hb d_MD_tellOf_51 (lv_at hl 10 rfl) ?_
        refine lv_aload_n hx hb d_MD_tellOf_53 rfl (lv_at hl 3 rfl) ?_
        refine lv_iload_n hx hb d_MD_tellOf_54 rfl (lv_at hl 4 rfl) ?_
        refine lv_iload hx hb d_MD_tellOf_55 (lv_at hl 10 rfl) ?_
        refine gw_Vl C hI hl.1 (As := [.int x1, .int x7]) (rest := [.int x7, .ref (ad 298)]) (c_MD_addOf hja h) kV_MD_133 lay_273 rfl rfl ⟨rfl, rfl⟩ ⟨Nat.le_of_ble_eq_true rfl, Nat.le_of_ble_eq_true rfl⟩ rfl (Nat.le_of_ble_eq_true rfl) ⟨Nat.zero_le _, Nat.zero_le _⟩ d_MD_tellOf_57 (fun r17 M18 H locs h hI => ?_)
        obtain ⟨g19, h⟩ := h
        refine gw_last C hI lay_298 (j := x7.toNatClampNeg) rfl g19 d_MD_tellOf_60 (fun H locs hI => ?_)
        refine lv_goto (tgt := 193) hx hb d_MD_tellOf_61 (by decide) ?_
        exact L_MD_tellOf_193 C ih h hI (lv_sub hl [3, 4, 5, 6, 7, 8, 9, 10] rfl)
set_option maxHeartbeats 4000000 in
set_option maxRecDepth 100000 in
theorem c_MD_tellOf {l : Launch} {D : va_G} {cy : Nat → ClassId} {ad : Nat → Nat} (hj : gJ ad) {a1 : Int32} {a2 : Int32} {a3 : Int32} {a4 : Int32} {a5 : Int32} {a6 : Int32} {M : gM} {Q : Int64 → gM → Prop} (h : wp_MD_tellOf Q a1 a2 a3 a4 a5 a6 M) : Cl l y_MD_tellOf b_MD_tellOf 12 (some .long) rm_MD_tellOf D cy ad [.ref (ad 273), .int a1, .int a2, .int a3, .int a4, .int a5, .int a6] M Q := by
  refine gm (by decide +kernel) hj (Nat.le_of_ble_eq_true rfl) (fun p e s m args below meth c ls C hl hI => ?_)
  have hl : lv_has ls 12 [(0, .ref (ad 273)), (1, .int a1), (2, .int a2), (3, .int a3), (4, .int a4), (5, .int a5), (6, .int a6)] := hl
  obtain ⟨hx, hb, hml, hown, hts, hr, hlk, hK, hja⟩ := id C
  refine lv_aload_n hx hb d_MD_tellOf_0 rfl (lv_at hl 0 rfl) ?_
  refine gw_get (v := .ref (ad 287)) C hI lay_273 i_MD rfl 17 (by decide) kw_3_88 rfl rfl d_MD_tellOf_1 ?_
  refine lv_iload_n hx hb d_MD_tellOf_4 rfl (lv_at hl 1 rfl) ?_
  obtain ⟨g22, h⟩ := h
  refine gw_iald C hI lay_287 (j := a1.toNatClampNeg) rfl (v := M.1 287 a1.toNatClampNeg) rfl g22 d_MD_tellOf_5 ?_
  refine lv_iconst (v := (1 : Int32)) hx hb d_MD_tellOf_6 (by decide) ?_
  refine lv_isub hx hb d_MD_tellOf_7 ?_
  refine lv_istore (lv' := [(7, .int ((M.1 287 a1.toNatClampNeg) - (1 : Int32))), (0, .ref (ad 273)), (1, .int a1), (2, .int a2), (3, .int a3), (4, .int a4), (5, .int a5), (6, .int a6)]) hx hb d_MD_tellOf_8 hl (by decide) rfl (fun ls hl => ?_)
  obtain ⟨n23, h⟩ := h
  exact L_MD_tellOf_10 C n23 a1 a2 a3 a4 a5 a6 ((M.1 287 a1.toNatClampNeg) - (1 : Int32)) M _ _ _ h hI (lv_sub hl [1, 2, 3, 4, 5, 6, 7, 0] rfl)
set_option maxHeartbeats 4000000 in
set_option maxRecDepth 100000 in
theorem L_MD_allTell_17 {p : Program} {l : Launch} {e : Env} {s : State} {m : MethodId} {args : Array Value} {below : List Frame} {meth : Method} {c : Code} {D : va_G} {cy : Nat → ClassId} {ad : Nat → Nat} (C : Cx p s m args meth c b_MD_allTell 9 (some .long) "BoostForestsModel" D cy ad) {Q : Int64 → gM → Prop} (n : Nat) : ∀ (x1 : Int32) (x2 : Int32) (x3 : Int32) (x4 : Int32) (x5 : Int32) (x6 : Int64) (x8 : Int32) (M : gM) (H : Heap) (locs : List Loc) (ls : Array Slot), wp_MD_allTell_17 Q n x1 x2 x3 x4 x5 x6 x8 M → gI D cy ad s M H locs → lv_has ls 9 [(0, .ref (ad 273)), (1, .int x1), (2, .int x2), (3, .int x3), (4, .int x4), (5, .int x5), (6, .long x6), (8, .int x8)] → W p l e rm_MD_allTell s m args below meth c H locs 0 0 (MQ below (va_Ql Q (gB D cy ad) (gA ad s.heap.size)) args s 0 0 (gA ad s.heap.size)) (F0 m 17 ls []) := by
  obtain ⟨hx, hb, hml, hown, hts, hr, hlk, hK, hja⟩ := id C
  induction n with
  | zero => exact fun _ _ _ _ _ _ _ _ _ _ _ h _ _ => h.elim
  | succ n ih =>
    intro x1 x2 x3 x4 x5 x6 x8 M H locs ls h hI hl
    have h := h
    refine lv_iload hx hb d_MD_allTell_17 (lv_at hl 7 rfl) ?_
    refine lv_aload_n hx hb d_MD_allTell_19 rfl (lv_at hl 0 rfl) ?_
    refine gw_get (v := .int (M.1 273 14)) C hI lay_273 i_MD rfl 14 (by decide) kw_3_85 rfl rfl d_MD_allTell_20 ?_
    refine lv_icmp_ge (tgt := 50) hx hb d_MD_allTell_23 (by decide) (fun c3 => ?_) (fun c3 => ?_)
    · have h := h.1 c3
      refine lv_lload hx hb d_MD_allTell_50 (lv_at hl 6 rfl) ?_
      exact gr_l C hI h d_MD_allTell_52
    · have h := h.2 c3
      refine lv_lload hx hb d_MD_allTell_26 (lv_at hl 6 rfl) ?_
      refine lv_aload_n hx hb d_MD_allTell_28 rfl (lv_at hl 0 rfl) ?_
      refine lv_iload hx hb d_MD_allTell_29 (lv_at hl 7 rfl) ?_
      refine lv_iload_n hx hb d_MD_allTell_31 rfl (lv_at hl 1 rfl) ?_
      refine lv_iload_n hx hb d_MD_allTell_32 rfl (lv_at hl 2 rfl) ?_
      refine lv_iload_n hx hb d_MD_allTell_33 rfl (lv_at hl 3 rfl) ?_
      refine lv_iload hx hb d_MD_allTell_34 (lv_at hl 4 rfl) ?_
      refine lv_iload hx hb d_MD_allTell_36 (lv_at hl 5 rfl) ?_
      refine gw_Vl C hI hl.1 (As := [.int x8, .int x1, .int x2, .int x3, .int x4, .int x5]) (rest := [.long x6]) (c_MD_tellOf hja h) kV_MD_196 lay_273 rfl rfl ⟨rfl, rfl⟩ ⟨Nat.le_of_ble_eq_true rfl, Nat.le_of_ble_eq_true rfl⟩ rfl (Nat.le_of_ble_eq_true rfl) ⟨Nat.zero_le _, Nat.zero_le _⟩ d_MD_allTell_38 (fun r1 M2 H locs h hI => ?_)
      refine lv_ladd hx hb d_MD_allTell_41 ?_
      refine lv_lstore (lv' := [(6, .long (x6 + r1)), (0, .ref (ad 273)), (1, .int x1), (2, .int x2), (3, .int x3), (4, .int x4), (5, .int x5), (8, .int x8)]) hx hb d_MD_allTell_42 hl (by decide) rfl (fun ls hl => ?_)
      refine lv_iinc (v := x8 + 1) (lv' := [(8, .int (x8 + 1)), (6, .long (x6 + r1)), (0, .ref (ad 273)), (1, .int x1), (2, .int x2), (3, .int x3), (4, .int x4), (5, .int x5)]) hx hb d_MD_allTell_44 hl (k := 7) rfl rfl (by decide) rfl (fun ls hl => ?_)
      refine lv_goto (tgt := 17) hx hb d_MD_allTell_47 (by decide) ?_
      exact ih x1 x2 x3 x4 x5 (x6 + r1) (x8 + 1) M2 _ _ _ h hI (lv_sub hl [2, 3, 4, 5, 6, 7, 1, 0] rfl)
set_option maxHeartbeats 4000000 in
set_option maxRecDepth 100000 in
theorem c_MD_allTell {l : Launch} {D : va_G} {cy : Nat → ClassId} {ad : Nat → Nat} (hj : gJ ad) {a1 : Int32} {a2 : Int32} {a3 : Int32} {a4 : Int32} {a5 : Int32} {M : gM} {Q : Int64 → gM → Prop} (h : wp_MD_allTell Q a1 a2 a3 a4 a5 M) : Cl l y_MD_allTell b_MD_allTell 9 (some .long) rm_MD_allTell D cy ad [.ref (ad 273), .int a1, .int a2, .int a3, .int a4, .int a5] M Q := by
  refine gm (by decide +kernel) hj (Nat.le_of_ble_eq_true rfl) (fun p e s m args below meth c ls C hl hI => ?_)
  have hl : lv_has ls 9 [(0, .ref (ad 273)), (1, .int a1), (2, .int a2), (3, .int a3), (4, .int a4), (5, .int a5)] := hl
  obtain ⟨hx, hb, hml, hown, hts, hr, hlk, hK, hja⟩ := id C
  refine lv_ldc2 hx hb hown (hts _ kw_3_201) d_MD_allTell_0 ?_
  refine lv_aload_n hx hb d_MD_allTell_3 rfl (lv_at hl 0 rfl) ?_
  refine gw_get (v := .ref (ad 283)) C hI lay_273 i_MD rfl 12 (by decide) kw_3_83 rfl rfl d_MD_allTell_4 ?_
  refine lv_bipush (v := (9 : Int32)) hx hb d_MD_allTell_7 (by decide) ?_
  refine gw_iald C hI lay_283 (j := 9) (by decide) (v := M.1 283 9) rfl (vi_lit (9 : Int32) 15 (by decide)) d_MD_allTell_9 ?_
  refine lv_i2l hx hb d_MD_allTell_10 rfl ?_
  refine lv_lmul hx hb d_MD_allTell_11 ?_
  refine lv_lstore (lv' := [(6, .long ((256 : Int64) * ((M.1 283 9).toInt64))), (0, .ref (ad 273)), (1, .int a1), (2, .int a2), (3, .int a3), (4, .int a4), (5, .int a5)]) hx hb d_MD_allTell_12 hl (by decide) rfl (fun ls hl => ?_)
  refine lv_iconst (v := (0 : Int32)) hx hb d_MD_allTell_14 (by decide) ?_
  refine lv_istore (lv' := [(8, .int (0 : Int32)), (6, .long ((256 : Int64) * ((M.1 283 9).toInt64))), (0, .ref (ad 273)), (1, .int a1), (2, .int a2), (3, .int a3), (4, .int a4), (5, .int a5)]) hx hb d_MD_allTell_15 hl (by decide) rfl (fun ls hl => ?_)
  obtain ⟨n4, h⟩ := h
  exact L_MD_allTell_17 C n4 a1 a2 a3 a4 a5 ((256 : Int64) * ((M.1 283 9).toInt64)) (0 : Int32) M _ _ _ h hI (lv_sub hl [2, 3, 4, 5, 6, 7, 1, 0] rfl)
set_option maxHeartbeats 4000000 in
set_option maxRecDepth 100000 in
theorem L_MD_told_22 {p : Program} {l : Launch} {e : Env} {s : State} {m : MethodId} {args : Array Value} {below : List Frame} {meth : Method} {c : Code} {D : va_G} {cy : Nat → ClassId} {ad : Nat → Nat} (C : Cx p s m args meth c b_MD_told 6 (some .long) "BoostForestsModel" D cy ad) {Q : Int64 → gM → Prop} {M : gM} {H : Heap} {locs : List Loc} {ls : Array Slot} (h : wp_MD_told_22 Q M) (hI : gI D cy ad s M H locs) (hl : lv_has ls 6 []) : W p l e rm_MD_told s m args below meth c H locs 0 0 (MQ below (va_Ql Q (gB D cy ad) (gA ad s.heap.size)) args s 0 0 (gA ad s.heap.size)) (F0 m 22 ls []) := by
  obtain ⟨hx, hb, hml, hown, hts, hr, hlk, hK, hja⟩ := id C
  refine lv_lconst (v := 0) hx hb d_MD_told_22 (by decide) ?_
  refine lv_goto (tgt := 37) hx hb d_MD_told_23 (by decide) ?_
  exact gr_l C hI h d_MD_told_37
set_option maxHeartbeats 4000000 in
set_option maxRecDepth 100000 in
theorem c_MD_told {l : Launch} {D : va_G} {cy : Nat → ClassId} {ad : Nat → Nat} (hj : gJ ad) {a1 : Int32} {a2 : Int32} {a3 : Int32} {a4 : Int32} {a5 : Int32} {M : gM} {Q : Int64 → gM → Prop} (h : wp_MD_told Q a1 a2 a3 a4 a5 M) : Cl l y_MD_told b_MD_told 6 (some .long) rm_MD_told D cy ad [.ref (ad 273), .int a1, .int a2, .int a3, .int a4, .int a5] M Q := by
  refine gm (by decide +kernel) hj (Nat.le_of_ble_eq_true rfl) (fun p e s m args below meth c ls C hl hI => ?_)
  have hl : lv_has ls 6 [(0, .ref (ad 273)), (1, .int a1), (2, .int a2), (3, .int a3), (4, .int a4), (5, .int a5)] := hl
  obtain ⟨hx, hb, hml, hown, hts, hr, hlk, hK, hja⟩ := id C
  refine lv_iload_n hx hb d_MD_told_0 rfl (lv_at hl 1 rfl) ?_
  refine lv_if_lt (tgt := 22) hx hb d_MD_told_1 (by decide) (fun c7 => ?_) (fun c7 => ?_)
  · have h := h.1 c7
    exact L_MD_told_22 C h hI (lv_sub hl [] rfl)
  · have h := h.2 c7
    refine lv_iload_n hx hb d_MD_told_4 rfl (lv_at hl 1 rfl) ?_
    refine lv_bipush (v := (15 : Int32)) hx hb d_MD_told_5 (by decide) ?_
    refine lv_icmp_gt (tgt := 22) hx hb d_MD_told_7 (by decide) (fun c6 => ?_) (fun c6 => ?_)
    · have h := h.1 c6
      exact L_MD_told_22 C h hI (lv_sub hl [] rfl)
    · have h := h.2 c6
      refine lv_iload_n hx hb d_MD_told_10 rfl (lv_at hl 2 rfl) ?_
      refine lv_iload_n hx hb d_MD_told_11 rfl (lv_at hl 3 rfl) ?_
      refine lv_iload hx hb d_MD_told_12 (lv_at hl 4 rfl) ?_
      refine lv_iload hx hb d_MD_told_14 (lv_at hl 5 rfl) ?_
      refine gw_Si C hI hl.1 (As := [.int a2, .int a3, .int a4, .int a5]) (rest := []) (c_MD_areNumbers hja h) kS_MD_91 rfl ⟨rfl, rfl⟩ ⟨Nat.le_of_ble_eq_true rfl, Nat.le_of_ble_eq_true rfl⟩ rfl (Nat.le_of_ble_eq_true rfl) ⟨Nat.zero_le _, Nat.zero_le _⟩ d_MD_told_16 (fun r1 M2 H locs h hI => ?_)
      refine lv_if_ne (tgt := 26) hx hb d_MD_told_19 (by decide) (fun c5 => ?_) (fun c5 => ?_)
      · have h := h.1 c5
        refine lv_aload_n hx hb d_MD_told_26 rfl (lv_at hl 0 rfl) ?_
        refine lv_iload_n hx hb d_MD_told_27 rfl (lv_at hl 1 rfl) ?_
        refine lv_iload_n hx hb d_MD_told_28 rfl (lv_at hl 2 rfl) ?_
        refine lv_iload_n hx hb d_MD_told_29 rfl (lv_at hl 3 rfl) ?_
        refine lv_iload hx hb d_MD_told_30 (lv_at hl 4 rfl) ?_
        refine lv_iload hx hb d_MD_told_32 (lv_at hl 5 rfl) ?_
        refine gw_Vl C hI hl.1 (As := [.int a1, .int a2, .int a3, .int a4, .int a5]) (rest := []) (c_MD_allTell hja h) kV_MD_200 lay_273 rfl rfl ⟨rfl, rfl⟩ ⟨Nat.le_of_ble_eq_true rfl, Nat.le_of_ble_eq_true rfl⟩ rfl (Nat.le_of_ble_eq_true rfl) ⟨Nat.zero_le _, Nat.zero_le _⟩ d_MD_told_34 (fun r3 M4 H locs h hI => ?_)
        exact gr_l C hI h d_MD_told_37
      · have h := h.2 c5
        exact L_MD_told_22 C h hI (lv_sub hl [] rfl)
set_option maxHeartbeats 4000000 in
set_option maxRecDepth 100000 in
theorem L_MD_share_131 {p : Program} {l : Launch} {e : Env} {s : State} {m : MethodId} {args : Array Value} {below : List Frame} {meth : Method} {c : Code} {D : va_G} {cy : Nat → ClassId} {ad : Nat → Nat} (C : Cx p s m args meth c b_MD_share 12 (some .long) "BoostForestsModel" D cy ad) {Q : Int64 → gM → Prop} {x1 : Int32} {x2 : Int32} {x3 : Int32} {x4 : Int32} {x5 : Int32} {x6 : Int64} {x8 : Int32} {k29 : Int32 → Int32 → Int32 → Int32 → Int32 → Int64 → Int32 → gM → Prop} {M : gM} {H : Heap} {locs : List Loc} {ls : Array Slot} (K29 : ∀ (x1 : Int32) (x2 : Int32) (x3 : Int32) (x4 : Int32) (x5 : Int32) (x6 : Int64) (x8 : Int32) (M : gM) (H : Heap) (locs : List Loc) (ls : Array Slot), k29 x1 x2 x3 x4 x5 x6 x8 M → gI D cy ad s M H locs → lv_has ls 12 [(0, .ref (ad 273)), (1, .int x1), (2, .int x2), (3, .int x3), (4, .int x4), (5, .int x5), (6, .long x6), (8, .int x8)] → W p l e rm_MD_share s m args below meth c H locs 0 0 (MQ below (va_Ql Q (gB D cy ad) (gA ad s.heap.size)) args s 0 0 (gA ad s.heap.size)) (F0 m 29 ls [])) (h : wp_MD_share_131 Q k29 x1 x2 x3 x4 x5 x6 x8 M) (hI : gI D cy ad s M H locs) (hl : lv_has ls 12 [(0, .ref (ad 273)), (1, .int x1), (2, .int x2), (3, .int x3), (4, .int x4), (5, .int x5), (6, .long x6), (8, .int x8)]) : W p l e rm_MD_share s m args below meth c H locs 0 0 (MQ below (va_Ql Q (gB D cy ad) (gA ad s.heap.size)) args s 0 0 (gA ad s.heap.size)) (F0 m 131 ls []) := by
  obtain ⟨hx, hb, hml, hown, hts, hr, hlk, hK, hja⟩ := id C
  refine lv_iinc (v := x8 + 1) (lv' := [(8, .int (x8 + 1)), (0, .ref (ad 273)), (1, .int x1), (2, .int x2), (3, .int x3), (4, .int x4), (5, .int x5), (6, .long x6)]) hx hb d_MD_share_131 hl (k := 7) rfl rfl (by decide) rfl (fun ls hl => ?_)
  refine lv_goto (tgt := 29) hx hb d_MD_share_134 (by decide) ?_
  exact K29 x1 x2 x3 x4 x5 x6 (x8 + 1) M _ _ _ h hI (lv_sub hl [1, 2, 3, 4, 5, 6, 7, 0] rfl)
set_option maxHeartbeats 4000000 in
set_option maxRecDepth 100000 in
theorem L_MD_share_127 {p : Program} {l : Launch} {e : Env} {s : State} {m : MethodId} {args : Array Value} {below : List Frame} {meth : Method} {c : Code} {D : va_G} {cy : Nat → ClassId} {ad : Nat → Nat} (C : Cx p s m args meth c b_MD_share 12 (some .long) "BoostForestsModel" D cy ad) {Q : Int64 → gM → Prop} {x1 : Int32} {x2 : Int32} {x3 : Int32} {x4 : Int32} {x5 : Int32} {x8 : Int32} {s0 : Int64} {s1 : Int64} {s2 : Int64} {k29 : Int32 → Int32 → Int32 → Int32 → Int32 → Int64 → Int32 → gM → Prop} {M : gM} {H : Heap} {locs : List Loc} {ls : Array Slot} (K29 : ∀ (x1 : Int32) (x2 : Int32) (x3 : Int32) (x4 : Int32) (x5 : Int32) (x6 : Int64) (x8 : Int32) (M : gM) (H : Heap) (locs : List Loc) (ls : Array Slot), k29 x1 x2 x3 x4 x5 x6 x8 M → gI D cy ad s M H locs → lv_has ls 12 [(0, .ref (ad 273)), (1, .int x1), (2, .int x2), (3, .int x3), (4, .int x4), (5, .int x5), (6, .long x6), (8, .int x8)] → W p l e rm_MD_share s m args below meth c H locs 0 0 (MQ below (va_Ql Q (gB D cy ad) (gA ad s.heap.size)) args s 0 0 (gA ad s.heap.size)) (F0 m 29 ls [])) (h : wp_MD_share_127 Q k29 x1 x2 x3 x4 x5 x8 s0 s1 s2 M) (hI : gI D cy ad s M H locs) (hl : lv_has ls 12 [(0, .ref (ad 273)), (1, .int x1), (2, .int x2), (3, .int x3), (4, .int x4), (5, .int x5), (8, .int x8)]) : W p l e rm_MD_share s m args below meth c H locs 0 0 (MQ below (va_Ql Q (gB D cy ad) (gA ad s.heap.size)) args s 0 0 (gA ad s.heap.size)) (F0 m 127 ls [.long s0, .long s1, .long s2]) := by
  obtain ⟨hx, hb, hml, hown, hts, hr, hlk, hK, hja⟩ := id C
  refine lv_lmul hx hb d_MD_share_127 ?_
  refine lv_ladd hx hb d_MD_share_128 ?_
  refine lv_lstore (lv' := [(6, .long (s2 + (s1 * s0))), (0, .ref (ad 273)), (1, .int x1), (2, .int x2), (3, .int x3), (4, .int x4), (5, .int x5), (8, .int x8)]) hx hb d_MD_share_129 hl (by decide) rfl (fun ls hl => ?_)
  exact L_MD_share_131 C K29 h hI (lv_sub hl [1, 2, 3, 4, 5, 6, 0, 7] rfl)
set_option maxHeartbeats 4000000 in
set_option maxRecDepth 100000 in
theorem L_MD_share_118 {p : Program} {l : Launch} {e : Env} {s : State} {m : MethodId} {args : Array Value} {below : List Frame} {meth : Method} {c : Code} {D : va_G} {cy : Nat → ClassId} {ad : Nat → Nat} (C : Cx p s m args meth c b_MD_share 12 (some .long) "BoostForestsModel" D cy ad) {Q : Int64 → gM → Prop} {x1 : Int32} {x2 : Int32} {x3 : Int32} {x4 : Int32} {x5 : Int32} {x8 : Int32} {s0 : Int64} {s1 : Int64} {k29 : Int32 → Int32 → Int32 → Int32 → Int32 → Int64 → Int32 → gM → Prop} {M : gM} {H : Heap} {locs : List Loc} {ls : Array Slot} (K29 : ∀ (x1 : Int32) (x2 : Int32) (x3 : Int32) (x4 : Int32) (x5 : Int32) (x6 : Int64) (x8 : Int32) (M : gM) (H : Heap) (locs : List Loc) (ls : Array Slot), k29 x1 x2 x3 x4 x5 x6 x8 M → gI D cy ad s M H locs → lv_has ls 12 [(0, .ref (ad 273)), (1, .int x1), (2, .int x2), (3, .int x3), (4, .int x4), (5, .int x5), (6, .long x6), (8, .int x8)] → W p l e rm_MD_share s m args below meth c H locs 0 0 (MQ below (va_Ql Q (gB D cy ad) (gA ad s.heap.size)) args s 0 0 (gA ad s.heap.size)) (F0 m 29 ls [])) (h : wp_MD_share_118 Q k29 x1 x2 x3 x4 x5 x8 s0 s1 M) (hI : gI D cy ad s M H locs) (hl : lv_has ls 12 [(0, .ref (ad 273)), (1, .int x1), (2, .int x2), (3, .int x3), (4, .int x4), (5, .int x5), (8, .int x8)]) : W p l e rm_MD_share s m args below meth c H locs 0 0 (MQ below (va_Ql Q (gB D cy ad) (gA ad s.heap.size)) args s 0 0 (gA ad s.heap.size)) (F0 m 118 ls [.long s0, .long s1]) := by
  obtain ⟨hx, hb, hml, hown, hts, hr, hlk, hK, hja⟩ := id C
  refine lv_ldc2 hx hb hown (hts _ kw_4_86) d_MD_share_118 ?_
  refine lv_goto (tgt := 127) hx hb d_MD_share_121 (by decide) ?_
  exact L_MD_share_127 C K29 h hI (lv_sub hl [0, 1, 2, 3, 4, 5, 6] rfl)
set_option maxHeartbeats 4000000 in
set_option maxRecDepth 100000 in
theorem L_MD_share_29 {p : Program} {l : Launch} {e : Env} {s : State} {m : MethodId} {args : Array Value} {below : List Frame} {meth : Method} {c : Code} {D : va_G} {cy : Nat → ClassId} {ad : Nat → Nat} (C : Cx p s m args meth c b_MD_share 12 (some .long) "BoostForestsModel" D cy ad) {Q : Int64 → gM → Prop} (n : Nat) : ∀ (x1 : Int32) (x2 : Int32) (x3 : Int32) (x4 : Int32) (x5 : Int32) (x6 : Int64) (x8 : Int32) (M : gM) (H : Heap) (locs : List Loc) (ls : Array Slot), wp_MD_share_29 Q n x1 x2 x3 x4 x5 x6 x8 M → gI D cy ad s M H locs → lv_has ls 12 [(0, .ref (ad 273)), (1, .int x1), (2, .int x2), (3, .int x3), (4, .int x4), (5, .int x5), (6, .long x6), (8, .int x8)] → W p l e rm_MD_share s m args below meth c H locs 0 0 (MQ below (va_Ql Q (gB D cy ad) (gA ad s.heap.size)) args s 0 0 (gA ad s.heap.size)) (F0 m 29 ls []) := by
  obtain ⟨hx, hb, hml, hown, hts, hr, hlk, hK, hja⟩ := id C
  induction n with
  | zero => exact fun _ _ _ _ _ _ _ _ _ _ _ h _ _ => h.elim
  | succ n ih =>
    intro x1 x2 x3 x4 x5 x6 x8 M H locs ls h hI hl
    have h := h
    refine lv_iload hx hb d_MD_share_29 (lv_at hl 7 rfl) ?_
    refine lv_bipush (v := (16 : Int32)) hx hb d_MD_share_31 (by decide) ?_
    refine lv_icmp_ge (tgt := 137) hx hb d_MD_share_33 (by decide) (fun c8 => ?_) (fun c8 => ?_)
    · have h := h.1 c8
      refine lv_lload hx hb d_MD_share_137 (lv_at hl 6 rfl) ?_
      exact gr_l C hI h d_MD_share_139
    · have h := h.2 c8
      refine lv_iload hx hb d_MD_share_36 (lv_at hl 7 rfl) ?_
      refine lv_iload_n hx hb d_MD_share_38 rfl (lv_at hl 1 rfl) ?_
      refine lv_ishr hx hb d_MD_share_39 ?_
      refine lv_iconst (v := (1 : Int32)) hx hb d_MD_share_40 (by decide) ?_
      refine lv_iand hx hb d_MD_share_41 ?_
      refine lv_if_ne (tgt := 131) hx hb d_MD_share_42 (by decide) (fun c7 => ?_) (fun c7 => ?_)
      · have h := h.1 c7
        exact L_MD_share_131 C ih h hI (lv_sub hl [0, 1, 2, 3, 4, 5, 6, 7] rfl)
      · have h := h.2 c7
        refine lv_iload hx hb d_MD_share_45 (lv_at hl 7 rfl) ?_
        refine lv_iconst (v := (1 : Int32)) hx hb d_MD_share_47 (by decide) ?_
        refine lv_iand hx hb d_MD_share_48 ?_
        refine lv_iload hx hb d_MD_share_49 (lv_at hl 7 rfl) ?_
        refine lv_iconst (v := (1 : Int32)) hx hb d_MD_share_51 (by decide) ?_
        refine lv_ishr hx hb d_MD_share_52 ?_
        refine lv_iconst (v := (1 : Int32)) hx hb d_MD_share_53 (by decide) ?_
        refine lv_iand hx hb d_MD_share_54 ?_
        refine lv_iadd hx hb d_MD_share_55 ?_
        refine lv_iload hx hb d_MD_share_56 (lv_at hl 7 rfl) ?_
        refine lv_iconst (v := (2 : Int32)) hx hb d_MD_share_58 (by decide) ?_
        refine lv_ishr hx hb d_MD_share_59 ?_
        refine lv_iconst (v := (1 : Int32)) hx hb d_MD_share_60 (by decide) ?_
        refine lv_iand hx hb d_MD_share_61 ?_
        refine lv_iadd hx hb d_MD_share_62 ?_
        refine lv_iload hx hb d_MD_share_63 (lv_at hl 7 rfl) ?_
        refine lv_iconst (v := (3 : Int32)) hx hb d_MD_share_65 (by decide) ?_
        refine lv_ishr hx hb d_MD_share_66 ?_
        refine lv_iconst (v := (1 : Int32)) hx hb d_MD_share_67 (by decide) ?_
        refine lv_iand hx hb d_MD_share_68 ?_
        refine lv_iadd hx hb d_MD_share_69 ?_
        refine lv_istore (lv' := [(9, .int ((((x8 &&& (1 : Int32)) + ((x8 >>> ((1 : Int32) &&& 31)) &&& (1 : Int32))) + ((x8 >>> ((2 : Int32) &&& 31)) &&& (1 : Int32))) + ((x8 >>> ((3 : Int32) &&& 31)) &&& (1 : Int32)))), (0, .ref (ad 273)), (1, .int x1), (2, .int x2), (3, .int x3), (4, .int x4), (5, .int x5), (6, .long x6), (8, .int x8)]) hx hb d_MD_share_70 hl (by decide) rfl (fun ls hl => ?_)
        refine lv_aload_n hx hb d_MD_share_72 rfl (lv_at hl 1 rfl) ?_
        refine lv_iload hx hb d_MD_share_73 (lv_at hl 8 rfl) ?_
        refine lv_iconst (v := (1 : Int32)) hx hb d_MD_share_75 (by decide) ?_
        refine lv_iload_n hx hb d_MD_share_76 rfl (lv_at hl 2 rfl) ?_
        refine lv_ishl hx hb d_MD_share_77 ?_
        refine lv_ior hx hb d_MD_share_78 ?_
        refine lv_iload_n hx hb d_MD_share_79 rfl (lv_at hl 3 rfl) ?_
        refine lv_iload_n hx hb d_MD_share_80 rfl (lv_at hl 4 rfl) ?_
        refine lv_iload hx hb d_MD_share_81 (lv_at hl 5 rfl) ?_
        refine lv_iload hx hb d_MD_share_83 (lv_at hl 6 rfl) ?_
        refine gw_Vl C hI hl.1 (As := [.int (x8 ||| ((1 : Int32) <<< (x1 &&& 31))), .int x2, .int x3, .int x4, .int x5]) (rest := []) (c_MD_allTell hja h) kV_MD_200 lay_273 rfl rfl ⟨rfl, rfl⟩ ⟨Nat.le_of_ble_eq_true rfl, Nat.le_of_ble_eq_true rfl⟩ rfl (Nat.le_of_ble_eq_true rfl) ⟨Nat.zero_le _, Nat.zero_le _⟩ d_MD_share_85 (fun r1 M2 H locs h hI => ?_)
        refine lv_aload_n hx hb d_MD_share_88 rfl (lv_at hl 1 rfl) ?_
        refine lv_iload hx hb d_MD_share_89 (lv_at hl 8 rfl) ?_
        refine lv_iload_n hx hb d_MD_share_91 rfl (lv_at hl 3 rfl) ?_
        refine lv_iload_n hx hb d_MD_share_92 rfl (lv_at hl 4 rfl) ?_
        refine lv_iload hx hb d_MD_share_93 (lv_at hl 5 rfl) ?_
        refine lv_iload hx hb d_MD_share_95 (lv_at hl 6 rfl) ?_
        refine gw_Vl C hI hl.1 (As := [.int x8, .int x2, .int x3, .int x4, .int x5]) (rest := [.long r1]) (c_MD_allTell hja h) kV_MD_200 lay_273 rfl rfl ⟨rfl, rfl⟩ ⟨Nat.le_of_ble_eq_true rfl, Nat.le_of_ble_eq_true rfl⟩ rfl (Nat.le_of_ble_eq_true rfl) ⟨Nat.zero_le _, Nat.zero_le _⟩ d_MD_share_97 (fun r3 M4 H locs h hI => ?_)
        refine lv_lsub hx hb d_MD_share_100 ?_
        refine lv_lstore (lv' := [(10, .long (r1 - r3)), (9, .int ((((x8 &&& (1 : Int32)) + ((x8 >>> ((1 : Int32) &&& 31)) &&& (1 : Int32))) + ((x8 >>> ((2 : Int32) &&& 31)) &&& (1 : Int32))) + ((x8 >>> ((3 : Int32) &&& 31)) &&& (1 : Int32)))), (0, .ref (ad 273)), (1, .int x1), (2, .int x2), (3, .int x3), (4, .int x4), (5, .int x5), (6, .long x6), (8, .int x8)]) hx hb d_MD_share_101 hl (by decide) rfl (fun ls hl => ?_)
        refine lv_lload hx hb d_MD_share_103 (lv_at hl 8 rfl) ?_
        refine lv_lload hx hb d_MD_share_105 (lv_at hl 0 rfl) ?_
        refine lv_iload hx hb d_MD_share_107 (lv_at hl 1 rfl) ?_
        refine lv_if_eq (tgt := 118) hx hb d_MD_share_109 (by decide) (fun c6 => ?_) (fun c6 => ?_)
        · have h := h.1 c6
          exact L_MD_share_118 C ih h hI (lv_sub hl [2, 3, 4, 5, 6, 7, 9] rfl)
        · have h := h.2 c6
          refine lv_iload hx hb d_MD_share_112 (lv_at hl 1 rfl) ?_
          refine lv_iconst (v := (3 : Int32)) hx hb d_MD_share_114 (by decide) ?_
          refine lv_icmp_ne (tgt := 124) hx hb d_MD_share_115 (by decide) (fun c5 => ?_) (fun c5 => ?_)
          · have h := h.1 c5
            refine lv_ldc2 hx hb hown (hts _ kw_4_87) d_MD_share_124 ?_
            exact L_MD_share_127 C ih h hI (lv_sub hl [2, 3, 4, 5, 6, 7, 9] rfl)
          · have h := h.2 c5
            exact L_MD_share_118 C ih h hI (lv_sub hl [2, 3, 4, 5, 6, 7, 9] rfl)
set_option maxHeartbeats 4000000 in
set_option maxRecDepth 100000 in
theorem L_MD_share_21 {p : Program} {l : Launch} {e : Env} {s : State} {m : MethodId} {args : Array Value} {below : List Frame} {meth : Method} {c : Code} {D : va_G} {cy : Nat → ClassId} {ad : Nat → Nat} (C : Cx p s m args meth c b_MD_share 12 (some .long) "BoostForestsModel" D cy ad) {Q : Int64 → gM → Prop} {M : gM} {H : Heap} {locs : List Loc} {ls : Array Slot} (h : wp_MD_share_21 Q M) (hI : gI D cy ad s M H locs) (hl : lv_has ls 12 []) : W p l e rm_MD_share s m args below meth c H locs 0 0 (MQ below (va_Ql Q (gB D cy ad) (gA ad s.heap.size)) args s 0 0 (gA ad s.heap.size)) (F0 m 21 ls []) := by
  obtain ⟨hx, hb, hml, hown, hts, hr, hlk, hK, hja⟩ := id C
  refine lv_lconst (v := 0) hx hb d_MD_share_21 (by decide) ?_
  exact gr_l C hI h d_MD_share_22
set_option maxHeartbeats 4000000 in
set_option maxRecDepth 100000 in
theorem c_MD_share {l : Launch} {D : va_G} {cy : Nat → ClassId} {ad : Nat → Nat} (hj : gJ ad) {a1 : Int32} {a2 : Int32} {a3 : Int32} {a4 : Int32} {a5 : Int32} {M : gM} {Q : Int64 → gM → Prop} (h : wp_MD_share Q a1 a2 a3 a4 a5 M) : Cl l y_MD_share b_MD_share 12 (some .long) rm_MD_share D cy ad [.ref (ad 273), .int a1, .int a2, .int a3, .int a4, .int a5] M Q := by
  refine gm (by decide +kernel) hj (Nat.le_of_ble_eq_true rfl) (fun p e s m args below meth c ls C hl hI => ?_)
  have hl : lv_has ls 12 [(0, .ref (ad 273)), (1, .int a1), (2, .int a2), (3, .int a3), (4, .int a4), (5, .int a5)] := hl
  obtain ⟨hx, hb, hml, hown, hts, hr, hlk, hK, hja⟩ := id C
  refine lv_iload_n hx hb d_MD_share_0 rfl (lv_at hl 1 rfl) ?_
  refine lv_if_lt (tgt := 21) hx hb d_MD_share_1 (by decide) (fun c14 => ?_) (fun c14 => ?_)
  · have h := h.1 c14
    exact L_MD_share_21 C h hI (lv_sub hl [] rfl)
  · have h := h.2 c14
    refine lv_iload_n hx hb d_MD_share_4 rfl (lv_at hl 1 rfl) ?_
    refine lv_iconst (v := (4 : Int32)) hx hb d_MD_share_5 (by decide) ?_
    refine lv_icmp_ge (tgt := 21) hx hb d_MD_share_6 (by decide) (fun c13 => ?_) (fun c13 => ?_)
    · have h := h.1 c13
      exact L_MD_share_21 C h hI (lv_sub hl [] rfl)
    · have h := h.2 c13
      refine lv_iload_n hx hb d_MD_share_9 rfl (lv_at hl 2 rfl) ?_
      refine lv_iload_n hx hb d_MD_share_10 rfl (lv_at hl 3 rfl) ?_
      refine lv_iload hx hb d_MD_share_11 (lv_at hl 4 rfl) ?_
      refine lv_iload hx hb d_MD_share_13 (lv_at hl 5 rfl) ?_
      refine gw_Si C hI hl.1 (As := [.int a2, .int a3, .int a4, .int a5]) (rest := []) (c_MD_areNumbers hja h) kS_MD_91 rfl ⟨rfl, rfl⟩ ⟨Nat.le_of_ble_eq_true rfl, Nat.le_of_ble_eq_true rfl⟩ rfl (Nat.le_of_ble_eq_true rfl) ⟨Nat.zero_le _, Nat.zero_le _⟩ d_MD_share_15 (fun r9 M10 H locs h hI => ?_)
      refine lv_if_ne (tgt := 23) hx hb d_MD_share_18 (by decide) (fun c12 => ?_) (fun c12 => ?_)
      · have h := h.1 c12
        refine lv_lconst (v := 0) hx hb d_MD_share_23 (by decide) ?_
        refine lv_lstore (lv' := [(6, .long (0 : Int64)), (0, .ref (ad 273)), (1, .int a1), (2, .int a2), (3, .int a3), (4, .int a4), (5, .int a5)]) hx hb d_MD_share_24 hl (by decide) rfl (fun ls hl => ?_)
        refine lv_iconst (v := (0 : Int32)) hx hb d_MD_share_26 (by decide) ?_
        refine lv_istore (lv' := [(8, .int (0 : Int32)), (6, .long (0 : Int64)), (0, .ref (ad 273)), (1, .int a1), (2, .int a2), (3, .int a3), (4, .int a4), (5, .int a5)]) hx hb d_MD_share_27 hl (by decide) rfl (fun ls hl => ?_)
        obtain ⟨n11, h⟩ := h
        exact L_MD_share_29 C n11 a1 a2 a3 a4 a5 (0 : Int64) (0 : Int32) M10 _ _ _ h hI (lv_sub hl [2, 3, 4, 5, 6, 7, 1, 0] rfl)
      · have h := h.2 c12
        exact L_MD_share_21 C h hI (lv_sub hl [] rfl)
set_option maxHeartbeats 4000000 in
set_option maxRecDepth 100000 in
theorem L_MD_count_40 {p : Program} {l : Launch} {e : Env} {s : State} {m : MethodId} {args : Array Value} {below : List Frame} {meth : Method} {c : Code} {D : va_G} {cy : Nat → ClassId} {ad : Nat → Nat} (C : Cx p s m args meth c b_MD_count 4 (some .int) "BoostForestsModel" D cy ad) {Q : Int32 → gM → Prop} {x1 : Int32} {x3 : Int32} {s0 : Int32} {s1 : Int32} {k17 : Int32 → Int32 → Int32 → gM → Prop} {M : gM} {H : Heap} {locs : List Loc} {ls : Array Slot} (K17 : ∀ (x1 : Int32) (x2 : Int32) (x3 : Int32) (M : gM) (H : Heap) (locs : List Loc) (ls : Array Slot), k17 x1 x2 x3 M → gI D cy ad s M H locs → lv_has ls 4 [(0, .ref (ad 273)), (1, .int x1), (2, .int x2), (3, .int x3)] → W p l e rm_MD_count s m args below meth c H locs 0 0 (MQ below (va_Qi Q (gB D cy ad) (gA ad s.heap.size)) args s 0 0 (gA ad s.heap.size)) (F0 m 17 ls [])) (h : wp_MD_count_40 Q k17 x1 x3 s0 s1 M) (hI : gI D cy ad s M H locs) (hl : lv_has ls 4 [(0, .ref (ad 273)), (1, .int x1), (3, .int x3)]) : W p l e rm_MD_count s m args below meth c H locs 0 0 (MQ below (va_Qi Q (gB D cy ad) (gA ad s.heap.size)) args s 0 0 (gA ad s.heap.size)) (F0 m 40 ls [.int s0, .int s1]) := by
  obtain ⟨hx, hb, hml, hown, hts, hr, hlk, hK, hja⟩ := id C
  refine lv_iadd hx hb d_MD_count_40 ?_
  refine lv_istore_n (lv' := [(2, .int (s1 + s0)), (0, .ref (ad 273)), (1, .int x1), (3, .int x3)]) hx hb d_MD_count_41 rfl hl (by decide) rfl (fun ls hl => ?_)
  refine lv_iinc (v := x3 + 1) (lv' := [(3, .int (x3 + 1)), (2, .int (s1 + s0)), (0, .ref (ad 273)), (1, .int x1)]) hx hb d_MD_count_42 hl (k := 3) rfl rfl (by decide) rfl (fun ls hl => ?_)
  refine lv_goto (tgt := 17) hx hb d_MD_count_45 (by decide) ?_
  exact K17 x1 (s1 + s0) (x3 + 1) M _ _ _ h hI (lv_sub hl [2, 3, 1, 0] rfl)
set_option maxHeartbeats 4000000 in
set_option maxRecDepth 100000 in
theorem L_MD_count_17 {p : Program} {l : Launch} {e : Env} {s : State} {m : MethodId} {args : Array Value} {below : List Frame} {meth : Method} {c : Code} {D : va_G} {cy : Nat → ClassId} {ad : Nat → Nat} (C : Cx p s m args meth c b_MD_count 4 (some .int) "BoostForestsModel" D cy ad) {Q : Int32 → gM → Prop} (n : Nat) : ∀ (x1 : Int32) (x2 : Int32) (x3 : Int32) (M : gM) (H : Heap) (locs : List Loc) (ls : Array Slot), wp_MD_count_17 Q n x1 x2 x3 M → gI D cy ad s M H locs → lv_has ls 4 [(0, .ref (ad 273)), (1, .int x1), (2, .int x2), (3, .int x3)] → W p l e rm_MD_count s m args below meth c H locs 0 0 (MQ below (va_Qi Q (gB D cy ad) (gA ad s.heap.size)) args s 0 0 (gA ad s.heap.size)) (F0 m 17 ls []) := by
  obtain ⟨hx, hb, hml, hown, hts, hr, hlk, hK, hja⟩ := id C
  induction n with
  | zero => exact fun _ _ _ _ _ _ _ h _ _ => h.elim
  | succ n ih =>
    intro x1 x2 x3 M H locs ls h hI hl
    have h := h
    refine lv_iload_n hx hb d_MD_count_17 rfl (lv_at hl 3 rfl) ?_
    refine lv_aload_n hx hb d_MD_count_18 rfl (lv_at hl 0 rfl) ?_
    refine gw_get (v := .int (M.1 273 0)) C hI lay_273 i_MD rfl 0 (by decide) kw_3_71 rfl rfl d_MD_count_19 ?_
    refine lv_icmp_ge (tgt := 48) hx hb d_MD_count_22 (by decide) (fun c8 => ?_) (fun c8 => ?_)
    · have h := h.1 c8
      refine lv_iload_n hx hb d_MD_count_48 rfl (lv_at hl 1 rfl) ?_
      refine lv_if_ne (tgt := 59) hx hb d_MD_count_49 (by decide) (fun c5 => ?_) (fun c5 => ?_)
      · have h := h.1 c5
        refine lv_iload_n hx hb d_MD_count_59 rfl (lv_at hl 1 rfl) ?_
        refine lv_iconst (v := (1 : Int32)) hx hb d_MD_count_60 (by decide) ?_
        refine lv_icmp_ne (tgt := 68) hx hb d_MD_count_61 (by decide) (fun c4 => ?_) (fun c4 => ?_)
        · have h := h.1 c4
          refine lv_iload_n hx hb d_MD_count_68 rfl (lv_at hl 1 rfl) ?_
          refine lv_iconst (v := (2 : Int32)) hx hb d_MD_count_69 (by decide) ?_
          refine lv_icmp_ne (tgt := 80) hx hb d_MD_count_70 (by decide) (fun c3 => ?_) (fun c3 => ?_)
          · have h := h.1 c3
            refine lv_iload_n hx hb d_MD_count_80 rfl (lv_at hl 1 rfl) ?_
            refine lv_iconst (v := (3 : Int32)) hx hb d_MD_count_81 (by decide) ?_
            refine lv_icmp_ne (tgt := 92) hx hb d_MD_count_82 (by decide) (fun c2 => ?_) (fun c2 => ?_)
            · have h := h.1 c2
              refine lv_aload_n hx hb d_MD_count_92 rfl (lv_at hl 0 rfl) ?_
              refine gw_get (v := .ref (ad 278)) C hI lay_273 i_MD rfl 5 (by decide) kw_3_76 rfl rfl d_MD_count_93 ?_
              refine lv_iload_n hx hb d_MD_count_96 rfl (lv_at hl 1 rfl) ?_
              refine lv_iconst (v := (4 : Int32)) hx hb d_MD_count_97 (by decide) ?_
              refine lv_isub hx hb d_MD_count_98 ?_
              obtain ⟨g1, h⟩ := h
              refine gw_iald C hI lay_278 (j := (x1 - (4 : Int32)).toNatClampNeg) rfl (v := M.1 278 ((x1 - (4 : Int32)).toNatClampNeg)) rfl g1 d_MD_count_99 ?_
              exact gr_i C hI h d_MD_count_100
            · have h := h.2 c2
              refine lv_aload_n hx hb d_MD_count_85 rfl (lv_at hl 0 rfl) ?_
              refine gw_get (v := .int (M.1 273 7)) C hI lay_273 i_MD rfl 7 (by decide) kw_3_78 rfl rfl d_MD_count_86 ?_
              refine lv_goto (tgt := 100) hx hb d_MD_count_89 (by decide) ?_
              exact gr_i C hI h d_MD_count_100
          · have h := h.2 c3
            refine lv_aload_n hx hb d_MD_count_73 rfl (lv_at hl 0 rfl) ?_
            refine gw_get (v := .int (M.1 273 14)) C hI lay_273 i_MD rfl 14 (by decide) kw_3_85 rfl rfl d_MD_count_74 ?_
            refine lv_goto (tgt := 100) hx hb d_MD_count_77 (by decide) ?_
            exact gr_i C hI h d_MD_count_100
        · have h := h.2 c4
          refine lv_iload_n hx hb d_MD_count_64 rfl (lv_at hl 2 rfl) ?_
          refine lv_goto (tgt := 100) hx hb d_MD_count_65 (by decide) ?_
          exact gr_i C hI h d_MD_count_100
      · have h := h.2 c5
        refine lv_aload_n hx hb d_MD_count_52 rfl (lv_at hl 0 rfl) ?_
        refine gw_get (v := .int (M.1 273 0)) C hI lay_273 i_MD rfl 0 (by decide) kw_3_71 rfl rfl d_MD_count_53 ?_
        refine lv_goto (tgt := 100) hx hb d_MD_count_56 (by decide) ?_
        exact gr_i C hI h d_MD_count_100
    · have h := h.2 c8
      refine lv_iload_n hx hb d_MD_count_25 rfl (lv_at hl 2 rfl) ?_
      refine lv_aload_n hx hb d_MD_count_26 rfl (lv_at hl 0 rfl) ?_
      refine gw_get (v := .ref (ad 277)) C hI lay_273 i_MD rfl 4 (by decide) kw_3_75 rfl rfl d_MD_count_27 ?_
      refine lv_iload_n hx hb d_MD_count_30 rfl (lv_at hl 3 rfl) ?_
      obtain ⟨g6, h⟩ := h
      refine gw_zald C hI lay_277 (j := x3.toNatClampNeg) rfl (v := M.1 277 x3.toNatClampNeg) rfl g6 d_MD_count_31 ?_
      refine lv_if_eq (tgt := 39) hx hb d_MD_count_32 (by decide) (fun c7 => ?_) (fun c7 => ?_)
      · have h := h.1 c7
        refine lv_iconst (v := (0 : Int32)) hx hb d_MD_count_39 (by decide) ?_
        exact L_MD_count_40 C ih h hI (lv_sub hl [0, 1, 3] rfl)
      · have h := h.2 c7
        refine lv_iconst (v := (1 : Int32)) hx hb d_MD_count_35 (by decide) ?_
        refine lv_goto (tgt := 40) hx hb d_MD_count_36 (by decide) ?_
        exact L_MD_count_40 C ih h hI (lv_sub hl [0, 1, 3] rfl)
set_option maxHeartbeats 4000000 in
set_option maxRecDepth 100000 in
theorem L_MD_count_10 {p : Program} {l : Launch} {e : Env} {s : State} {m : MethodId} {args : Array Value} {below : List Frame} {meth : Method} {c : Code} {D : va_G} {cy : Nat → ClassId} {ad : Nat → Nat} (C : Cx p s m args meth c b_MD_count 4 (some .int) "BoostForestsModel" D cy ad) {Q : Int32 → gM → Prop} {M : gM} {H : Heap} {locs : List Loc} {ls : Array Slot} (h : wp_MD_count_10 Q M) (hI : gI D cy ad s M H locs) (hl : lv_has ls 4 []) : W p l e rm_MD_count s m args below meth c H locs 0 0 (MQ below (va_Qi Q (gB D cy ad) (gA ad s.heap.size)) args s 0 0 (gA ad s.heap.size)) (F0 m 10 ls []) := by
  obtain ⟨hx, hb, hml, hown, hts, hr, hlk, hK, hja⟩ := id C
  refine lv_bipush (v := (-2 : Int32)) hx hb d_MD_count_10 (by decide) ?_
  exact gr_i C hI h d_MD_count_12
set_option maxHeartbeats 4000000 in
set_option maxRecDepth 100000 in
theorem c_MD_count {l : Launch} {D : va_G} {cy : Nat → ClassId} {ad : Nat → Nat} (hj : gJ ad) {a1 : Int32} {M : gM} {Q : Int32 → gM → Prop} (h : wp_MD_count Q a1 M) : Ci l y_MD_count b_MD_count 4 (some .int) rm_MD_count D cy ad [.ref (ad 273), .int a1] M Q := by
  refine gm (by decide +kernel) hj (Nat.le_of_ble_eq_true rfl) (fun p e s m args below meth c ls C hl hI => ?_)
  have hl : lv_has ls 4 [(0, .ref (ad 273)), (1, .int a1)] := hl
  obtain ⟨hx, hb, hml, hown, hts, hr, hlk, hK, hja⟩ := id C
  refine lv_iload_n hx hb d_MD_count_0 rfl (lv_at hl 1 rfl) ?_
  refine lv_if_lt (tgt := 10) hx hb d_MD_count_1 (by decide) (fun c11 => ?_) (fun c11 => ?_)
  · have h := h.1 c11
    exact L_MD_count_10 C h hI (lv_sub hl [] rfl)
  · have h := h.2 c11
    refine lv_iload_n hx hb d_MD_count_4 rfl (lv_at hl 1 rfl) ?_
    refine lv_bipush (v := (19 : Int32)) hx hb d_MD_count_5 (by decide) ?_
    refine lv_icmp_lt (tgt := 13) hx hb d_MD_count_7 (by decide) (fun c10 => ?_) (fun c10 => ?_)
    · have h := h.1 c10
      refine lv_iconst (v := (0 : Int32)) hx hb d_MD_count_13 (by decide) ?_
      refine lv_istore_n (lv' := [(2, .int (0 : Int32)), (0, .ref (ad 273)), (1, .int a1)]) hx hb d_MD_count_14 rfl hl (by decide) rfl (fun ls hl => ?_)
      refine lv_iconst (v := (0 : Int32)) hx hb d_MD_count_15 (by decide) ?_
      refine lv_istore_n (lv' := [(3, .int (0 : Int32)), (2, .int (0 : Int32)), (0, .ref (ad 273)), (1, .int a1)]) hx hb d_MD_count_16 rfl hl (by decide) rfl (fun ls hl => ?_)
      obtain ⟨n9, h⟩ := h
      exact L_MD_count_17 C n9 a1 (0 : Int32) (0 : Int32) M _ _ _ h hI (lv_sub hl [2, 3, 1, 0] rfl)
    · have h := h.2 c10
      exact L_MD_count_10 C h hI (lv_sub hl [] rfl)

set_option maxHeartbeats 4000000 in
set_option maxRecDepth 100000 in
theorem c_TG_baseUnits {l : Launch} {D : va_G} {cy : Nat → ClassId} {ad : Nat → Nat} (hj : gJ ad) {M : gM} {Q : Int64 → gM → Prop} (h : wp_TG_baseUnits Q M) : Cl l y_TG_baseUnits b_TG_baseUnits 1 (some .long) rm_TG_baseUnits D cy ad [.ref (ad 47)] M Q := by
  refine gm (by decide +kernel) hj (Nat.le_of_ble_eq_true rfl) (fun p e s m args below meth c ls C hl hI => ?_)
  have hl : lv_has ls 1 [(0, .ref (ad 47))] := hl
  obtain ⟨hx, hb, hml, hown, hts, hr, hlk, hK, hja⟩ := id C
  refine lv_ldc2 hx hb hown (hts _ kw_2_71) d_TG_baseUnits_0 ?_
  refine lv_aload_n hx hb d_TG_baseUnits_3 rfl (lv_at hl 0 rfl) ?_
  refine gw_get (v := .ref (ad 94)) C hI lay_47 i_TG rfl 2 (by decide) kw_1_198 rfl rfl d_TG_baseUnits_4 ?_
  refine lv_bipush (v := (9 : Int32)) hx hb d_TG_baseUnits_7 (by decide) ?_
  refine gw_iald C hI lay_94 (j := 9) (by decide) (v := M.1 94 9) rfl (vi_lit (9 : Int32) 15 (by decide)) d_TG_baseUnits_9 ?_
  refine lv_i2l hx hb d_TG_baseUnits_10 rfl ?_
  refine lv_lmul hx hb d_TG_baseUnits_11 ?_
  exact gr_l C hI h d_TG_baseUnits_12
set_option maxHeartbeats 4000000 in
set_option maxRecDepth 100000 in
theorem L_TG_keepLosses_80 {p : Program} {l : Launch} {e : Env} {s : State} {m : MethodId} {args : Array Value} {below : List Frame} {meth : Method} {c : Code} {D : va_G} {cy : Nat → ClassId} {ad : Nat → Nat} (C : Cx p s m args meth c b_TG_keepLosses 4 none "BoostForests$Training" D cy ad) {Q : gM → Prop} {x1 : Int32} {x2 : Int64} {s0 : Int32} {k26 : Int32 → gM → Prop} {M : gM} {H : Heap} {locs : List Loc} {ls : Array Slot} (K26 : ∀ (x1 : Int32) (M : gM) (H : Heap) (locs : List Loc) (ls : Array Slot), k26 x1 M → gI D cy ad s M H locs → lv_has ls 4 [(0, .ref (ad 47)), (1, .int x1)] → W p l e rm_TG_keepLosses s m args below meth c H locs 0 0 (MQ below (va_Qv Q (gB D cy ad) (gA ad s.heap.size)) args s 0 0 (gA ad s.heap.size)) (F0 m 26 ls [])) (h : wp_TG_keepLosses_80 Q k26 x1 x2 s0 M) (hI : gI D cy ad s M H locs) (hl : lv_has ls 4 [(0, .ref (ad 47)), (1, .int x1), (2, .long x2)]) : W p l e rm_TG_keepLosses s m args below meth c H locs 0 0 (MQ below (va_Qv Q (gB D cy ad) (gA ad s.heap.size)) args s 0 0 (gA ad s.heap.size)) (F0 m 80 ls [.int s0, .ref (ad 112)]) := by
  obtain ⟨hx, hb, hml, hown, hts, hr, hlk, hK, hja⟩ := id C
  obtain ⟨g1, h⟩ := h
  refine gw_aald C hI lay_112 rfl rfl (j := s0.toNatClampNeg) rfl (k' := 113 + s0.toNatClampNeg) (by omega) g1 d_TG_keepLosses_80 ?_
  refine lv_aload_n hx hb d_TG_keepLosses_81 rfl (lv_at hl 0 rfl) ?_
  refine gw_get (v := .int (M.1 47 9)) C hI lay_47 i_TG rfl 9 (by decide) kw_1_209 rfl rfl d_TG_keepLosses_82 ?_
  refine lv_dup2_11 hx hb d_TG_keepLosses_85 rfl rfl ?_
  obtain ⟨g2, h⟩ := h
  refine gw_lald C hI (lay_losses _ (vi_lt g1)) (j := (M.1 47 9).toNatClampNeg) rfl (v := M.2 (113 + s0.toNatClampNeg) ((M.1 47 9).toNatClampNeg)) rfl g2 d_TG_keepLosses_86 ?_
  refine lv_aload_n hx hb d_TG_keepLosses_87 rfl (lv_at hl 0 rfl) ?_
  refine gw_get (v := .ref (ad 49)) C hI lay_47 i_TG rfl 1 (by decide) kw_1_196 rfl rfl d_TG_keepLosses_88 ?_
  refine gw_get (v := .ref (ad 92)) C hI isTB_49.1 i_TB rfl 2 (by decide) kw_1_36 rfl rfl d_TG_keepLosses_91 ?_
  refine lv_iload_n hx hb d_TG_keepLosses_94 rfl (lv_at hl 1 rfl) ?_
  obtain ⟨g3, h⟩ := h
  refine gw_iald C hI isTB_49.2.2.2.2.1 (j := x1.toNatClampNeg) rfl (v := M.1 92 x1.toNatClampNeg) rfl g3 d_TG_keepLosses_95 ?_
  refine lv_i2l hx hb d_TG_keepLosses_96 rfl ?_
  refine lv_lload_n hx hb d_TG_keepLosses_97 rfl (lv_at hl 2 rfl) ?_
  refine lv_lmul hx hb d_TG_keepLosses_98 ?_
  refine lv_lload_n hx hb d_TG_keepLosses_99 rfl (lv_at hl 2 rfl) ?_
  refine lv_lmul hx hb d_TG_keepLosses_100 ?_
  refine lv_ladd hx hb d_TG_keepLosses_101 ?_
  refine gw_last C hI (lay_losses _ (vi_lt g1)) (j := (M.1 47 9).toNatClampNeg) rfl g2 d_TG_keepLosses_102 (fun H locs hI => ?_)
  refine lv_iinc (v := x1 + 1) (lv' := [(1, .int (x1 + 1)), (0, .ref (ad 47)), (2, .long x2)]) hx hb d_TG_keepLosses_103 hl (k := 1) rfl rfl (by decide) rfl (fun ls hl => ?_)
  refine lv_goto (tgt := 26) hx hb d_TG_keepLosses_106 (by decide) ?_
  exact K26 (x1 + 1) (wl M (113 + s0.toNatClampNeg) ((M.1 47 9).toNatClampNeg) ((M.2 (113 + s0.toNatClampNeg) ((M.1 47 9).toNatClampNeg)) + ((((M.1 92 x1.toNatClampNeg).toInt64) * x2) * x2))) _ _ _ h hI (lv_sub hl [1, 0] rfl)
set_option maxHeartbeats 4000000 in
set_option maxRecDepth 100000 in
theorem L_TG_keepLosses_26 {p : Program} {l : Launch} {e : Env} {s : State} {m : MethodId} {args : Array Value} {below : List Frame} {meth : Method} {c : Code} {D : va_G} {cy : Nat → ClassId} {ad : Nat → Nat} (C : Cx p s m args meth c b_TG_keepLosses 4 none "BoostForests$Training" D cy ad) {Q : gM → Prop} (n : Nat) : ∀ (x1 : Int32) (M : gM) (H : Heap) (locs : List Loc) (ls : Array Slot), wp_TG_keepLosses_26 Q n x1 M → gI D cy ad s M H locs → lv_has ls 4 [(0, .ref (ad 47)), (1, .int x1)] → W p l e rm_TG_keepLosses s m args below meth c H locs 0 0 (MQ below (va_Qv Q (gB D cy ad) (gA ad s.heap.size)) args s 0 0 (gA ad s.heap.size)) (F0 m 26 ls []) := by
  obtain ⟨hx, hb, hml, hown, hts, hr, hlk, hK, hja⟩ := id C
  induction n with
  | zero => exact fun _ _ _ _ _ h _ _ => h.elim
  | succ n ih =>
    intro x1 M H locs ls h hI hl
    have h := h
    refine lv_iload_n hx hb d_TG_keepLosses_26 rfl (lv_at hl 1 rfl) ?_
    refine lv_aload_n hx hb d_TG_keepLosses_27 rfl (lv_at hl 0 rfl) ?_
    refine gw_get (v := .ref (ad 49)) C hI lay_47 i_TG rfl 1 (by decide) kw_1_196 rfl rfl d_TG_keepLosses_28 ?_
    refine gw_get (v := .int (M.1 49 4)) C hI isTB_49.1 i_TB rfl 4 (by decide) kw_1_44 rfl rfl d_TG_keepLosses_31 ?_
    refine lv_icmp_ge (tgt := 109) hx hb d_TG_keepLosses_34 (by decide) (fun c6 => ?_) (fun c6 => ?_)
    · have h := h.1 c6
      exact gr_v C hI h d_TG_keepLosses_109
    · have h := h.2 c6
      refine lv_aload_n hx hb d_TG_keepLosses_37 rfl (lv_at hl 0 rfl) ?_
      refine gw_get (v := .ref (ad 110)) C hI lay_47 i_TG rfl 4 (by decide) kw_1_201 rfl rfl d_TG_keepLosses_38 ?_
      refine lv_iload_n hx hb d_TG_keepLosses_41 rfl (lv_at hl 1 rfl) ?_
      obtain ⟨g4, h⟩ := h
      refine gw_lald C hI lay_110 (j := x1.toNatClampNeg) rfl (v := M.2 110 x1.toNatClampNeg) rfl g4 d_TG_keepLosses_42 ?_
      refine lv_sipush (v := (256 : Int32)) hx hb d_TG_keepLosses_43 (by decide) ?_
      refine lv_aload_n hx hb d_TG_keepLosses_46 rfl (lv_at hl 0 rfl) ?_
      refine gw_get (v := .ref (ad 49)) C hI lay_47 i_TG rfl 1 (by decide) kw_1_196 rfl rfl d_TG_keepLosses_47 ?_
      refine gw_get (v := .ref (ad 91)) C hI isTB_49.1 i_TB rfl 1 (by decide) kw_1_32 rfl rfl d_TG_keepLosses_50 ?_
      refine lv_iload_n hx hb d_TG_keepLosses_53 rfl (lv_at hl 1 rfl) ?_
      refine gw_iald C hI isTB_49.2.2.2.1 (j := x1.toNatClampNeg) rfl (v := M.1 91 x1.toNatClampNeg) rfl g4 d_TG_keepLosses_54 ?_
      refine lv_imul hx hb d_TG_keepLosses_55 ?_
      refine lv_i2l hx hb d_TG_keepLosses_56 rfl ?_
      refine lv_lsub hx hb d_TG_keepLosses_57 ?_
      refine lv_lstore_n (lv' := [(2, .long ((M.2 110 x1.toNatClampNeg) - (((256 : Int32) * (M.1 91 x1.toNatClampNeg)).toInt64))), (0, .ref (ad 47)), (1, .int x1)]) hx hb d_TG_keepLosses_58 rfl hl (by decide) rfl (fun ls hl => ?_)
      refine lv_aload_n hx hb d_TG_keepLosses_59 rfl (lv_at hl 1 rfl) ?_
      refine gw_get (v := .ref (ad 112)) C hI lay_47 i_TG rfl 6 (by decide) kw_1_204 rfl rfl d_TG_keepLosses_60 ?_
      refine lv_aload_n hx hb d_TG_keepLosses_63 rfl (lv_at hl 1 rfl) ?_
      refine gw_get (v := .ref (ad 49)) C hI lay_47 i_TG rfl 1 (by decide) kw_1_196 rfl rfl d_TG_keepLosses_64 ?_
      refine gw_get (v := .ref (ad 93)) C hI isTB_49.1 i_TB rfl 3 (by decide) kw_1_40 rfl rfl d_TG_keepLosses_67 ?_
      refine lv_iload_n hx hb d_TG_keepLosses_70 rfl (lv_at hl 2 rfl) ?_
      refine gw_zald C hI isTB_49.2.2.2.2.2 (j := x1.toNatClampNeg) rfl (v := M.1 93 x1.toNatClampNeg) rfl g4 d_TG_keepLosses_71 ?_
      refine lv_if_eq (tgt := 79) hx hb d_TG_keepLosses_72 (by decide) (fun c5 => ?_) (fun c5 => ?_)
      · have h := h.1 c5
        refine lv_iconst (v := (0 : Int32)) hx hb d_TG_keepLosses_79 (by decide) ?_
        exact L_TG_keepLosses_80 C ih h hI (lv_sub hl [1, 2, 0] rfl)
      · have h := h.2 c5
        refine lv_iconst (v := (1 : Int32)) hx hb d_TG_keepLosses_75 (by decide) ?_
        refine lv_goto (tgt := 80) hx hb d_TG_keepLosses_76 (by decide) ?_
        exact L_TG_keepLosses_80 C ih h hI (lv_sub hl [1, 2, 0] rfl)
set_option maxHeartbeats 4000000 in
set_option maxRecDepth 100000 in
theorem c_TG_keepLosses {l : Launch} {D : va_G} {cy : Nat → ClassId} {ad : Nat → Nat} (hj : gJ ad) {M : gM} {Q : gM → Prop} (h : wp_TG_keepLosses Q M) : Cv l y_TG_keepLosses b_TG_keepLosses 4 none rm_TG_keepLosses D cy ad [.ref (ad 47)] M Q := by
  refine gm (by decide +kernel) hj (Nat.le_of_ble_eq_true rfl) (fun p e s m args below meth c ls C hl hI => ?_)
  have hl : lv_has ls 4 [(0, .ref (ad 47))] := hl
  obtain ⟨hx, hb, hml, hown, hts, hr, hlk, hK, hja⟩ := id C
  refine lv_aload_n hx hb d_TG_keepLosses_0 rfl (lv_at hl 0 rfl) ?_
  refine gw_get (v := .ref (ad 112)) C hI lay_47 i_TG rfl 6 (by decide) kw_1_204 rfl rfl d_TG_keepLosses_1 ?_
  refine lv_iconst (v := (0 : Int32)) hx hb d_TG_keepLosses_4 (by decide) ?_
  refine gw_aald C hI lay_112 rfl rfl (j := 0) (by decide) (k' := 113) (by omega) (vi_lit (0 : Int32) 2 (by decide)) d_TG_keepLosses_5 ?_
  refine lv_aload_n hx hb d_TG_keepLosses_6 rfl (lv_at hl 0 rfl) ?_
  refine gw_get (v := .int (M.1 47 9)) C hI lay_47 i_TG rfl 9 (by decide) kw_1_209 rfl rfl d_TG_keepLosses_7 ?_
  refine lv_lconst (v := 0) hx hb d_TG_keepLosses_10 (by decide) ?_
  obtain ⟨g7, h⟩ := h
  refine gw_last C hI (lay_losses 0 (by decide)) (j := (M.1 47 9).toNatClampNeg) rfl g7 d_TG_keepLosses_11 (fun H locs hI => ?_)
  refine lv_aload_n hx hb d_TG_keepLosses_12 rfl (lv_at hl 0 rfl) ?_
  refine gw_get (v := .ref (ad 112)) C hI lay_47 i_TG rfl 6 (by decide) kw_1_204 rfl rfl d_TG_keepLosses_13 ?_
  refine lv_iconst (v := (1 : Int32)) hx hb d_TG_keepLosses_16 (by decide) ?_
  refine gw_aald C hI lay_112 rfl rfl (j := 1) (by decide) (k' := 114) (by omega) (vi_lit (1 : Int32) 2 (by decide)) d_TG_keepLosses_17 ?_
  refine lv_aload_n hx hb d_TG_keepLosses_18 rfl (lv_at hl 0 rfl) ?_
  refine gw_get (v := .int (M.1 47 9)) C hI lay_47 i_TG rfl 9 (by decide) kw_1_209 rfl rfl d_TG_keepLosses_19 ?_
  refine lv_lconst (v := 0) hx hb d_TG_keepLosses_22 (by decide) ?_
  refine gw_last C hI (lay_losses 1 (by decide)) (j := (M.1 47 9).toNatClampNeg) rfl g7 d_TG_keepLosses_23 (fun H locs hI => ?_)
  refine lv_iconst (v := (0 : Int32)) hx hb d_TG_keepLosses_24 (by decide) ?_
  refine lv_istore_n (lv' := [(1, .int (0 : Int32)), (0, .ref (ad 47))]) hx hb d_TG_keepLosses_25 rfl hl (by decide) rfl (fun ls hl => ?_)
  obtain ⟨n8, h⟩ := h
  exact L_TG_keepLosses_26 C n8 (0 : Int32) (wl (wl M (113) ((M.1 47 9).toNatClampNeg) (0 : Int64)) (114) ((M.1 47 9).toNatClampNeg) (0 : Int64)) _ _ _ h hI (lv_sub hl [1, 0] rfl)
set_option maxHeartbeats 4000000 in
set_option maxRecDepth 100000 in
theorem L_TG_begin_12 {p : Program} {l : Launch} {e : Env} {s : State} {m : MethodId} {args : Array Value} {below : List Frame} {meth : Method} {c : Code} {D : va_G} {cy : Nat → ClassId} {ad : Nat → Nat} (C : Cx p s m args meth c b_TG_begin 2 none "BoostForests$Training" D cy ad) {Q : gM → Prop} (n : Nat) : ∀ (x1 : Int32) (M : gM) (H : Heap) (locs : List Loc) (ls : Array Slot), wp_TG_begin_12 Q n x1 M → gI D cy ad s M H locs → lv_has ls 2 [(0, .ref (ad 47)), (1, .int x1)] → W p l e rm_TG_begin s m args below meth c H locs 0 0 (MQ below (va_Qv Q (gB D cy ad) (gA ad s.heap.size)) args s 0 0 (gA ad s.heap.size)) (F0 m 12 ls []) := by
  obtain ⟨hx, hb, hml, hown, hts, hr, hlk, hK, hja⟩ := id C
  induction n with
  | zero => exact fun _ _ _ _ _ h _ _ => h.elim
  | succ n ih =>
    intro x1 M H locs ls h hI hl
    have h := h
    refine lv_iload_n hx hb d_TG_begin_12 rfl (lv_at hl 1 rfl) ?_
    refine lv_aload_n hx hb d_TG_begin_13 rfl (lv_at hl 0 rfl) ?_
    refine gw_get (v := .ref (ad 49)) C hI lay_47 i_TG rfl 1 (by decide) kw_1_196 rfl rfl d_TG_begin_14 ?_
    refine gw_get (v := .int (M.1 49 4)) C hI isTB_49.1 i_TB rfl 4 (by decide) kw_1_44 rfl rfl d_TG_begin_17 ?_
    refine lv_icmp_ge (tgt := 46) hx hb d_TG_begin_20 (by decide) (fun c8 => ?_) (fun c8 => ?_)
    · have h := h.1 c8
      refine lv_aload_n hx hb d_TG_begin_46 rfl (lv_at hl 0 rfl) ?_
      refine gw_Vv C hI hl.1 (As := []) (rest := []) (c_TG_keepLosses hja h) kV_TG_98 lay_47 rfl rfl ⟨rfl, rfl⟩ ⟨Nat.le_of_ble_eq_true rfl, Nat.le_of_ble_eq_true rfl⟩ rfl (Nat.le_of_ble_eq_true rfl) ⟨Nat.zero_le _, Nat.zero_le _⟩ d_TG_begin_47 (fun M2 H locs h hI => ?_)
      refine lv_aload_n hx hb d_TG_begin_50 rfl (lv_at hl 0 rfl) ?_
      refine gw_get (v := .ref (ad 48)) C hI lay_47 i_TG rfl 0 (by decide) kw_1_195 rfl rfl d_TG_begin_51 ?_
      refine gw_Vv C hI hl.1 (As := []) (rest := []) (c_GR_sortRows hja h) kV_TG_101 lay_48 rfl rfl ⟨rfl, rfl⟩ ⟨Nat.le_of_ble_eq_true rfl, Nat.le_of_ble_eq_true rfl⟩ rfl (Nat.le_of_ble_eq_true rfl) ⟨Nat.zero_le _, Nat.zero_le _⟩ d_TG_begin_54 (fun M4 H locs h hI => ?_)
      exact gr_v C hI h d_TG_begin_57
    · have h := h.2 c8
      refine lv_aload_n hx hb d_TG_begin_23 rfl (lv_at hl 0 rfl) ?_
      refine gw_get (v := .ref (ad 110)) C hI lay_47 i_TG rfl 4 (by decide) kw_1_201 rfl rfl d_TG_begin_24 ?_
      refine lv_iload_n hx hb d_TG_begin_27 rfl (lv_at hl 1 rfl) ?_
      refine lv_aload_n hx hb d_TG_begin_28 rfl (lv_at hl 0 rfl) ?_
      refine gw_Vl C hI hl.1 (As := []) (rest := [.int x1, .ref (ad 110)]) (c_TG_baseUnits hja h) kV_TG_94 lay_47 rfl rfl ⟨rfl, rfl⟩ ⟨Nat.le_of_ble_eq_true rfl, Nat.le_of_ble_eq_true rfl⟩ rfl (Nat.le_of_ble_eq_true rfl) ⟨Nat.zero_le _, Nat.zero_le _⟩ d_TG_begin_29 (fun r5 M6 H locs h hI => ?_)
      obtain ⟨g7, h⟩ := h
      refine gw_last C hI lay_110 (j := x1.toNatClampNeg) rfl g7 d_TG_begin_32 (fun H locs hI => ?_)
      refine lv_aload_n hx hb d_TG_begin_33 rfl (lv_at hl 0 rfl) ?_
      refine gw_get (v := .ref (ad 111)) C hI lay_47 i_TG rfl 5 (by decide) kw_1_202 rfl rfl d_TG_begin_34 ?_
      refine lv_iload_n hx hb d_TG_begin_37 rfl (lv_at hl 1 rfl) ?_
      refine lv_iconst (v := (0 : Int32)) hx hb d_TG_begin_38 (by decide) ?_
      refine gw_iast C hI lay_111 (j := x1.toNatClampNeg) rfl g7 d_TG_begin_39 (fun H locs hI => ?_)
      refine lv_iinc (v := x1 + 1) (lv' := [(1, .int (x1 + 1)), (0, .ref (ad 47))]) hx hb d_TG_begin_40 hl (k := 1) rfl rfl (by decide) rfl (fun ls hl => ?_)
      refine lv_goto (tgt := 12) hx hb d_TG_begin_43 (by decide) ?_
      exact ih (x1 + 1) (wi (wl M6 (110) x1.toNatClampNeg r5) (111) x1.toNatClampNeg (0 : Int32)) _ _ _ h hI (lv_sub hl [1, 0] rfl)
set_option maxHeartbeats 4000000 in
set_option maxRecDepth 100000 in
theorem c_TG_begin {l : Launch} {D : va_G} {cy : Nat → ClassId} {ad : Nat → Nat} (hj : gJ ad) {M : gM} {Q : gM → Prop} (h : wp_TG_begin Q M) : Cv l y_TG_begin b_TG_begin 2 none rm_TG_begin D cy ad [.ref (ad 47)] M Q := by
  refine gm (by decide +kernel) hj (Nat.le_of_ble_eq_true rfl) (fun p e s m args below meth c ls C hl hI => ?_)
  have hl : lv_has ls 2 [(0, .ref (ad 47))] := hl
  obtain ⟨hx, hb, hml, hown, hts, hr, hlk, hK, hja⟩ := id C
  refine lv_aload_n hx hb d_TG_begin_0 rfl (lv_at hl 0 rfl) ?_
  refine lv_iconst (v := (1 : Int32)) hx hb d_TG_begin_1 (by decide) ?_
  refine gw_puti C hI lay_47 i_TG rfl t_TG_ok n_TG 8 (by decide) kw_1_207 rfl rfl rfl rfl rfl d_TG_begin_2 (fun H locs hI => ?_)
  refine lv_aload_n hx hb d_TG_begin_5 rfl (lv_at hl 0 rfl) ?_
  refine lv_iconst (v := (0 : Int32)) hx hb d_TG_begin_6 (by decide) ?_
  refine gw_puti C hI lay_47 i_TG rfl t_TG_ok n_TG 9 (by decide) kw_1_209 rfl rfl rfl rfl rfl d_TG_begin_7 (fun H locs hI => ?_)
  refine lv_iconst (v := (0 : Int32)) hx hb d_TG_begin_10 (by decide) ?_
  refine lv_istore_n (lv' := [(1, .int (0 : Int32)), (0, .ref (ad 47))]) hx hb d_TG_begin_11 rfl hl (by decide) rfl (fun ls hl => ?_)
  obtain ⟨n9, h⟩ := h
  exact L_TG_begin_12 C n9 (0 : Int32) (wi (wi M 47 8 (1 : Int32)) 47 9 (0 : Int32)) _ _ _ h hI (lv_sub hl [1, 0] rfl)
set_option maxHeartbeats 4000000 in
set_option maxRecDepth 100000 in
theorem c_TG_shrunk {l : Launch} {D : va_G} {cy : Nat → ClassId} {ad : Nat → Nat} (hj : gJ ad) {a1 : Int64} {M : gM} {Q : Int64 → gM → Prop} (h : wp_TG_shrunk Q a1 M) : Cl l y_TG_shrunk b_TG_shrunk 3 (some .long) rm_TG_shrunk D cy ad [.ref (ad 47), .long a1] M Q := by
  refine gm (by decide +kernel) hj (Nat.le_of_ble_eq_true rfl) (fun p e s m args below meth c ls C hl hI => ?_)
  have hl : lv_has ls 3 [(0, .ref (ad 47)), (1, .long a1)] := hl
  obtain ⟨hx, hb, hml, hown, hts, hr, hlk, hK, hja⟩ := id C
  refine lv_lload_n hx hb d_TG_shrunk_0 rfl (lv_at hl 1 rfl) ?_
  refine lv_aload_n hx hb d_TG_shrunk_1 rfl (lv_at hl 0 rfl) ?_
  refine gw_get (v := .ref (ad 94)) C hI lay_47 i_TG rfl 2 (by decide) kw_1_198 rfl rfl d_TG_shrunk_2 ?_
  refine lv_iconst (v := (3 : Int32)) hx hb d_TG_shrunk_5 (by decide) ?_
  refine gw_iald C hI lay_94 (j := 3) (by decide) (v := M.1 94 3) rfl (vi_lit (3 : Int32) 15 (by decide)) d_TG_shrunk_6 ?_
  refine lv_i2l hx hb d_TG_shrunk_7 rfl ?_
  refine lv_lmul hx hb d_TG_shrunk_8 ?_
  refine lv_ldc2 hx hb hown (hts _ kw_2_71) d_TG_shrunk_9 ?_
  refine lv_ldiv hx hb d_TG_shrunk_12 (by decide) ?_
  exact gr_l C hI h d_TG_shrunk_13
set_option maxHeartbeats 4000000 in
set_option maxRecDepth 100000 in
theorem c_TG_addOf {l : Launch} {D : va_G} {cy : Nat → ClassId} {ad : Nat → Nat} (hj : gJ ad) {b1 : Nat} {b2 : Nat} (hb1 : isTR b1) (hb2 : lay b2 = .inl (0, 4, 0, 0)) {M : gM} {Q : Int64 → gM → Prop} (h : wp_TG_addOf Q b1 b2 M) : Cl l y_TG_addOf b_TG_addOf 3 (some .long) rm_TG_addOf D cy ad [.ref (ad 47), .ref (ad b1), .ref (ad b2)] M Q := by
  refine gm (by decide +kernel) hj (Nat.le_of_ble_eq_true rfl) (fun p e s m args below meth c ls C hl hI => ?_)
  have hl : lv_has ls 3 [(0, .ref (ad 47)), (1, .ref (ad b1)), (2, .ref (ad b2))] := hl
  obtain ⟨hx, hb, hml, hown, hts, hr, hlk, hK, hja⟩ := id C
  refine lv_aload_n hx hb d_TG_addOf_0 rfl (lv_at hl 0 rfl) ?_
  refine lv_aload_n hx hb d_TG_addOf_1 rfl (lv_at hl 1 rfl) ?_
  refine gw_get (v := .ref (ad (b1 + 9))) C hI hb1.1 i_TR rfl 1 (by decide) kw_1_183 rfl rfl d_TG_addOf_2 ?_
  refine lv_iconst (v := (1 : Int32)) hx hb d_TG_addOf_5 (by decide) ?_
  refine gw_aald C hI hb1.2.2.2.1 rfl rfl (j := 1) (by decide) (k' := b1 + 11) (by omega) (vi_lit (1 : Int32) 3 (by decide)) d_TG_addOf_6 ?_
  refine lv_aload_n hx hb d_TG_addOf_7 rfl (lv_at hl 1 rfl) ?_
  refine lv_aload_n hx hb d_TG_addOf_8 rfl (lv_at hl 2 rfl) ?_
  refine gw_Vi C hI hl.1 (As := [.ref (ad b2)]) (rest := [.ref (ad (b1 + 11)), .ref (ad 47)]) (c_TR_leafOf hja hb1 hb2 h) kV_TG_164 hb1.1 rfl rfl ⟨rfl, rfl⟩ ⟨Nat.le_of_ble_eq_true rfl, Nat.le_of_ble_eq_true rfl⟩ rfl (Nat.le_of_ble_eq_true rfl) ⟨Nat.zero_le _, Nat.zero_le _⟩ d_TG_addOf_9 (fun r1 M2 H locs h hI => ?_)
  obtain ⟨g3, h⟩ := h
  refine gw_lald C hI (hb1.2.2.2.2 1 (by decide)) (j := r1.toNatClampNeg) rfl (v := M2.2 (b1 + 11) r1.toNatClampNeg) rfl g3 d_TG_addOf_12 ?_
  refine gw_Vl C hI hl.1 (As := [.long (M2.2 (b1 + 11) r1.toNatClampNeg)]) (rest := []) (c_TG_shrunk hja h) kV_TG_149 lay_47 rfl rfl ⟨rfl, rfl⟩ ⟨Nat.le_of_ble_eq_true rfl, Nat.le_of_ble_eq_true rfl⟩ rfl (Nat.le_of_ble_eq_true rfl) ⟨Nat.zero_le _, Nat.zero_le _⟩ d_TG_addOf_13 (fun r4 M5 H locs h hI => ?_)
  exact gr_l C hI h d_TG_addOf_16
set_option maxHeartbeats 4000000 in
set_option maxRecDepth 100000 in
theorem L_TG_addTree_64 {p : Program} {l : Launch} {e : Env} {s : State} {m : MethodId} {args : Array Value} {below : List Frame} {meth : Method} {c : Code} {D : va_G} {cy : Nat → ClassId} {ad : Nat → Nat} (C : Cx p s m args meth c b_TG_addTree 3 none "BoostForests$Training" D cy ad) {Q : gM → Prop} {x1 : Int32} {x2 : Int32} {k2 : Int32 → Int32 → gM → Prop} {M : gM} {H : Heap} {locs : List Loc} {ls : Array Slot} (K2 : ∀ (x1 : Int32) (x2 : Int32) (M : gM) (H : Heap) (locs : List Loc) (ls : Array Slot), k2 x1 x2 M → gI D cy ad s M H locs → lv_has ls 3 [(0, .ref (ad 47)), (1, .int x1), (2, .int x2)] → W p l e rm_TG_addTree s m args below meth c H locs 0 0 (MQ below (va_Qv Q (gB D cy ad) (gA ad s.heap.size)) args s 0 0 (gA ad s.heap.size)) (F0 m 2 ls [])) (h : wp_TG_addTree_64 Q k2 x1 x2 M) (hI : gI D cy ad s M H locs) (hl : lv_has ls 3 [(0, .ref (ad 47)), (1, .int x1), (2, .int x2)]) : W p l e rm_TG_addTree s m args below meth c H locs 0 0 (MQ below (va_Qv Q (gB D cy ad) (gA ad s.heap.size)) args s 0 0 (gA ad s.heap.size)) (F0 m 64 ls []) := by
  obtain ⟨hx, hb, hml, hown, hts, hr, hlk, hK, hja⟩ := id C
  refine lv_iinc (v := x2 + 1) (lv' := [(2, .int (x2 + 1)), (0, .ref (ad 47)), (1, .int x1)]) hx hb d_TG_addTree_64 hl (k := 2) rfl rfl (by decide) rfl (fun ls hl => ?_)
  refine lv_goto (tgt := 2) hx hb d_TG_addTree_67 (by decide) ?_
  exact K2 x1 (x2 + 1) M _ _ _ h hI (lv_sub hl [1, 2, 0] rfl)
set_option maxHeartbeats 4000000 in
set_option maxRecDepth 100000 in
theorem L_TG_addTree_2 {p : Program} {l : Launch} {e : Env} {s : State} {m : MethodId} {args : Array Value} {below : List Frame} {meth : Method} {c : Code} {D : va_G} {cy : Nat → ClassId} {ad : Nat → Nat} (C : Cx p s m args meth c b_TG_addTree 3 none "BoostForests$Training" D cy ad) {Q : gM → Prop} (n : Nat) : ∀ (x1 : Int32) (x2 : Int32) (M : gM) (H : Heap) (locs : List Loc) (ls : Array Slot), wp_TG_addTree_2 Q n x1 x2 M → gI D cy ad s M H locs → lv_has ls 3 [(0, .ref (ad 47)), (1, .int x1), (2, .int x2)] → W p l e rm_TG_addTree s m args below meth c H locs 0 0 (MQ below (va_Qv Q (gB D cy ad) (gA ad s.heap.size)) args s 0 0 (gA ad s.heap.size)) (F0 m 2 ls []) := by
  obtain ⟨hx, hb, hml, hown, hts, hr, hlk, hK, hja⟩ := id C
  induction n with
  | zero => exact fun _ _ _ _ _ _ h _ _ => h.elim
  | succ n ih =>
    intro x1 x2 M H locs ls h hI hl
    have h := h
    refine lv_iload_n hx hb d_TG_addTree_2 rfl (lv_at hl 2 rfl) ?_
    refine lv_aload_n hx hb d_TG_addTree_3 rfl (lv_at hl 0 rfl) ?_
    refine gw_get (v := .ref (ad 49)) C hI lay_47 i_TG rfl 1 (by decide) kw_1_196 rfl rfl d_TG_addTree_4 ?_
    refine gw_get (v := .int (M.1 49 4)) C hI isTB_49.1 i_TB rfl 4 (by decide) kw_1_44 rfl rfl d_TG_addTree_7 ?_
    refine lv_icmp_ge (tgt := 70) hx hb d_TG_addTree_10 (by decide) (fun c10 => ?_) (fun c10 => ?_)
    · have h := h.1 c10
      refine lv_aload_n hx hb d_TG_addTree_70 rfl (lv_at hl 0 rfl) ?_
      refine lv_iload_n hx hb d_TG_addTree_71 rfl (lv_at hl 1 rfl) ?_
      refine lv_iconst (v := (1 : Int32)) hx hb d_TG_addTree_72 (by decide) ?_
      refine lv_iadd hx hb d_TG_addTree_73 ?_
      refine gw_puti C hI lay_47 i_TG rfl t_TG_ok n_TG 9 (by decide) kw_1_209 rfl rfl rfl rfl rfl d_TG_addTree_74 (fun H locs hI => ?_)
      refine lv_aload_n hx hb d_TG_addTree_77 rfl (lv_at hl 0 rfl) ?_
      refine gw_Vv C hI hl.1 (As := []) (rest := []) (c_TG_keepLosses hja h) kV_TG_98 lay_47 rfl rfl ⟨rfl, rfl⟩ ⟨Nat.le_of_ble_eq_true rfl, Nat.le_of_ble_eq_true rfl⟩ rfl (Nat.le_of_ble_eq_true rfl) ⟨Nat.zero_le _, Nat.zero_le _⟩ d_TG_addTree_78 (fun M2 H locs h hI => ?_)
      exact gr_v C hI h d_TG_addTree_81
    · have h := h.2 c10
      refine lv_aload_n hx hb d_TG_addTree_13 rfl (lv_at hl 0 rfl) ?_
      refine gw_get (v := .ref (ad 110)) C hI lay_47 i_TG rfl 4 (by decide) kw_1_201 rfl rfl d_TG_addTree_14 ?_
      refine lv_iload_n hx hb d_TG_addTree_17 rfl (lv_at hl 2 rfl) ?_
      refine lv_dup2_11 hx hb d_TG_addTree_18 rfl rfl ?_
      obtain ⟨g3, h⟩ := h
      refine gw_lald C hI lay_110 (j := x2.toNatClampNeg) rfl (v := M.2 110 x2.toNatClampNeg) rfl g3 d_TG_addTree_19 ?_
      refine lv_aload_n hx hb d_TG_addTree_20 rfl (lv_at hl 0 rfl) ?_
      refine lv_aload_n hx hb d_TG_addTree_21 rfl (lv_at hl 0 rfl) ?_
      refine gw_get (v := .ref (ad 109)) C hI lay_47 i_TG rfl 3 (by decide) kw_1_199 rfl rfl d_TG_addTree_22 ?_
      refine lv_iload_n hx hb d_TG_addTree_25 rfl (lv_at hl 1 rfl) ?_
      obtain ⟨g4, h⟩ := h
      refine gw_aald C hI lay_109 rfl rfl (j := x1.toNatClampNeg) rfl (k' := (116 + 13 * x1.toNatClampNeg)) (by omega) g4 d_TG_addTree_26 ?_
      refine lv_aload_n hx hb d_TG_addTree_27 rfl (lv_at hl 0 rfl) ?_
      refine gw_get (v := .ref (ad 49)) C hI lay_47 i_TG rfl 1 (by decide) kw_1_196 rfl rfl d_TG_addTree_28 ?_
      refine gw_get (v := .ref (ad 50)) C hI isTB_49.1 i_TB rfl 0 (by decide) kw_1_30 rfl rfl d_TG_addTree_31 ?_
      refine lv_iload_n hx hb d_TG_addTree_34 rfl (lv_at hl 2 rfl) ?_
      refine gw_aald C hI isTB_49.2.1 rfl rfl (j := x2.toNatClampNeg) rfl (k' := 51 + x2.toNatClampNeg) (by omega) g3 d_TG_addTree_35 ?_
      refine gw_Vl C hI hl.1 (As := [.ref (ad (116 + 13 * x1.toNatClampNeg)), .ref (ad (51 + x2.toNatClampNeg))]) (rest := [.long (M.2 110 x2.toNatClampNeg), .int x2, .ref (ad 110)]) (c_TG_addOf hja (isTR_at _ (vi_lt g4)) (isTB_49.2.2.1 _ (vi_lt g3)) h) kV_TG_108 lay_47 rfl rfl ⟨rfl, rfl⟩ ⟨Nat.le_of_ble_eq_true rfl, Nat.le_of_ble_eq_true rfl⟩ rfl (Nat.le_of_ble_eq_true rfl) ⟨Nat.zero_le _, Nat.zero_le _⟩ d_TG_addTree_36 (fun r5 M6 H locs h hI => ?_)
      refine lv_ladd hx hb d_TG_addTree_39 ?_
      refine gw_last C hI lay_110 (j := x2.toNatClampNeg) rfl g3 d_TG_addTree_40 (fun H locs hI => ?_)
      refine lv_aload_n hx hb d_TG_addTree_41 rfl (lv_at hl 0 rfl) ?_
      refine gw_get (v := .ref (ad 48)) C hI lay_47 i_TG rfl 0 (by decide) kw_1_195 rfl rfl d_TG_addTree_42 ?_
      refine lv_iload_n hx hb d_TG_addTree_45 rfl (lv_at hl 2 rfl) ?_
      refine gw_Vi C hI hl.1 (As := [.int x2]) (rest := []) (c_GR_hasDrawn hja h) kV_TG_112 lay_48 rfl rfl ⟨rfl, rfl⟩ ⟨Nat.le_of_ble_eq_true rfl, Nat.le_of_ble_eq_true rfl⟩ rfl (Nat.le_of_ble_eq_true rfl) ⟨Nat.zero_le _, Nat.zero_le _⟩ d_TG_addTree_46 (fun r7 M8 H locs h hI => ?_)
      refine lv_if_eq (tgt := 64) hx hb d_TG_addTree_49 (by decide) (fun c9 => ?_) (fun c9 => ?_)
      · have h := h.1 c9
        exact L_TG_addTree_64 C ih h hI (lv_sub hl [0, 1, 2] rfl)
      · have h := h.2 c9
        refine lv_aload_n hx hb d_TG_addTree_52 rfl (lv_at hl 0 rfl) ?_
        refine gw_get (v := .ref (ad 111)) C hI lay_47 i_TG rfl 5 (by decide) kw_1_202 rfl rfl d_TG_addTree_53 ?_
        refine lv_iload_n hx hb d_TG_addTree_56 rfl (lv_at hl 2 rfl) ?_
        refine lv_dup2_11 hx hb d_TG_addTree_57 rfl rfl ?_
        refine gw_iald C hI lay_111 (j := x2.toNatClampNeg) rfl (v := M8.1 111 x2.toNatClampNeg) rfl g3 d_TG_addTree_58 ?_
        refine lv_iconst (v := (1 : Int32)) hx hb d_TG_addTree_59 (by decide) ?_
        refine lv_iload_n hx hb d_TG_addTree_60 rfl (lv_at hl 1 rfl) ?_
        refine lv_ishl hx hb d_TG_addTree_61 ?_
        refine lv_ior hx hb d_TG_addTree_62 ?_
        refine gw_iast C hI lay_111 (j := x2.toNatClampNeg) rfl g3 d_TG_addTree_63 (fun H locs hI => ?_)
        exact L_TG_addTree_64 C ih h hI (lv_sub hl [0, 1, 2] rfl)
set_option maxHeartbeats 4000000 in
set_option maxRecDepth 100000 in
theorem c_TG_addTree {l : Launch} {D : va_G} {cy : Nat → ClassId} {ad : Nat → Nat} (hj : gJ ad) {a1 : Int32} {M : gM} {Q : gM → Prop} (h : wp_TG_addTree Q a1 M) : Cv l y_TG_addTree b_TG_addTree 3 none rm_TG_addTree D cy ad [.ref (ad 47), .int a1] M Q := by
  refine gm (by decide +kernel) hj (Nat.le_of_ble_eq_true rfl) (fun p e s m args below meth c ls C hl hI => ?_)
  have hl : lv_has ls 3 [(0, .ref (ad 47)), (1, .int a1)] := hl
  obtain ⟨hx, hb, hml, hown, hts, hr, hlk, hK, hja⟩ := id C
  refine lv_iconst (v := (0 : Int32)) hx hb d_TG_addTree_0 (by decide) ?_
  refine lv_istore_n (lv' := [(2, .int (0 : Int32)), (0, .ref (ad 47)), (1, .int a1)]) hx hb d_TG_addTree_1 rfl hl (by decide) rfl (fun ls hl => ?_)
  obtain ⟨n11, h⟩ := h
  exact L_TG_addTree_2 C n11 a1 (0 : Int32) M _ _ _ h hI (lv_sub hl [1, 2, 0] rfl)
set_option maxHeartbeats 4000000 in
set_option maxRecDepth 100000 in
theorem L_TG_run_164 {p : Program} {l : Launch} {e : Env} {s : State} {m : MethodId} {args : Array Value} {below : List Frame} {meth : Method} {c : Code} {D : va_G} {cy : Nat → ClassId} {ad : Nat → Nat} (C : Cx p s m args meth c b_TG_run 8 none "BoostForests$Training" D cy ad) {Q : gM → Prop} {x3 : Int32} {x4 : Int64} {x6 : Int32} {x7 : Int32} {k62 : Int32 → Int64 → Int32 → Int32 → gM → Prop} {M : gM} {H : Heap} {locs : List Loc} {ls : Array Slot} (K62 : ∀ (x3 : Int32) (x4 : Int64) (x6 : Int32) (x7 : Int32) (M : gM) (H : Heap) (locs : List Loc) (ls : Array Slot), k62 x3 x4 x6 x7 M → gI D cy ad s M H locs → lv_has ls 8 [(0, .ref (ad 47)), (3, .int x3), (4, .long x4), (6, .int x6), (7, .int x7)] → W p l e rm_TG_run s m args below meth c H locs 0 0 (MQ below (va_Qv Q (gB D cy ad) (gA ad s.heap.size)) args s 0 0 (gA ad s.heap.size)) (F0 m 62 ls [])) (h : wp_TG_run_164 Q k62 x3 x4 x6 x7 M) (hI : gI D cy ad s M H locs) (hl : lv_has ls 8 [(0, .ref (ad 47)), (3, .int x3), (4, .long x4), (6, .int x6), (7, .int x7)]) : W p l e rm_TG_run s m args below meth c H locs 0 0 (MQ below (va_Qv Q (gB D cy ad) (gA ad s.heap.size)) args s 0 0 (gA ad s.heap.size)) (F0 m 164 ls []) := by
  obtain ⟨hx, hb, hml, hown, hts, hr, hlk, hK, hja⟩ := id C
  refine lv_iinc (v := x7 + 1) (lv' := [(7, .int (x7 + 1)), (0, .ref (ad 47)), (3, .int x3), (4, .long x4), (6, .int x6)]) hx hb d_TG_run_164 hl (k := 4) rfl rfl (by decide) rfl (fun ls hl => ?_)
  refine lv_goto (tgt := 62) hx hb d_TG_run_167 (by decide) ?_
  exact K62 x3 x4 x6 (x7 + 1) M _ _ _ h hI (lv_sub hl [1, 2, 3, 4, 0] rfl)
set_option maxHeartbeats 4000000 in
set_option maxRecDepth 100000 in
theorem L_TG_run_131 {p : Program} {l : Launch} {e : Env} {s : State} {m : MethodId} {args : Array Value} {below : List Frame} {meth : Method} {c : Code} {D : va_G} {cy : Nat → ClassId} {ad : Nat → Nat} (C : Cx p s m args meth c b_TG_run 8 none "BoostForests$Training" D cy ad) {Q : gM → Prop} {x3 : Int32} {x4 : Int64} {x7 : Int32} {s0 : Int32} {k62 : Int32 → Int64 → Int32 → Int32 → gM → Prop} {M : gM} {H : Heap} {locs : List Loc} {ls : Array Slot} (K62 : ∀ (x3 : Int32) (x4 : Int64) (x6 : Int32) (x7 : Int32) (M : gM) (H : Heap) (locs : List Loc) (ls : Array Slot), k62 x3 x4 x6 x7 M → gI D cy ad s M H locs → lv_has ls 8 [(0, .ref (ad 47)), (3, .int x3), (4, .long x4), (6, .int x6), (7, .int x7)] → W p l e rm_TG_run s m args below meth c H locs 0 0 (MQ below (va_Qv Q (gB D cy ad) (gA ad s.heap.size)) args s 0 0 (gA ad s.heap.size)) (F0 m 62 ls [])) (h : wp_TG_run_131 Q k62 x3 x4 x7 s0 M) (hI : gI D cy ad s M H locs) (hl : lv_has ls 8 [(0, .ref (ad 47)), (3, .int x3), (4, .long x4), (7, .int x7)]) : W p l e rm_TG_run s m args below meth c H locs 0 0 (MQ below (va_Qv Q (gB D cy ad) (gA ad s.heap.size)) args s 0 0 (gA ad s.heap.size)) (F0 m 131 ls [.int s0]) := by
  obtain ⟨hx, hb, hml, hown, hts, hr, hlk, hK, hja⟩ := id C
  refine lv_istore (lv' := [(6, .int s0), (0, .ref (ad 47)), (3, .int x3), (4, .long x4), (7, .int x7)]) hx hb d_TG_run_131 hl (by decide) rfl (fun ls hl => ?_)
  refine lv_lload hx hb d_TG_run_133 (lv_at hl 3 rfl) ?_
  refine lv_aload_n hx hb d_TG_run_135 rfl (lv_at hl 1 rfl) ?_
  refine gw_get (v := .ref (ad 112)) C hI lay_47 i_TG rfl 6 (by decide) kw_1_204 rfl rfl d_TG_run_136 ?_
  refine lv_iconst (v := (1 : Int32)) hx hb d_TG_run_139 (by decide) ?_
  refine gw_aald C hI lay_112 rfl rfl (j := 1) (by decide) (k' := 114) (by omega) (vi_lit (1 : Int32) 2 (by decide)) d_TG_run_140 ?_
  refine lv_aload_n hx hb d_TG_run_141 rfl (lv_at hl 1 rfl) ?_
  refine gw_get (v := .int (M.1 47 9)) C hI lay_47 i_TG rfl 9 (by decide) kw_1_209 rfl rfl d_TG_run_142 ?_
  obtain ⟨g1, h⟩ := h
  refine gw_lald C hI (lay_losses 1 (by decide)) (j := (M.1 47 9).toNatClampNeg) rfl (v := M.2 114 ((M.1 47 9).toNatClampNeg)) rfl g1 d_TG_run_145 ?_
  refine gw_Sl C hI hl.1 (As := [.long x4, .long (M.2 114 ((M.1 47 9).toNatClampNeg))]) (rest := []) (c_JM_min hja h) kS_TG_81 rfl ⟨rfl, rfl⟩ ⟨Nat.le_of_ble_eq_true rfl, Nat.le_of_ble_eq_true rfl⟩ rfl (Nat.le_of_ble_eq_true rfl) ⟨Nat.zero_le _, Nat.zero_le _⟩ d_TG_run_146 (fun r2 M3 H locs h hI => ?_)
  refine lv_lstore (lv' := [(4, .long r2), (6, .int s0), (0, .ref (ad 47)), (3, .int x3), (7, .int x7)]) hx hb d_TG_run_149 hl (by decide) rfl (fun ls hl => ?_)
  refine lv_iload_n hx hb d_TG_run_151 rfl (lv_at hl 3 rfl) ?_
  refine lv_if_le (tgt := 164) hx hb d_TG_run_152 (by decide) (fun c5 => ?_) (fun c5 => ?_)
  · have h := h.1 c5
    exact L_TG_run_164 C K62 h hI (lv_sub hl [2, 3, 0, 1, 4] rfl)
  · have h := h.2 c5
    refine lv_iload hx hb d_TG_run_155 (lv_at hl 1 rfl) ?_
    refine lv_iload_n hx hb d_TG_run_157 rfl (lv_at hl 3 rfl) ?_
    refine lv_icmp_lt (tgt := 164) hx hb d_TG_run_158 (by decide) (fun c4 => ?_) (fun c4 => ?_)
    · have h := h.1 c4
      exact L_TG_run_164 C K62 h hI (lv_sub hl [2, 3, 0, 1, 4] rfl)
    · have h := h.2 c4
      refine lv_goto (tgt := 170) hx hb d_TG_run_161 (by decide) ?_
      exact gr_v C hI h d_TG_run_170
set_option maxHeartbeats 4000000 in
set_option maxRecDepth 100000 in
theorem L_TG_run_62 {p : Program} {l : Launch} {e : Env} {s : State} {m : MethodId} {args : Array Value} {below : List Frame} {meth : Method} {c : Code} {D : va_G} {cy : Nat → ClassId} {ad : Nat → Nat} (C : Cx p s m args meth c b_TG_run 8 none "BoostForests$Training" D cy ad) {Q : gM → Prop} (n : Nat) : ∀ (x3 : Int32) (x4 : Int64) (x6 : Int32) (x7 : Int32) (M : gM) (H : Heap) (locs : List Loc) (ls : Array Slot), wp_TG_run_62 Q n x3 x4 x6 x7 M → gI D cy ad s M H locs → lv_has ls 8 [(0, .ref (ad 47)), (3, .int x3), (4, .long x4), (6, .int x6), (7, .int x7)] → W p l e rm_TG_run s m args below meth c H locs 0 0 (MQ below (va_Qv Q (gB D cy ad) (gA ad s.heap.size)) args s 0 0 (gA ad s.heap.size)) (F0 m 62 ls []) := by
  obtain ⟨hx, hb, hml, hown, hts, hr, hlk, hK, hja⟩ := id C
  induction n with
  | zero => exact fun _ _ _ _ _ _ _ _ h _ _ => h.elim
  | succ n ih =>
    intro x3 x4 x6 x7 M H locs ls h hI hl
    have h := h
    refine lv_iload hx hb d_TG_run_62 (lv_at hl 4 rfl) ?_
    refine lv_aload_n hx hb d_TG_run_64 rfl (lv_at hl 0 rfl) ?_
    refine gw_get (v := .ref (ad 94)) C hI lay_47 i_TG rfl 2 (by decide) kw_1_198 rfl rfl d_TG_run_65 ?_
    refine lv_iconst (v := (4 : Int32)) hx hb d_TG_run_68 (by decide) ?_
    refine gw_iald C hI lay_94 (j := 4) (by decide) (v := M.1 94 4) rfl (vi_lit (4 : Int32) 15 (by decide)) d_TG_run_69 ?_
    refine lv_icmp_ge (tgt := 170) hx hb d_TG_run_70 (by decide) (fun c14 => ?_) (fun c14 => ?_)
    · have h := h.1 c14
      exact gr_v C hI h d_TG_run_170
    · have h := h.2 c14
      refine lv_iload hx hb d_TG_run_73 (lv_at hl 4 rfl) ?_
      refine lv_bipush (v := (12 : Int32)) hx hb d_TG_run_75 (by decide) ?_
      refine lv_icmp_ge (tgt := 170) hx hb d_TG_run_77 (by decide) (fun c13 => ?_) (fun c13 => ?_)
      · have h := h.1 c13
        exact gr_v C hI h d_TG_run_170
      · have h := h.2 c13
        refine lv_aload_n hx hb d_TG_run_80 rfl (lv_at hl 0 rfl) ?_
        refine gw_get (v := .ref (ad 48)) C hI lay_47 i_TG rfl 0 (by decide) kw_1_195 rfl rfl d_TG_run_81 ?_
        refine lv_aload_n hx hb d_TG_run_84 rfl (lv_at hl 0 rfl) ?_
        refine gw_get (v := .ref (ad 109)) C hI lay_47 i_TG rfl 3 (by decide) kw_1_199 rfl rfl d_TG_run_85 ?_
        refine lv_iload hx hb d_TG_run_88 (lv_at hl 4 rfl) ?_
        obtain ⟨g6, h⟩ := h
        refine gw_aald C hI lay_109 rfl rfl (j := x7.toNatClampNeg) rfl (k' := (116 + 13 * x7.toNatClampNeg)) (by omega) g6 d_TG_run_90 ?_
        refine lv_iload hx hb d_TG_run_91 (lv_at hl 4 rfl) ?_
        refine lv_aload_n hx hb d_TG_run_93 rfl (lv_at hl 0 rfl) ?_
        refine gw_get (v := .ref (ad 110)) C hI lay_47 i_TG rfl 4 (by decide) kw_1_201 rfl rfl d_TG_run_94 ?_
        refine gw_Vv C hI hl.1 (As := [.ref (ad (116 + 13 * x7.toNatClampNeg)), .int x7, .ref (ad 110)]) (rest := []) (c_GR_growTree hja (isTR_at _ (vi_lt g6)) h) kV_TG_69 lay_48 rfl rfl ⟨rfl, rfl⟩ ⟨Nat.le_of_ble_eq_true rfl, Nat.le_of_ble_eq_true rfl⟩ rfl (Nat.le_of_ble_eq_true rfl) ⟨Nat.zero_le _, Nat.zero_le _⟩ d_TG_run_97 (fun M8 H locs h hI => ?_)
        refine lv_aload_n hx hb d_TG_run_100 rfl (lv_at hl 0 rfl) ?_
        refine lv_iload hx hb d_TG_run_101 (lv_at hl 4 rfl) ?_
        refine gw_Vv C hI hl.1 (As := [.int x7]) (rest := []) (c_TG_addTree hja h) kV_TG_73 lay_47 rfl rfl ⟨rfl, rfl⟩ ⟨Nat.le_of_ble_eq_true rfl, Nat.le_of_ble_eq_true rfl⟩ rfl (Nat.le_of_ble_eq_true rfl) ⟨Nat.zero_le _, Nat.zero_le _⟩ d_TG_run_103 (fun M10 H locs h hI => ?_)
        refine lv_aload_n hx hb d_TG_run_106 rfl (lv_at hl 0 rfl) ?_
        refine gw_get (v := .ref (ad 112)) C hI lay_47 i_TG rfl 6 (by decide) kw_1_204 rfl rfl d_TG_run_107 ?_
        refine lv_iconst (v := (1 : Int32)) hx hb d_TG_run_110 (by decide) ?_
        refine gw_aald C hI lay_112 rfl rfl (j := 1) (by decide) (k' := 114) (by omega) (vi_lit (1 : Int32) 2 (by decide)) d_TG_run_111 ?_
        refine lv_aload_n hx hb d_TG_run_112 rfl (lv_at hl 0 rfl) ?_
        refine gw_get (v := .int (M10.1 47 9)) C hI lay_47 i_TG rfl 9 (by decide) kw_1_209 rfl rfl d_TG_run_113 ?_
        obtain ⟨g11, h⟩ := h
        refine gw_lald C hI (lay_losses 1 (by decide)) (j := (M10.1 47 9).toNatClampNeg) rfl (v := M10.2 114 ((M10.1 47 9).toNatClampNeg)) rfl g11 d_TG_run_116 ?_
        refine lv_lload hx hb d_TG_run_117 (lv_at hl 2 rfl) ?_
        refine gl_ge (tgt := 127) C d_TG_run_119 d_TG_run_120 (by decide) (fun c12 => ?_) (fun c12 => ?_)
        · have h := h.1 c12
          refine lv_iload hx hb d_TG_run_127 (lv_at hl 3 rfl) ?_
          refine lv_iconst (v := (1 : Int32)) hx hb d_TG_run_129 (by decide) ?_
          refine lv_iadd hx hb d_TG_run_130 ?_
          exact L_TG_run_131 C ih h hI (lv_sub hl [0, 1, 2, 4] rfl)
        · have h := h.2 c12
          refine lv_iconst (v := (0 : Int32)) hx hb d_TG_run_123 (by decide) ?_
          refine lv_goto (tgt := 131) hx hb d_TG_run_124 (by decide) ?_
          exact L_TG_run_131 C ih h hI (lv_sub hl [0, 1, 2, 4] rfl)
set_option maxHeartbeats 4000000 in
set_option maxRecDepth 100000 in
theorem L_TG_run_45 {p : Program} {l : Launch} {e : Env} {s : State} {m : MethodId} {args : Array Value} {below : List Frame} {meth : Method} {c : Code} {D : va_G} {cy : Nat → ClassId} {ad : Nat → Nat} (C : Cx p s m args meth c b_TG_run 8 none "BoostForests$Training" D cy ad) {Q : gM → Prop} {s0 : Int32} {M : gM} {H : Heap} {locs : List Loc} {ls : Array Slot} (h : wp_TG_run_45 Q s0 M) (hI : gI D cy ad s M H locs) (hl : lv_has ls 8 [(0, .ref (ad 47))]) : W p l e rm_TG_run s m args below meth c H locs 0 0 (MQ below (va_Qv Q (gB D cy ad) (gA ad s.heap.size)) args s 0 0 (gA ad s.heap.size)) (F0 m 45 ls [.int s0]) := by
  obtain ⟨hx, hb, hml, hown, hts, hr, hlk, hK, hja⟩ := id C
  refine lv_istore_n (lv' := [(3, .int s0), (0, .ref (ad 47))]) hx hb d_TG_run_45 rfl hl (by decide) rfl (fun ls hl => ?_)
  refine lv_aload_n hx hb d_TG_run_46 rfl (lv_at hl 1 rfl) ?_
  refine gw_get (v := .ref (ad 112)) C hI lay_47 i_TG rfl 6 (by decide) kw_1_204 rfl rfl d_TG_run_47 ?_
  refine lv_iconst (v := (1 : Int32)) hx hb d_TG_run_50 (by decide) ?_
  refine gw_aald C hI lay_112 rfl rfl (j := 1) (by decide) (k' := 114) (by omega) (vi_lit (1 : Int32) 2 (by decide)) d_TG_run_51 ?_
  refine lv_iconst (v := (0 : Int32)) hx hb d_TG_run_52 (by decide) ?_
  refine gw_lald C hI (lay_losses 1 (by decide)) (j := 0) (by decide) (v := M.2 114 0) rfl (vi_lit (0 : Int32) 13 (by decide)) d_TG_run_53 ?_
  refine lv_lstore (lv' := [(4, .long (M.2 114 0)), (3, .int s0), (0, .ref (ad 47))]) hx hb d_TG_run_54 hl (by decide) rfl (fun ls hl => ?_)
  refine lv_iconst (v := (0 : Int32)) hx hb d_TG_run_56 (by decide) ?_
  refine lv_istore (lv' := [(6, .int (0 : Int32)), (4, .long (M.2 114 0)), (3, .int s0), (0, .ref (ad 47))]) hx hb d_TG_run_57 hl (by decide) rfl (fun ls hl => ?_)
  refine lv_iconst (v := (0 : Int32)) hx hb d_TG_run_59 (by decide) ?_
  refine lv_istore (lv' := [(7, .int (0 : Int32)), (6, .int (0 : Int32)), (4, .long (M.2 114 0)), (3, .int s0), (0, .ref (ad 47))]) hx hb d_TG_run_60 hl (by decide) rfl (fun ls hl => ?_)
  obtain ⟨n15, h⟩ := h
  exact L_TG_run_62 C n15 s0 (M.2 114 0) (0 : Int32) (0 : Int32) M _ _ _ h hI (lv_sub hl [4, 3, 2, 1, 0] rfl)
set_option maxHeartbeats 4000000 in
set_option maxRecDepth 100000 in
theorem c_TG_run {l : Launch} {D : va_G} {cy : Nat → ClassId} {ad : Nat → Nat} (hj : gJ ad) {M : gM} {Q : gM → Prop} (h : wp_TG_run Q M) : Cv l y_TG_run b_TG_run 8 none rm_TG_run D cy ad [.ref (ad 47), .ref (ad 1), .ref (ad 46)] M Q := by
  refine gm (by decide +kernel) hj (Nat.le_of_ble_eq_true rfl) (fun p e s m args below meth c ls C hl hI => ?_)
  have hl : lv_has ls 8 [(0, .ref (ad 47)), (1, .ref (ad 1)), (2, .ref (ad 46))] := hl
  obtain ⟨hx, hb, hml, hown, hts, hr, hlk, hK, hja⟩ := id C
  refine lv_aload_n hx hb d_TG_run_0 rfl (lv_at hl 0 rfl) ?_
  refine gw_get (v := .ref (ad 49)) C hI lay_47 i_TG rfl 1 (by decide) kw_1_196 rfl rfl d_TG_run_1 ?_
  refine lv_aload_n hx hb d_TG_run_4 rfl (lv_at hl 1 rfl) ?_
  refine gw_Vv C hI hl.1 (As := [.ref (ad 1)]) (rest := []) (c_TB_copyFrom hja isTB_49 isTB_1 h) kV_TG_50 isTB_49.1 rfl rfl ⟨rfl, rfl⟩ ⟨Nat.le_of_ble_eq_true rfl, Nat.le_of_ble_eq_true rfl⟩ rfl (Nat.le_of_ble_eq_true rfl) ⟨Nat.zero_le _, Nat.zero_le _⟩ d_TG_run_5 (fun M17 H locs h hI => ?_)
  refine lv_aload_n hx hb d_TG_run_8 rfl (lv_at hl 2 rfl) ?_
  refine lv_iconst (v := (0 : Int32)) hx hb d_TG_run_9 (by decide) ?_
  refine lv_aload_n hx hb d_TG_run_10 rfl (lv_at hl 0 rfl) ?_
  refine gw_get (v := .ref (ad 94)) C hI lay_47 i_TG rfl 2 (by decide) kw_1_198 rfl rfl d_TG_run_11 ?_
  refine lv_iconst (v := (0 : Int32)) hx hb d_TG_run_14 (by decide) ?_
  refine lv_bipush (v := (15 : Int32)) hx hb d_TG_run_15 (by decide) ?_
  refine gw_copy C hI hl.1 kw_2_62 kw_2_25 kw_2_24 kw_1_9 lay_46 lay_94 (sp' := 0) (dp' := 0) (n' := 15) (by decide) (by decide) (by decide) (by decide) (by decide) (by decide) (by decide) (by decide) (Nat.le_of_ble_eq_true rfl) (Nat.le_of_ble_eq_true rfl) d_TG_run_17 (fun H locs hI => ?_)
  refine lv_aload_n hx hb d_TG_run_20 rfl (lv_at hl 0 rfl) ?_
  refine gw_Vv C hI hl.1 (As := []) (rest := []) (c_TG_begin hja h) kV_TG_62 lay_47 rfl rfl ⟨rfl, rfl⟩ ⟨Nat.le_of_ble_eq_true rfl, Nat.le_of_ble_eq_true rfl⟩ rfl (Nat.le_of_ble_eq_true rfl) ⟨Nat.zero_le _, Nat.zero_le _⟩ d_TG_run_21 (fun M19 H locs h hI => ?_)
  refine lv_aload_n hx hb d_TG_run_24 rfl (lv_at hl 0 rfl) ?_
  refine gw_get (v := .ref (ad 49)) C hI lay_47 i_TG rfl 1 (by decide) kw_1_196 rfl rfl d_TG_run_25 ?_
  refine gw_Vi C hI hl.1 (As := []) (rest := []) (c_TB_heldRows hja isTB_49 h) kV_TG_65 isTB_49.1 rfl rfl ⟨rfl, rfl⟩ ⟨Nat.le_of_ble_eq_true rfl, Nat.le_of_ble_eq_true rfl⟩ rfl (Nat.le_of_ble_eq_true rfl) ⟨Nat.zero_le _, Nat.zero_le _⟩ d_TG_run_28 (fun r20 M21 H locs h hI => ?_)
  refine lv_if_le (tgt := 44) hx hb d_TG_run_31 (by decide) (fun c22 => ?_) (fun c22 => ?_)
  · have h := h.1 c22
    refine lv_iconst (v := (0 : Int32)) hx hb d_TG_run_44 (by decide) ?_
    exact L_TG_run_45 C h hI (lv_sub hl [0] rfl)
  · have h := h.2 c22
    refine lv_aload_n hx hb d_TG_run_34 rfl (lv_at hl 0 rfl) ?_
    refine gw_get (v := .ref (ad 94)) C hI lay_47 i_TG rfl 2 (by decide) kw_1_198 rfl rfl d_TG_run_35 ?_
    refine lv_bipush (v := (8 : Int32)) hx hb d_TG_run_38 (by decide) ?_
    refine gw_iald C hI lay_94 (j := 8) (by decide) (v := M21.1 94 8) rfl (vi_lit (8 : Int32) 15 (by decide)) d_TG_run_40 ?_
    refine lv_goto (tgt := 45) hx hb d_TG_run_41 (by decide) ?_
    exact L_TG_run_45 C h hI (lv_sub hl [0] rfl)
set_option maxHeartbeats 4000000 in
set_option maxRecDepth 100000 in
theorem L_TG_answerBy_44 {p : Program} {l : Launch} {e : Env} {s : State} {m : MethodId} {args : Array Value} {below : List Frame} {meth : Method} {c : Code} {D : va_G} {cy : Nat → ClassId} {ad : Nat → Nat} (C : Cx p s m args meth c b_TG_answerBy 6 (some .long) "BoostForests$Training" D cy ad) {Q : Int64 → gM → Prop} {x3 : Int64} {M : gM} {H : Heap} {locs : List Loc} {ls : Array Slot} (h : wp_TG_answerBy_44 Q x3 M) (hI : gI D cy ad s M H locs) (hl : lv_has ls 6 [(3, .long x3)]) : W p l e rm_TG_answerBy s m args below meth c H locs 0 0 (MQ below (va_Ql Q (gB D cy ad) (gA ad s.heap.size)) args s 0 0 (gA ad s.heap.size)) (F0 m 44 ls []) := by
  obtain ⟨hx, hb, hml, hown, hts, hr, hlk, hK, hja⟩ := id C
  refine lv_lload_n hx hb d_TG_answerBy_44 rfl (lv_at hl 0 rfl) ?_
  exact gr_l C hI h d_TG_answerBy_45
set_option maxHeartbeats 4000000 in
set_option maxRecDepth 100000 in
theorem L_TG_answerBy_8 {p : Program} {l : Launch} {e : Env} {s : State} {m : MethodId} {args : Array Value} {below : List Frame} {meth : Method} {c : Code} {D : va_G} {cy : Nat → ClassId} {ad : Nat → Nat} (C : Cx p s m args meth c b_TG_answerBy 6 (some .long) "BoostForests$Training" D cy ad) {Q : Int64 → gM → Prop} (n : Nat) : ∀ (x1 : Int32) (x3 : Int64) (x5 : Int32) (M : gM) (H : Heap) (locs : List Loc) (ls : Array Slot), wp_TG_answerBy_8 Q n x1 x3 x5 M → gI D cy ad s M H locs → lv_has ls 6 [(0, .ref (ad 47)), (1, .int x1), (2, .ref (ad 272)), (3, .long x3), (5, .int x5)] → W p l e rm_TG_answerBy s m args below meth c H locs 0 0 (MQ below (va_Ql Q (gB D cy ad) (gA ad s.heap.size)) args s 0 0 (gA ad s.heap.size)) (F0 m 8 ls []) := by
  obtain ⟨hx, hb, hml, hown, hts, hr, hlk, hK, hja⟩ := id C
  induction n with
  | zero => exact fun _ _ _ _ _ _ _ h _ _ => h.elim
  | succ n ih =>
    intro x1 x3 x5 M H locs ls h hI hl
    have h := h
    refine lv_iload hx hb d_TG_answerBy_8 (lv_at hl 4 rfl) ?_
    refine lv_iload_n hx hb d_TG_answerBy_10 rfl (lv_at hl 1 rfl) ?_
    refine lv_icmp_ge (tgt := 44) hx hb d_TG_answerBy_11 (by decide) (fun c5 => ?_) (fun c5 => ?_)
    · have h := h.1 c5
      exact L_TG_answerBy_44 C h hI (lv_sub hl [3] rfl)
    · have h := h.2 c5
      refine lv_iload hx hb d_TG_answerBy_14 (lv_at hl 4 rfl) ?_
      refine lv_aload_n hx hb d_TG_answerBy_16 rfl (lv_at hl 0 rfl) ?_
      refine gw_get (v := .int (M.1 47 9)) C hI lay_47 i_TG rfl 9 (by decide) kw_1_209 rfl rfl d_TG_answerBy_17 ?_
      refine lv_icmp_ge (tgt := 44) hx hb d_TG_answerBy_20 (by decide) (fun c4 => ?_) (fun c4 => ?_)
      · have h := h.1 c4
        exact L_TG_answerBy_44 C h hI (lv_sub hl [3] rfl)
      · have h := h.2 c4
        refine lv_lload_n hx hb d_TG_answerBy_23 rfl (lv_at hl 3 rfl) ?_
        refine lv_aload_n hx hb d_TG_answerBy_24 rfl (lv_at hl 0 rfl) ?_
        refine lv_aload_n hx hb d_TG_answerBy_25 rfl (lv_at hl 0 rfl) ?_
        refine gw_get (v := .ref (ad 109)) C hI lay_47 i_TG rfl 3 (by decide) kw_1_199 rfl rfl d_TG_answerBy_26 ?_
        refine lv_iload hx hb d_TG_answerBy_29 (lv_at hl 4 rfl) ?_
        obtain ⟨g1, h⟩ := h
        refine gw_aald C hI lay_109 rfl rfl (j := x5.toNatClampNeg) rfl (k' := (116 + 13 * x5.toNatClampNeg)) (by omega) g1 d_TG_answerBy_31 ?_
        refine lv_aload_n hx hb d_TG_answerBy_32 rfl (lv_at hl 2 rfl) ?_
        refine gw_Vl C hI hl.1 (As := [.ref (ad (116 + 13 * x5.toNatClampNeg)), .ref (ad 272)]) (rest := [.long x3]) (c_TG_addOf hja (isTR_at _ (vi_lt g1)) lay_272 h) kV_TG_108 lay_47 rfl rfl ⟨rfl, rfl⟩ ⟨Nat.le_of_ble_eq_true rfl, Nat.le_of_ble_eq_true rfl⟩ rfl (Nat.le_of_ble_eq_true rfl) ⟨Nat.zero_le _, Nat.zero_le _⟩ d_TG_answerBy_33 (fun r2 M3 H locs h hI => ?_)
        refine lv_ladd hx hb d_TG_answerBy_36 ?_
        refine lv_lstore_n (lv' := [(3, .long (x3 + r2)), (0, .ref (ad 47)), (1, .int x1), (2, .ref (ad 272)), (5, .int x5)]) hx hb d_TG_answerBy_37 rfl hl (by decide) rfl (fun ls hl => ?_)
        refine lv_iinc (v := x5 + 1) (lv' := [(5, .int (x5 + 1)), (3, .long (x3 + r2)), (0, .ref (ad 47)), (1, .int x1), (2, .ref (ad 272))]) hx hb d_TG_answerBy_38 hl (k := 4) rfl rfl (by decide) rfl (fun ls hl => ?_)
        refine lv_goto (tgt := 8) hx hb d_TG_answerBy_41 (by decide) ?_
        exact ih x1 (x3 + r2) (x5 + 1) M3 _ _ _ h hI (lv_sub hl [2, 3, 4, 1, 0] rfl)
set_option maxHeartbeats 4000000 in
set_option maxRecDepth 100000 in
theorem c_TG_answerBy {l : Launch} {D : va_G} {cy : Nat → ClassId} {ad : Nat → Nat} (hj : gJ ad) {a1 : Int32} {M : gM} {Q : Int64 → gM → Prop} (h : wp_TG_answerBy Q a1 M) : Cl l y_TG_answerBy b_TG_answerBy 6 (some .long) rm_TG_answerBy D cy ad [.ref (ad 47), .int a1, .ref (ad 272)] M Q := by
  refine gm (by decide +kernel) hj (Nat.le_of_ble_eq_true rfl) (fun p e s m args below meth c ls C hl hI => ?_)
  have hl : lv_has ls 6 [(0, .ref (ad 47)), (1, .int a1), (2, .ref (ad 272))] := hl
  obtain ⟨hx, hb, hml, hown, hts, hr, hlk, hK, hja⟩ := id C
  refine lv_aload_n hx hb d_TG_answerBy_0 rfl (lv_at hl 0 rfl) ?_
  refine gw_Vl C hI hl.1 (As := []) (rest := []) (c_TG_baseUnits hja h) kV_TG_94 lay_47 rfl rfl ⟨rfl, rfl⟩ ⟨Nat.le_of_ble_eq_true rfl, Nat.le_of_ble_eq_true rfl⟩ rfl (Nat.le_of_ble_eq_true rfl) ⟨Nat.zero_le _, Nat.zero_le _⟩ d_TG_answerBy_1 (fun r6 M7 H locs h hI => ?_)
  refine lv_lstore_n (lv' := [(3, .long r6), (0, .ref (ad 47)), (1, .int a1), (2, .ref (ad 272))]) hx hb d_TG_answerBy_4 rfl hl (by decide) rfl (fun ls hl => ?_)
  refine lv_iconst (v := (0 : Int32)) hx hb d_TG_answerBy_5 (by decide) ?_
  refine lv_istore (lv' := [(5, .int (0 : Int32)), (3, .long r6), (0, .ref (ad 47)), (1, .int a1), (2, .ref (ad 272))]) hx hb d_TG_answerBy_6 hl (by decide) rfl (fun ls hl => ?_)
  obtain ⟨n8, h⟩ := h
  exact L_TG_answerBy_8 C n8 a1 r6 (0 : Int32) M7 _ _ _ h hI (lv_sub hl [2, 3, 4, 1, 0] rfl)
set_option maxHeartbeats 4000000 in
set_option maxRecDepth 100000 in
theorem L_TG_treesOfLeastLoss_49 {p : Program} {l : Launch} {e : Env} {s : State} {m : MethodId} {args : Array Value} {below : List Frame} {meth : Method} {c : Code} {D : va_G} {cy : Nat → ClassId} {ad : Nat → Nat} (C : Cx p s m args meth c b_TG_treesOfLeastLoss 3 (some .int) "BoostForests$Training" D cy ad) {Q : Int32 → gM → Prop} {x1 : Int32} {x2 : Int32} {k19 : Int32 → Int32 → gM → Prop} {M : gM} {H : Heap} {locs : List Loc} {ls : Array Slot} (K19 : ∀ (x1 : Int32) (x2 : Int32) (M : gM) (H : Heap) (locs : List Loc) (ls : Array Slot), k19 x1 x2 M → gI D cy ad s M H locs → lv_has ls 3 [(0, .ref (ad 47)), (1, .int x1), (2, .int x2)] → W p l e rm_TG_treesOfLeastLoss s m args below meth c H locs 0 0 (MQ below (va_Qi Q (gB D cy ad) (gA ad s.heap.size)) args s 0 0 (gA ad s.heap.size)) (F0 m 19 ls [])) (h : wp_TG_treesOfLeastLoss_49 Q k19 x1 x2 M) (hI : gI D cy ad s M H locs) (hl : lv_has ls 3 [(0, .ref (ad 47)), (1, .int x1), (2, .int x2)]) : W p l e rm_TG_treesOfLeastLoss s m args below meth c H locs 0 0 (MQ below (va_Qi Q (gB D cy ad) (gA ad s.heap.size)) args s 0 0 (gA ad s.heap.size)) (F0 m 49 ls []) := by
  obtain ⟨hx, hb, hml, hown, hts, hr, hlk, hK, hja⟩ := id C
  refine lv_iinc (v := x2 + 1) (lv' := [(2, .int (x2 + 1)), (0, .ref (ad 47)), (1, .int x1)]) hx hb d_TG_treesOfLeastLoss_49 hl (k := 2) rfl rfl (by decide) rfl (fun ls hl => ?_)
  refine lv_goto (tgt := 19) hx hb d_TG_treesOfLeastLoss_52 (by decide) ?_
  exact K19 x1 (x2 + 1) M _ _ _ h hI (lv_sub hl [1, 2, 0] rfl)
set_option maxHeartbeats 4000000 in
set_option maxRecDepth 100000 in
theorem L_TG_treesOfLeastLoss_19 {p : Program} {l : Launch} {e : Env} {s : State} {m : MethodId} {args : Array Value} {below : List Frame} {meth : Method} {c : Code} {D : va_G} {cy : Nat → ClassId} {ad : Nat → Nat} (C : Cx p s m args meth c b_TG_treesOfLeastLoss 3 (some .int) "BoostForests$Training" D cy ad) {Q : Int32 → gM → Prop} (n : Nat) : ∀ (x1 : Int32) (x2 : Int32) (M : gM) (H : Heap) (locs : List Loc) (ls : Array Slot), wp_TG_treesOfLeastLoss_19 Q n x1 x2 M → gI D cy ad s M H locs → lv_has ls 3 [(0, .ref (ad 47)), (1, .int x1), (2, .int x2)] → W p l e rm_TG_treesOfLeastLoss s m args below meth c H locs 0 0 (MQ below (va_Qi Q (gB D cy ad) (gA ad s.heap.size)) args s 0 0 (gA ad s.heap.size)) (F0 m 19 ls []) := by
  obtain ⟨hx, hb, hml, hown, hts, hr, hlk, hK, hja⟩ := id C
  induction n with
  | zero => exact fun _ _ _ _ _ _ h _ _ => h.elim
  | succ n ih =>
    intro x1 x2 M H locs ls h hI hl
    have h := h
    refine lv_iload_n hx hb d_TG_treesOfLeastLoss_19 rfl (lv_at hl 2 rfl) ?_
    refine lv_aload_n hx hb d_TG_treesOfLeastLoss_20 rfl (lv_at hl 0 rfl) ?_
    refine gw_get (v := .int (M.1 47 9)) C hI lay_47 i_TG rfl 9 (by decide) kw_1_209 rfl rfl d_TG_treesOfLeastLoss_21 ?_
    refine lv_icmp_gt (tgt := 55) hx hb d_TG_treesOfLeastLoss_24 (by decide) (fun c4 => ?_) (fun c4 => ?_)
    · have h := h.1 c4
      refine lv_iload_n hx hb d_TG_treesOfLeastLoss_55 rfl (lv_at hl 1 rfl) ?_
      exact gr_i C hI h d_TG_treesOfLeastLoss_56
    · have h := h.2 c4
      refine lv_aload_n hx hb d_TG_treesOfLeastLoss_27 rfl (lv_at hl 0 rfl) ?_
      refine gw_get (v := .ref (ad 112)) C hI lay_47 i_TG rfl 6 (by decide) kw_1_204 rfl rfl d_TG_treesOfLeastLoss_28 ?_
      refine lv_iconst (v := (1 : Int32)) hx hb d_TG_treesOfLeastLoss_31 (by decide) ?_
      refine gw_aald C hI lay_112 rfl rfl (j := 1) (by decide) (k' := 114) (by omega) (vi_lit (1 : Int32) 2 (by decide)) d_TG_treesOfLeastLoss_32 ?_
      refine lv_iload_n hx hb d_TG_treesOfLeastLoss_33 rfl (lv_at hl 2 rfl) ?_
      obtain ⟨g1, h⟩ := h
      refine gw_lald C hI (lay_losses 1 (by decide)) (j := x2.toNatClampNeg) rfl (v := M.2 114 x2.toNatClampNeg) rfl g1 d_TG_treesOfLeastLoss_34 ?_
      refine lv_aload_n hx hb d_TG_treesOfLeastLoss_35 rfl (lv_at hl 0 rfl) ?_
      refine gw_get (v := .ref (ad 112)) C hI lay_47 i_TG rfl 6 (by decide) kw_1_204 rfl rfl d_TG_treesOfLeastLoss_36 ?_
      refine lv_iconst (v := (1 : Int32)) hx hb d_TG_treesOfLeastLoss_39 (by decide) ?_
      refine gw_aald C hI lay_112 rfl rfl (j := 1) (by decide) (k' := 114) (by omega) (vi_lit (1 : Int32) 2 (by decide)) d_TG_treesOfLeastLoss_40 ?_
      refine lv_iload_n hx hb d_TG_treesOfLeastLoss_41 rfl (lv_at hl 1 rfl) ?_
      obtain ⟨g2, h⟩ := h
      refine gw_lald C hI (lay_losses 1 (by decide)) (j := x1.toNatClampNeg) rfl (v := M.2 114 x1.toNatClampNeg) rfl g2 d_TG_treesOfLeastLoss_42 ?_
      refine gl_ge (tgt := 49) C d_TG_treesOfLeastLoss_43 d_TG_treesOfLeastLoss_44 (by decide) (fun c3 => ?_) (fun c3 => ?_)
      · have h := h.1 c3
        exact L_TG_treesOfLeastLoss_49 C ih h hI (lv_sub hl [0, 1, 2] rfl)
      · have h := h.2 c3
        refine lv_iload_n hx hb d_TG_treesOfLeastLoss_47 rfl (lv_at hl 2 rfl) ?_
        refine lv_istore_n (lv' := [(1, .int x2), (0, .ref (ad 47)), (2, .int x2)]) hx hb d_TG_treesOfLeastLoss_48 rfl hl (by decide) rfl (fun ls hl => ?_)
        exact L_TG_treesOfLeastLoss_49 C ih h hI (lv_sub hl [1, 0, 2] rfl)
set_option maxHeartbeats 4000000 in
set_option maxRecDepth 100000 in
theorem c_TG_treesOfLeastLoss {l : Launch} {D : va_G} {cy : Nat → ClassId} {ad : Nat → Nat} (hj : gJ ad) {M : gM} {Q : Int32 → gM → Prop} (h : wp_TG_treesOfLeastLoss Q M) : Ci l y_TG_treesOfLeastLoss b_TG_treesOfLeastLoss 3 (some .int) rm_TG_treesOfLeastLoss D cy ad [.ref (ad 47)] M Q := by
  refine gm (by decide +kernel) hj (Nat.le_of_ble_eq_true rfl) (fun p e s m args below meth c ls C hl hI => ?_)
  have hl : lv_has ls 3 [(0, .ref (ad 47))] := hl
  obtain ⟨hx, hb, hml, hown, hts, hr, hlk, hK, hja⟩ := id C
  refine lv_aload_n hx hb d_TG_treesOfLeastLoss_0 rfl (lv_at hl 0 rfl) ?_
  refine gw_get (v := .ref (ad 49)) C hI lay_47 i_TG rfl 1 (by decide) kw_1_196 rfl rfl d_TG_treesOfLeastLoss_1 ?_
  refine gw_Vi C hI hl.1 (As := []) (rest := []) (c_TB_heldRows hja isTB_49 h) kV_TG_65 isTB_49.1 rfl rfl ⟨rfl, rfl⟩ ⟨Nat.le_of_ble_eq_true rfl, Nat.le_of_ble_eq_true rfl⟩ rfl (Nat.le_of_ble_eq_true rfl) ⟨Nat.zero_le _, Nat.zero_le _⟩ d_TG_treesOfLeastLoss_4 (fun r5 M6 H locs h hI => ?_)
  refine lv_if_ne (tgt := 15) hx hb d_TG_treesOfLeastLoss_7 (by decide) (fun c8 => ?_) (fun c8 => ?_)
  · have h := h.1 c8
    refine lv_iconst (v := (0 : Int32)) hx hb d_TG_treesOfLeastLoss_15 (by decide) ?_
    refine lv_istore_n (lv' := [(1, .int (0 : Int32)), (0, .ref (ad 47))]) hx hb d_TG_treesOfLeastLoss_16 rfl hl (by decide) rfl (fun ls hl => ?_)
    refine lv_iconst (v := (1 : Int32)) hx hb d_TG_treesOfLeastLoss_17 (by decide) ?_
    refine lv_istore_n (lv' := [(2, .int (1 : Int32)), (1, .int (0 : Int32)), (0, .ref (ad 47))]) hx hb d_TG_treesOfLeastLoss_18 rfl hl (by decide) rfl (fun ls hl => ?_)
    obtain ⟨n7, h⟩ := h
    exact L_TG_treesOfLeastLoss_19 C n7 (0 : Int32) (1 : Int32) M6 _ _ _ h hI (lv_sub hl [2, 1, 0] rfl)
  · have h := h.2 c8
    refine lv_aload_n hx hb d_TG_treesOfLeastLoss_10 rfl (lv_at hl 0 rfl) ?_
    refine gw_get (v := .int (M6.1 47 9)) C hI lay_47 i_TG rfl 9 (by decide) kw_1_209 rfl rfl d_TG_treesOfLeastLoss_11 ?_
    exact gr_i C hI h d_TG_treesOfLeastLoss_14
set_option maxHeartbeats 4000000 in
set_option maxRecDepth 100000 in
theorem L_TG_leftOut_54 {p : Program} {l : Launch} {e : Env} {s : State} {m : MethodId} {args : Array Value} {below : List Frame} {meth : Method} {c : Code} {D : va_G} {cy : Nat → ClassId} {ad : Nat → Nat} (C : Cx p s m args meth c b_TG_leftOut 5 (some .long) "BoostForests$Training" D cy ad) {Q : Int64 → gM → Prop} {x1 : Int32} {x2 : Int64} {x4 : Int32} {k8 : Int32 → Int64 → Int32 → gM → Prop} {M : gM} {H : Heap} {locs : List Loc} {ls : Array Slot} (K8 : ∀ (x1 : Int32) (x2 : Int64) (x4 : Int32) (M : gM) (H : Heap) (locs : List Loc) (ls : Array Slot), k8 x1 x2 x4 M → gI D cy ad s M H locs → lv_has ls 5 [(0, .ref (ad 47)), (1, .int x1), (2, .long x2), (4, .int x4)] → W p l e rm_TG_leftOut s m args below meth c H locs 0 0 (MQ below (va_Ql Q (gB D cy ad) (gA ad s.heap.size)) args s 0 0 (gA ad s.heap.size)) (F0 m 8 ls [])) (h : wp_TG_leftOut_54 Q k8 x1 x2 x4 M) (hI : gI D cy ad s M H locs) (hl : lv_has ls 5 [(0, .ref (ad 47)), (1, .int x1), (2, .long x2), (4, .int x4)]) : W p l e rm_TG_leftOut s m args below meth c H locs 0 0 (MQ below (va_Ql Q (gB D cy ad) (gA ad s.heap.size)) args s 0 0 (gA ad s.heap.size)) (F0 m 54 ls []) := by
  obtain ⟨hx, hb, hml, hown, hts, hr, hlk, hK, hja⟩ := id C
  refine lv_iinc (v := x4 + 1) (lv' := [(4, .int (x4 + 1)), (0, .ref (ad 47)), (1, .int x1), (2, .long x2)]) hx hb d_TG_leftOut_54 hl (k := 3) rfl rfl (by decide) rfl (fun ls hl => ?_)
  refine lv_goto (tgt := 8) hx hb d_TG_leftOut_57 (by decide) ?_
  exact K8 x1 x2 (x4 + 1) M _ _ _ h hI (lv_sub hl [1, 2, 3, 0] rfl)
set_option maxHeartbeats 4000000 in
set_option maxRecDepth 100000 in
theorem L_TG_leftOut_8 {p : Program} {l : Launch} {e : Env} {s : State} {m : MethodId} {args : Array Value} {below : List Frame} {meth : Method} {c : Code} {D : va_G} {cy : Nat → ClassId} {ad : Nat → Nat} (C : Cx p s m args meth c b_TG_leftOut 5 (some .long) "BoostForests$Training" D cy ad) {Q : Int64 → gM → Prop} (n : Nat) : ∀ (x1 : Int32) (x2 : Int64) (x4 : Int32) (M : gM) (H : Heap) (locs : List Loc) (ls : Array Slot), wp_TG_leftOut_8 Q n x1 x2 x4 M → gI D cy ad s M H locs → lv_has ls 5 [(0, .ref (ad 47)), (1, .int x1), (2, .long x2), (4, .int x4)] → W p l e rm_TG_leftOut s m args below meth c H locs 0 0 (MQ below (va_Ql Q (gB D cy ad) (gA ad s.heap.size)) args s 0 0 (gA ad s.heap.size)) (F0 m 8 ls []) := by
  obtain ⟨hx, hb, hml, hown, hts, hr, hlk, hK, hja⟩ := id C
  induction n with
  | zero => exact fun _ _ _ _ _ _ _ h _ _ => h.elim
  | succ n ih =>
    intro x1 x2 x4 M H locs ls h hI hl
    have h := h
    refine lv_iload hx hb d_TG_leftOut_8 (lv_at hl 3 rfl) ?_
    refine lv_aload_n hx hb d_TG_leftOut_10 rfl (lv_at hl 0 rfl) ?_
    refine gw_get (v := .int (M.1 47 9)) C hI lay_47 i_TG rfl 9 (by decide) kw_1_209 rfl rfl d_TG_leftOut_11 ?_
    refine lv_icmp_ge (tgt := 60) hx hb d_TG_leftOut_14 (by decide) (fun c6 => ?_) (fun c6 => ?_)
    · have h := h.1 c6
      refine lv_lload_n hx hb d_TG_leftOut_60 rfl (lv_at hl 2 rfl) ?_
      exact gr_l C hI h d_TG_leftOut_61
    · have h := h.2 c6
      refine lv_aload_n hx hb d_TG_leftOut_17 rfl (lv_at hl 0 rfl) ?_
      refine gw_get (v := .ref (ad 111)) C hI lay_47 i_TG rfl 5 (by decide) kw_1_202 rfl rfl d_TG_leftOut_18 ?_
      refine lv_iload_n hx hb d_TG_leftOut_21 rfl (lv_at hl 1 rfl) ?_
      obtain ⟨g1, h⟩ := h
      refine gw_iald C hI lay_111 (j := x1.toNatClampNeg) rfl (v := M.1 111 x1.toNatClampNeg) rfl g1 d_TG_leftOut_22 ?_
      refine lv_iload hx hb d_TG_leftOut_23 (lv_at hl 3 rfl) ?_
      refine lv_ishr hx hb d_TG_leftOut_25 ?_
      refine lv_iconst (v := (1 : Int32)) hx hb d_TG_leftOut_26 (by decide) ?_
      refine lv_iand hx hb d_TG_leftOut_27 ?_
      refine lv_if_ne (tgt := 54) hx hb d_TG_leftOut_28 (by decide) (fun c5 => ?_) (fun c5 => ?_)
      · have h := h.1 c5
        exact L_TG_leftOut_54 C ih h hI (lv_sub hl [0, 1, 2, 3] rfl)
      · have h := h.2 c5
        refine lv_lload_n hx hb d_TG_leftOut_31 rfl (lv_at hl 2 rfl) ?_
        refine lv_aload_n hx hb d_TG_leftOut_32 rfl (lv_at hl 0 rfl) ?_
        refine lv_aload_n hx hb d_TG_leftOut_33 rfl (lv_at hl 0 rfl) ?_
        refine gw_get (v := .ref (ad 109)) C hI lay_47 i_TG rfl 3 (by decide) kw_1_199 rfl rfl d_TG_leftOut_34 ?_
        refine lv_iload hx hb d_TG_leftOut_37 (lv_at hl 3 rfl) ?_
        obtain ⟨g2, h⟩ := h
        refine gw_aald C hI lay_109 rfl rfl (j := x4.toNatClampNeg) rfl (k' := (116 + 13 * x4.toNatClampNeg)) (by omega) g2 d_TG_leftOut_39 ?_
        refine lv_aload_n hx hb d_TG_leftOut_40 rfl (lv_at hl 0 rfl) ?_
        refine gw_get (v := .ref (ad 49)) C hI lay_47 i_TG rfl 1 (by decide) kw_1_196 rfl rfl d_TG_leftOut_41 ?_
        refine gw_get (v := .ref (ad 50)) C hI isTB_49.1 i_TB rfl 0 (by decide) kw_1_30 rfl rfl d_TG_leftOut_44 ?_
        refine lv_iload_n hx hb d_TG_leftOut_47 rfl (lv_at hl 1 rfl) ?_
        refine gw_aald C hI isTB_49.2.1 rfl rfl (j := x1.toNatClampNeg) rfl (k' := 51 + x1.toNatClampNeg) (by omega) g1 d_TG_leftOut_48 ?_
        refine gw_Vl C hI hl.1 (As := [.ref (ad (116 + 13 * x4.toNatClampNeg)), .ref (ad (51 + x1.toNatClampNeg))]) (rest := [.long x2]) (c_TG_addOf hja (isTR_at _ (vi_lt g2)) (isTB_49.2.2.1 _ (vi_lt g1)) h) kV_TG_108 lay_47 rfl rfl ⟨rfl, rfl⟩ ⟨Nat.le_of_ble_eq_true rfl, Nat.le_of_ble_eq_true rfl⟩ rfl (Nat.le_of_ble_eq_true rfl) ⟨Nat.zero_le _, Nat.zero_le _⟩ d_TG_leftOut_49 (fun r3 M4 H locs h hI => ?_)
        refine lv_ladd hx hb d_TG_leftOut_52 ?_
        refine lv_lstore_n (lv' := [(2, .long (x2 + r3)), (0, .ref (ad 47)), (1, .int x1), (4, .int x4)]) hx hb d_TG_leftOut_53 rfl hl (by decide) rfl (fun ls hl => ?_)
        exact L_TG_leftOut_54 C ih h hI (lv_sub hl [1, 2, 0, 3] rfl)
set_option maxHeartbeats 4000000 in
set_option maxRecDepth 100000 in
theorem c_TG_leftOut {l : Launch} {D : va_G} {cy : Nat → ClassId} {ad : Nat → Nat} (hj : gJ ad) {a1 : Int32} {M : gM} {Q : Int64 → gM → Prop} (h : wp_TG_leftOut Q a1 M) : Cl l y_TG_leftOut b_TG_leftOut 5 (some .long) rm_TG_leftOut D cy ad [.ref (ad 47), .int a1] M Q := by
  refine gm (by decide +kernel) hj (Nat.le_of_ble_eq_true rfl) (fun p e s m args below meth c ls C hl hI => ?_)
  have hl : lv_has ls 5 [(0, .ref (ad 47)), (1, .int a1)] := hl
  obtain ⟨hx, hb, hml, hown, hts, hr, hlk, hK, hja⟩ := id C
  refine lv_aload_n hx hb d_TG_leftOut_0 rfl (lv_at hl 0 rfl) ?_
  refine gw_Vl C hI hl.1 (As := []) (rest := []) (c_TG_baseUnits hja h) kV_TG_94 lay_47 rfl rfl ⟨rfl, rfl⟩ ⟨Nat.le_of_ble_eq_true rfl, Nat.le_of_ble_eq_true rfl⟩ rfl (Nat.le_of_ble_eq_true rfl) ⟨Nat.zero_le _, Nat.zero_le _⟩ d_TG_leftOut_1 (fun r7 M8 H locs h hI => ?_)
  refine lv_lstore_n (lv' := [(2, .long r7), (0, .ref (ad 47)), (1, .int a1)]) hx hb d_TG_leftOut_4 rfl hl (by decide) rfl (fun ls hl => ?_)
  refine lv_iconst (v := (0 : Int32)) hx hb d_TG_leftOut_5 (by decide) ?_
  refine lv_istore (lv' := [(4, .int (0 : Int32)), (2, .long r7), (0, .ref (ad 47)), (1, .int a1)]) hx hb d_TG_leftOut_6 hl (by decide) rfl (fun ls hl => ?_)
  obtain ⟨n9, h⟩ := h
  exact L_TG_leftOut_8 C n9 a1 r7 (0 : Int32) M8 _ _ _ h hI (lv_sub hl [2, 3, 1, 0] rfl)
set_option maxHeartbeats 4000000 in
set_option maxRecDepth 100000 in
theorem L_TG_gainBy_69 {p : Program} {l : Launch} {e : Env} {s : State} {m : MethodId} {args : Array Value} {below : List Frame} {meth : Method} {c : Code} {D : va_G} {cy : Nat → ClassId} {ad : Nat → Nat} (C : Cx p s m args meth c b_TG_gainBy 6 (some .long) "BoostForests$Training" D cy ad) {Q : Int64 → gM → Prop} {x1 : Int32} {x2 : Int64} {x4 : Int32} {x5 : Int32} {k5 : Int32 → Int64 → Int32 → gM → Prop} {k17 : Int32 → Int64 → Int32 → Int32 → gM → Prop} {M : gM} {H : Heap} {locs : List Loc} {ls : Array Slot} (K5 : ∀ (x1 : Int32) (x2 : Int64) (x4 : Int32) (M : gM) (H : Heap) (locs : List Loc) (ls : Array Slot), k5 x1 x2 x4 M → gI D cy ad s M H locs → lv_has ls 6 [(0, .ref (ad 47)), (1, .int x1), (2, .long x2), (4, .int x4)] → W p l e rm_TG_gainBy s m args below meth c H locs 0 0 (MQ below (va_Ql Q (gB D cy ad) (gA ad s.heap.size)) args s 0 0 (gA ad s.heap.size)) (F0 m 5 ls [])) (K17 : ∀ (x1 : Int32) (x2 : Int64) (x4 : Int32) (x5 : Int32) (M : gM) (H : Heap) (locs : List Loc) (ls : Array Slot), k17 x1 x2 x4 x5 M → gI D cy ad s M H locs → lv_has ls 6 [(0, .ref (ad 47)), (1, .int x1), (2, .long x2), (4, .int x4), (5, .int x5)] → W p l e rm_TG_gainBy s m args below meth c H locs 0 0 (MQ below (va_Ql Q (gB D cy ad) (gA ad s.heap.size)) args s 0 0 (gA ad s.heap.size)) (F0 m 17 ls [])) (h : wp_TG_gainBy_69 Q k5 k17 x1 x2 x4 x5 M) (hI : gI D cy ad s M H locs) (hl : lv_has ls 6 [(0, .ref (ad 47)), (1, .int x1), (2, .long x2), (4, .int x4), (5, .int x5)]) : W p l e rm_TG_gainBy s m args below meth c H locs 0 0 (MQ below (va_Ql Q (gB D cy ad) (gA ad s.heap.size)) args s 0 0 (gA ad s.heap.size)) (F0 m 69 ls []) := by
  obtain ⟨hx, hb, hml, hown, hts, hr, hlk, hK, hja⟩ := id C
  refine lv_iinc (v := x5 + 1) (lv' := [(5, .int (x5 + 1)), (0, .ref (ad 47)), (1, .int x1), (2, .long x2), (4, .int x4)]) hx hb d_TG_gainBy_69 hl (k := 4) rfl rfl (by decide) rfl (fun ls hl => ?_)
  refine lv_goto (tgt := 17) hx hb d_TG_gainBy_72 (by decide) ?_
  exact K17 x1 x2 x4 (x5 + 1) M _ _ _ h hI (lv_sub hl [1, 2, 3, 4, 0] rfl)
set_option maxHeartbeats 4000000 in
set_option maxRecDepth 100000 in
theorem L_TG_gainBy_17 {p : Program} {l : Launch} {e : Env} {s : State} {m : MethodId} {args : Array Value} {below : List Frame} {meth : Method} {c : Code} {D : va_G} {cy : Nat → ClassId} {ad : Nat → Nat} (C : Cx p s m args meth c b_TG_gainBy 6 (some .long) "BoostForests$Training" D cy ad) {Q : Int64 → gM → Prop} {k5 : Int32 → Int64 → Int32 → gM → Prop} (K5 : ∀ (x1 : Int32) (x2 : Int64) (x4 : Int32) (M : gM) (H : Heap) (locs : List Loc) (ls : Array Slot), k5 x1 x2 x4 M → gI D cy ad s M H locs → lv_has ls 6 [(0, .ref (ad 47)), (1, .int x1), (2, .long x2), (4, .int x4)] → W p l e rm_TG_gainBy s m args below meth c H locs 0 0 (MQ below (va_Ql Q (gB D cy ad) (gA ad s.heap.size)) args s 0 0 (gA ad s.heap.size)) (F0 m 5 ls [])) (n : Nat) : ∀ (x1 : Int32) (x2 : Int64) (x4 : Int32) (x5 : Int32) (M : gM) (H : Heap) (locs : List Loc) (ls : Array Slot), wp_TG_gainBy_17 Q k5 n x1 x2 x4 x5 M → gI D cy ad s M H locs → lv_has ls 6 [(0, .ref (ad 47)), (1, .int x1), (2, .long x2), (4, .int x4), (5, .int x5)] → W p l e rm_TG_gainBy s m args below meth c H locs 0 0 (MQ below (va_Ql Q (gB D cy ad) (gA ad s.heap.size)) args s 0 0 (gA ad s.heap.size)) (F0 m 17 ls []) := by
  obtain ⟨hx, hb, hml, hown, hts, hr, hlk, hK, hja⟩ := id C
  induction n with
  | zero => exact fun _ _ _ _ _ _ _ _ h _ _ => h.elim
  | succ n ih =>
    intro x1 x2 x4 x5 M H locs ls h hI hl
    have h := h
    refine lv_iload hx hb d_TG_gainBy_17 (lv_at hl 4 rfl) ?_
    refine lv_aload_n hx hb d_TG_gainBy_19 rfl (lv_at hl 0 rfl) ?_
    refine gw_get (v := .ref (ad 109)) C hI lay_47 i_TG rfl 3 (by decide) kw_1_199 rfl rfl d_TG_gainBy_20 ?_
    refine lv_iload hx hb d_TG_gainBy_23 (lv_at hl 3 rfl) ?_
    obtain ⟨g1, h⟩ := h
    refine gw_aald C hI lay_109 rfl rfl (j := x4.toNatClampNeg) rfl (k' := (116 + 13 * x4.toNatClampNeg)) (by omega) g1 d_TG_gainBy_25 ?_
    refine gw_get (v := .int (M.1 (116 + 13 * x4.toNatClampNeg) 2)) C hI (isTR_at _ (vi_lt g1)).1 i_TR rfl 2 (by decide) kw_1_187 rfl rfl d_TG_gainBy_26 ?_
    refine lv_icmp_ge (tgt := 75) hx hb d_TG_gainBy_29 (by decide) (fun c4 => ?_) (fun c4 => ?_)
    · have h := h.1 c4
      refine lv_iinc (v := x4 + 1) (lv' := [(4, .int (x4 + 1)), (0, .ref (ad 47)), (1, .int x1), (2, .long x2), (5, .int x5)]) hx hb d_TG_gainBy_75 hl (k := 3) rfl rfl (by decide) rfl (fun ls hl => ?_)
      refine lv_goto (tgt := 5) hx hb d_TG_gainBy_78 (by decide) ?_
      exact K5 x1 x2 (x4 + 1) M _ _ _ h hI (lv_sub hl [1, 2, 3, 0] rfl)
    · have h := h.2 c4
      refine lv_aload_n hx hb d_TG_gainBy_32 rfl (lv_at hl 0 rfl) ?_
      refine gw_get (v := .ref (ad 109)) C hI lay_47 i_TG rfl 3 (by decide) kw_1_199 rfl rfl d_TG_gainBy_33 ?_
      refine lv_iload hx hb d_TG_gainBy_36 (lv_at hl 3 rfl) ?_
      refine gw_aald C hI lay_109 rfl rfl (j := x4.toNatClampNeg) rfl (k' := (116 + 13 * x4.toNatClampNeg)) (by omega) g1 d_TG_gainBy_38 ?_
      refine gw_get (v := .ref (ad ((116 + 13 * x4.toNatClampNeg) + 1))) C hI (isTR_at _ (vi_lt g1)).1 i_TR rfl 0 (by decide) kw_1_180 rfl rfl d_TG_gainBy_39 ?_
      refine lv_iconst (v := (0 : Int32)) hx hb d_TG_gainBy_42 (by decide) ?_
      refine gw_aald C hI (isTR_at _ (vi_lt g1)).2.1 rfl rfl (j := 0) (by decide) (k' := (116 + 13 * x4.toNatClampNeg) + 2) (by omega) (vi_lit (0 : Int32) 7 (by decide)) d_TG_gainBy_43 ?_
      refine lv_iload hx hb d_TG_gainBy_44 (lv_at hl 4 rfl) ?_
      obtain ⟨g2, h⟩ := h
      refine gw_iald C hI ((isTR_at _ (vi_lt g1)).2.2.1 0 (by decide)) (j := x5.toNatClampNeg) rfl (v := M.1 ((116 + 13 * x4.toNatClampNeg) + 2) x5.toNatClampNeg) rfl g2 d_TG_gainBy_46 ?_
      refine lv_iload_n hx hb d_TG_gainBy_47 rfl (lv_at hl 1 rfl) ?_
      refine lv_icmp_ne (tgt := 69) hx hb d_TG_gainBy_48 (by decide) (fun c3 => ?_) (fun c3 => ?_)
      · have h := h.1 c3
        exact L_TG_gainBy_69 C K5 ih h hI (lv_sub hl [0, 1, 2, 3, 4] rfl)
      · have h := h.2 c3
        refine lv_lload_n hx hb d_TG_gainBy_51 rfl (lv_at hl 2 rfl) ?_
        refine lv_aload_n hx hb d_TG_gainBy_52 rfl (lv_at hl 0 rfl) ?_
        refine gw_get (v := .ref (ad 109)) C hI lay_47 i_TG rfl 3 (by decide) kw_1_199 rfl rfl d_TG_gainBy_53 ?_
        refine lv_iload hx hb d_TG_gainBy_56 (lv_at hl 3 rfl) ?_
        refine gw_aald C hI lay_109 rfl rfl (j := x4.toNatClampNeg) rfl (k' := (116 + 13 * x4.toNatClampNeg)) (by omega) g1 d_TG_gainBy_58 ?_
        refine gw_get (v := .ref (ad ((116 + 13 * x4.toNatClampNeg) + 9))) C hI (isTR_at _ (vi_lt g1)).1 i_TR rfl 1 (by decide) kw_1_183 rfl rfl d_TG_gainBy_59 ?_
        refine lv_iconst (v := (2 : Int32)) hx hb d_TG_gainBy_62 (by decide) ?_
        refine gw_aald C hI (isTR_at _ (vi_lt g1)).2.2.2.1 rfl rfl (j := 2) (by decide) (k' := (116 + 13 * x4.toNatClampNeg) + 12) (by omega) (vi_lit (2 : Int32) 3 (by decide)) d_TG_gainBy_63 ?_
        refine lv_iload hx hb d_TG_gainBy_64 (lv_at hl 4 rfl) ?_
        refine gw_lald C hI ((isTR_at _ (vi_lt g1)).2.2.2.2 2 (by decide)) (j := x5.toNatClampNeg) rfl (v := M.2 ((116 + 13 * x4.toNatClampNeg) + 12) x5.toNatClampNeg) rfl g2 d_TG_gainBy_66 ?_
        refine lv_ladd hx hb d_TG_gainBy_67 ?_
        refine lv_lstore_n (lv' := [(2, .long (x2 + (M.2 ((116 + 13 * x4.toNatClampNeg) + 12) x5.toNatClampNeg))), (0, .ref (ad 47)), (1, .int x1), (4, .int x4), (5, .int x5)]) hx hb d_TG_gainBy_68 rfl hl (by decide) rfl (fun ls hl => ?_)
        exact L_TG_gainBy_69 C K5 ih h hI (lv_sub hl [1, 2, 0, 3, 4] rfl)
set_option maxHeartbeats 4000000 in
set_option maxRecDepth 100000 in
theorem L_TG_gainBy_5 {p : Program} {l : Launch} {e : Env} {s : State} {m : MethodId} {args : Array Value} {below : List Frame} {meth : Method} {c : Code} {D : va_G} {cy : Nat → ClassId} {ad : Nat → Nat} (C : Cx p s m args meth c b_TG_gainBy 6 (some .long) "BoostForests$Training" D cy ad) {Q : Int64 → gM → Prop} (n : Nat) : ∀ (x1 : Int32) (x2 : Int64) (x4 : Int32) (M : gM) (H : Heap) (locs : List Loc) (ls : Array Slot), wp_TG_gainBy_5 Q n x1 x2 x4 M → gI D cy ad s M H locs → lv_has ls 6 [(0, .ref (ad 47)), (1, .int x1), (2, .long x2), (4, .int x4)] → W p l e rm_TG_gainBy s m args below meth c H locs 0 0 (MQ below (va_Ql Q (gB D cy ad) (gA ad s.heap.size)) args s 0 0 (gA ad s.heap.size)) (F0 m 5 ls []) := by
  obtain ⟨hx, hb, hml, hown, hts, hr, hlk, hK, hja⟩ := id C
  induction n with
  | zero => exact fun _ _ _ _ _ _ _ h _ _ => h.elim
  | succ n ih =>
    intro x1 x2 x4 M H locs ls h hI hl
    have h := h
    refine lv_iload hx hb d_TG_gainBy_5 (lv_at hl 3 rfl) ?_
    refine lv_aload_n hx hb d_TG_gainBy_7 rfl (lv_at hl 0 rfl) ?_
    refine gw_get (v := .int (M.1 47 9)) C hI lay_47 i_TG rfl 9 (by decide) kw_1_209 rfl rfl d_TG_gainBy_8 ?_
    refine lv_icmp_ge (tgt := 81) hx hb d_TG_gainBy_11 (by decide) (fun c6 => ?_) (fun c6 => ?_)
    · have h := h.1 c6
      refine lv_lload_n hx hb d_TG_gainBy_81 rfl (lv_at hl 2 rfl) ?_
      exact gr_l C hI h d_TG_gainBy_82
    · have h := h.2 c6
      refine lv_iconst (v := (0 : Int32)) hx hb d_TG_gainBy_14 (by decide) ?_
      refine lv_istore (lv' := [(5, .int (0 : Int32)), (0, .ref (ad 47)), (1, .int x1), (2, .long x2), (4, .int x4)]) hx hb d_TG_gainBy_15 hl (by decide) rfl (fun ls hl => ?_)
      obtain ⟨n5, h⟩ := h
      exact L_TG_gainBy_17 C ih n5 x1 x2 x4 (0 : Int32) M _ _ _ h hI (lv_sub hl [1, 2, 3, 4, 0] rfl)
set_option maxHeartbeats 4000000 in
set_option maxRecDepth 100000 in
theorem c_TG_gainBy {l : Launch} {D : va_G} {cy : Nat → ClassId} {ad : Nat → Nat} (hj : gJ ad) {a1 : Int32} {M : gM} {Q : Int64 → gM → Prop} (h : wp_TG_gainBy Q a1 M) : Cl l y_TG_gainBy b_TG_gainBy 6 (some .long) rm_TG_gainBy D cy ad [.ref (ad 47), .int a1] M Q := by
  refine gm (by decide +kernel) hj (Nat.le_of_ble_eq_true rfl) (fun p e s m args below meth c ls C hl hI => ?_)
  have hl : lv_has ls 6 [(0, .ref (ad 47)), (1, .int a1)] := hl
  obtain ⟨hx, hb, hml, hown, hts, hr, hlk, hK, hja⟩ := id C
  refine lv_lconst (v := 0) hx hb d_TG_gainBy_0 (by decide) ?_
  refine lv_lstore_n (lv' := [(2, .long (0 : Int64)), (0, .ref (ad 47)), (1, .int a1)]) hx hb d_TG_gainBy_1 rfl hl (by decide) rfl (fun ls hl => ?_)
  refine lv_iconst (v := (0 : Int32)) hx hb d_TG_gainBy_2 (by decide) ?_
  refine lv_istore (lv' := [(4, .int (0 : Int32)), (2, .long (0 : Int64)), (0, .ref (ad 47)), (1, .int a1)]) hx hb d_TG_gainBy_3 hl (by decide) rfl (fun ls hl => ?_)
  obtain ⟨n7, h⟩ := h
  exact L_TG_gainBy_5 C n7 a1 (0 : Int64) (0 : Int32) M _ _ _ h hI (lv_sub hl [2, 3, 1, 0] rfl)
set_option maxHeartbeats 4000000 in
set_option maxRecDepth 100000 in
theorem c_TG_tellBoth {l : Launch} {D : va_G} {cy : Nat → ClassId} {ad : Nat → Nat} (hj : gJ ad) {b1 : Nat} (hb1 : isTR b1) {a2 : Int32} {M : gM} {Q : Int64 → gM → Prop} (h : wp_TG_tellBoth Q b1 a2 M) : Cl l y_TG_tellBoth b_TG_tellBoth 9 (some .long) rm_TG_tellBoth D cy ad [.ref (ad 47), .ref (ad b1), .int a2] M Q := by
  refine gm (by decide +kernel) hj (Nat.le_of_ble_eq_true rfl) (fun p e s m args below meth c ls C hl hI => ?_)
  have hl : lv_has ls 9 [(0, .ref (ad 47)), (1, .ref (ad b1)), (2, .int a2)] := hl
  obtain ⟨hx, hb, hml, hown, hts, hr, hlk, hK, hja⟩ := id C
  refine lv_aload_n hx hb d_TG_tellBoth_0 rfl (lv_at hl 1 rfl) ?_
  refine gw_get (v := .ref (ad (b1 + 1))) C hI hb1.1 i_TR rfl 0 (by decide) kw_1_180 rfl rfl d_TG_tellBoth_1 ?_
  refine lv_iconst (v := (4 : Int32)) hx hb d_TG_tellBoth_4 (by decide) ?_
  refine gw_aald C hI hb1.2.1 rfl rfl (j := 4) (by decide) (k' := b1 + 6) (by omega) (vi_lit (4 : Int32) 7 (by decide)) d_TG_tellBoth_5 ?_
  refine lv_astore_n (lv' := [(3, .ref (ad (b1 + 6))), (0, .ref (ad 47)), (1, .ref (ad b1)), (2, .int a2)]) hx hb d_TG_tellBoth_6 rfl hl (by decide) rfl (fun ls hl => ?_)
  refine lv_aload_n hx hb d_TG_tellBoth_7 rfl (lv_at hl 2 rfl) ?_
  refine gw_get (v := .ref (ad (b1 + 1))) C hI hb1.1 i_TR rfl 0 (by decide) kw_1_180 rfl rfl d_TG_tellBoth_8 ?_
  refine lv_iconst (v := (3 : Int32)) hx hb d_TG_tellBoth_11 (by decide) ?_
  refine gw_aald C hI hb1.2.1 rfl rfl (j := 3) (by decide) (k' := b1 + 5) (by omega) (vi_lit (3 : Int32) 7 (by decide)) d_TG_tellBoth_12 ?_
  refine lv_iload_n hx hb d_TG_tellBoth_13 rfl (lv_at hl 3 rfl) ?_
  obtain ⟨g1, h⟩ := h
  refine gw_iald C hI (hb1.2.2.1 3 (by decide)) (j := a2.toNatClampNeg) rfl (v := M.1 (b1 + 5) a2.toNatClampNeg) rfl g1 d_TG_tellBoth_14 ?_
  refine lv_istore (lv' := [(4, .int (M.1 (b1 + 5) a2.toNatClampNeg)), (3, .ref (ad (b1 + 6))), (0, .ref (ad 47)), (1, .ref (ad b1)), (2, .int a2)]) hx hb d_TG_tellBoth_15 hl (by decide) rfl (fun ls hl => ?_)
  refine lv_aload_n hx hb d_TG_tellBoth_17 rfl (lv_at hl 2 rfl) ?_
  refine gw_get (v := .ref (ad 115)) C hI lay_47 i_TG rfl 7 (by decide) kw_1_206 rfl rfl d_TG_tellBoth_18 ?_
  refine lv_iload hx hb d_TG_tellBoth_21 (lv_at hl 0 rfl) ?_
  obtain ⟨g2, h⟩ := h
  refine gw_lald C hI lay_115 (j := (M.1 (b1 + 5) a2.toNatClampNeg).toNatClampNeg) rfl (v := M.2 115 ((M.1 (b1 + 5) a2.toNatClampNeg).toNatClampNeg)) rfl g2 d_TG_tellBoth_23 ?_
  refine lv_aload_n hx hb d_TG_tellBoth_24 rfl (lv_at hl 1 rfl) ?_
  refine lv_iload hx hb d_TG_tellBoth_25 (lv_at hl 0 rfl) ?_
  refine gw_iald C hI (hb1.2.2.1 4 (by decide)) (j := (M.1 (b1 + 5) a2.toNatClampNeg).toNatClampNeg) rfl (v := M.1 (b1 + 6) ((M.1 (b1 + 5) a2.toNatClampNeg).toNatClampNeg)) rfl g2 d_TG_tellBoth_27 ?_
  refine lv_i2l hx hb d_TG_tellBoth_28 rfl ?_
  refine lv_lmul hx hb d_TG_tellBoth_29 ?_
  refine lv_aload_n hx hb d_TG_tellBoth_30 rfl (lv_at hl 2 rfl) ?_
  refine gw_get (v := .ref (ad 115)) C hI lay_47 i_TG rfl 7 (by decide) kw_1_206 rfl rfl d_TG_tellBoth_31 ?_
  refine lv_iload hx hb d_TG_tellBoth_34 (lv_at hl 0 rfl) ?_
  refine lv_iconst (v := (1 : Int32)) hx hb d_TG_tellBoth_36 (by decide) ?_
  refine lv_iadd hx hb d_TG_tellBoth_37 ?_
  obtain ⟨g3, h⟩ := h
  refine gw_lald C hI lay_115 (j := ((M.1 (b1 + 5) a2.toNatClampNeg) + (1 : Int32)).toNatClampNeg) rfl (v := M.2 115 (((M.1 (b1 + 5) a2.toNatClampNeg) + (1 : Int32)).toNatClampNeg)) rfl g3 d_TG_tellBoth_38 ?_
  refine lv_aload_n hx hb d_TG_tellBoth_39 rfl (lv_at hl 1 rfl) ?_
  refine lv_iload hx hb d_TG_tellBoth_40 (lv_at hl 0 rfl) ?_
  refine lv_iconst (v := (1 : Int32)) hx hb d_TG_tellBoth_42 (by decide) ?_
  refine lv_iadd hx hb d_TG_tellBoth_43 ?_
  refine gw_iald C hI (hb1.2.2.1 4 (by decide)) (j := ((M.1 (b1 + 5) a2.toNatClampNeg) + (1 : Int32)).toNatClampNeg) rfl (v := M.1 (b1 + 6) (((M.1 (b1 + 5) a2.toNatClampNeg) + (1 : Int32)).toNatClampNeg)) rfl g3 d_TG_tellBoth_44 ?_
  refine lv_i2l hx hb d_TG_tellBoth_45 rfl ?_
  refine lv_lmul hx hb d_TG_tellBoth_46 ?_
  refine lv_ladd hx hb d_TG_tellBoth_47 ?_
  refine lv_lstore (lv' := [(5, .long (((M.2 115 ((M.1 (b1 + 5) a2.toNatClampNeg).toNatClampNeg)) * ((M.1 (b1 + 6) ((M.1 (b1 + 5) a2.toNatClampNeg).toNatClampNeg)).toInt64)) + ((M.2 115 (((M.1 (b1 + 5) a2.toNatClampNeg) + (1 : Int32)).toNatClampNeg)) * ((M.1 (b1 + 6) (((M.1 (b1 + 5) a2.toNatClampNeg) + (1 : Int32)).toNatClampNeg)).toInt64)))), (4, .int (M.1 (b1 + 5) a2.toNatClampNeg)), (3, .ref (ad (b1 + 6))), (0, .ref (ad 47)), (1, .ref (ad b1)), (2, .int a2)]) hx hb d_TG_tellBoth_48 hl (by decide) rfl (fun ls hl => ?_)
  refine lv_aload_n hx hb d_TG_tellBoth_50 rfl (lv_at hl 2 rfl) ?_
  refine lv_iload_n hx hb d_TG_tellBoth_51 rfl (lv_at hl 5 rfl) ?_
  refine gw_iald C hI (hb1.2.2.1 4 (by decide)) (j := a2.toNatClampNeg) rfl (v := M.1 (b1 + 6) a2.toNatClampNeg) rfl g1 d_TG_tellBoth_52 ?_
  refine lv_i2l hx hb d_TG_tellBoth_53 rfl ?_
  refine lv_lstore (lv' := [(7, .long ((M.1 (b1 + 6) a2.toNatClampNeg).toInt64)), (5, .long (((M.2 115 ((M.1 (b1 + 5) a2.toNatClampNeg).toNatClampNeg)) * ((M.1 (b1 + 6) ((M.1 (b1 + 5) a2.toNatClampNeg).toNatClampNeg)).toInt64)) + ((M.2 115 (((M.1 (b1 + 5) a2.toNatClampNeg) + (1 : Int32)).toNatClampNeg)) * ((M.1 (b1 + 6) (((M.1 (b1 + 5) a2.toNatClampNeg) + (1 : Int32)).toNatClampNeg)).toInt64)))), (4, .int (M.1 (b1 + 5) a2.toNatClampNeg)), (3, .ref (ad (b1 + 6))), (0, .ref (ad 47)), (1, .ref (ad b1)), (2, .int a2)]) hx hb d_TG_tellBoth_54 hl (by decide) rfl (fun ls hl => ?_)
  refine lv_lload hx hb d_TG_tellBoth_56 (lv_at hl 0 rfl) ?_
  refine lv_lconst (v := 0) hx hb d_TG_tellBoth_58 (by decide) ?_
  refine gl_ne (tgt := 67) C d_TG_tellBoth_59 d_TG_tellBoth_60 (by decide) (fun c6 => ?_) (fun c6 => ?_)
  · have h := h.1 c6
    refine lv_lload hx hb d_TG_tellBoth_67 (lv_at hl 1 rfl) ?_
    refine lv_lload hx hb d_TG_tellBoth_69 (lv_at hl 0 rfl) ?_
    refine gw_Sl C hI hl.1 (As := [.long (((M.2 115 ((M.1 (b1 + 5) a2.toNatClampNeg).toNatClampNeg)) * ((M.1 (b1 + 6) ((M.1 (b1 + 5) a2.toNatClampNeg).toNatClampNeg)).toInt64)) + ((M.2 115 (((M.1 (b1 + 5) a2.toNatClampNeg) + (1 : Int32)).toNatClampNeg)) * ((M.1 (b1 + 6) (((M.1 (b1 + 5) a2.toNatClampNeg) + (1 : Int32)).toNatClampNeg)).toInt64))), .long ((M.1 (b1 + 6) a2.toNatClampNeg).toInt64)]) (rest := []) (c_JM_floorDiv hja h) kS_TG_161 rfl ⟨rfl, rfl⟩ ⟨Nat.le_of_ble_eq_true rfl, Nat.le_of_ble_eq_true rfl⟩ rfl (Nat.le_of_ble_eq_true rfl) ⟨Nat.zero_le _, Nat.zero_le _⟩ d_TG_tellBoth_71 (fun r4 M5 H locs h hI => ?_)
    exact gr_l C hI h d_TG_tellBoth_74
  · have h := h.2 c6
    refine lv_lconst (v := 0) hx hb d_TG_tellBoth_63 (by decide) ?_
    refine lv_goto (tgt := 74) hx hb d_TG_tellBoth_64 (by decide) ?_
    exact gr_l C hI h d_TG_tellBoth_74
set_option maxHeartbeats 4000000 in
set_option maxRecDepth 100000 in
theorem L_TG_tellTree_99 {p : Program} {l : Launch} {e : Env} {s : State} {m : MethodId} {args : Array Value} {below : List Frame} {meth : Method} {c : Code} {D : va_G} {cy : Nat → ClassId} {ad : Nat → Nat} (C : Cx p s m args meth c b_TG_tellTree 6 (some .long) "BoostForests$Training" D cy ad) {Q : Int64 → gM → Prop} {b1 : Nat} (hb1 : isTR b1) {x2 : Int32} {x4 : Int32} {k8 : Int32 → Int32 → gM → Prop} {M : gM} {H : Heap} {locs : List Loc} {ls : Array Slot} (K8 : ∀ (x2 : Int32) (x4 : Int32) (M : gM) (H : Heap) (locs : List Loc) (ls : Array Slot), k8 x2 x4 M → gI D cy ad s M H locs → lv_has ls 6 [(0, .ref (ad 47)), (1, .ref (ad b1)), (2, .int x2), (3, .ref (ad 272)), (4, .int x4)] → W p l e rm_TG_tellTree s m args below meth c H locs 0 0 (MQ below (va_Ql Q (gB D cy ad) (gA ad s.heap.size)) args s 0 0 (gA ad s.heap.size)) (F0 m 8 ls [])) (h : wp_TG_tellTree_99 Q b1 k8 x2 x4 M) (hI : gI D cy ad s M H locs) (hl : lv_has ls 6 [(0, .ref (ad 47)), (1, .ref (ad b1)), (2, .int x2), (3, .ref (ad 272)), (4, .int x4)]) : W p l e rm_TG_tellTree s m args below meth c H locs 0 0 (MQ below (va_Ql Q (gB D cy ad) (gA ad s.heap.size)) args s 0 0 (gA ad s.heap.size)) (F0 m 99 ls []) := by
  obtain ⟨hx, hb, hml, hown, hts, hr, hlk, hK, hja⟩ := id C
  refine lv_iinc (v := x4 + (-1)) (lv' := [(4, .int (x4 + (-1))), (0, .ref (ad 47)), (1, .ref (ad b1)), (2, .int x2), (3, .ref (ad 272))]) hx hb d_TG_tellTree_99 hl (k := 4) rfl rfl (by decide) rfl (fun ls hl => ?_)
  refine lv_goto (tgt := 8) hx hb d_TG_tellTree_102 (by decide) ?_
  exact K8 x2 (x4 + (-1)) M _ _ _ h hI (lv_sub hl [1, 2, 3, 4, 0] rfl)
set_option maxHeartbeats 4000000 in
set_option maxRecDepth 100000 in
theorem L_TG_tellTree_8 {p : Program} {l : Launch} {e : Env} {s : State} {m : MethodId} {args : Array Value} {below : List Frame} {meth : Method} {c : Code} {D : va_G} {cy : Nat → ClassId} {ad : Nat → Nat} (C : Cx p s m args meth c b_TG_tellTree 6 (some .long) "BoostForests$Training" D cy ad) {Q : Int64 → gM → Prop} {b1 : Nat} (hb1 : isTR b1) (n : Nat) : ∀ (x2 : Int32) (x4 : Int32) (M : gM) (H : Heap) (locs : List Loc) (ls : Array Slot), wp_TG_tellTree_8 Q b1 n x2 x4 M → gI D cy ad s M H locs → lv_has ls 6 [(0, .ref (ad 47)), (1, .ref (ad b1)), (2, .int x2), (3, .ref (ad 272)), (4, .int x4)] → W p l e rm_TG_tellTree s m args below meth c H locs 0 0 (MQ below (va_Ql Q (gB D cy ad) (gA ad s.heap.size)) args s 0 0 (gA ad s.heap.size)) (F0 m 8 ls []) := by
  obtain ⟨hx, hb, hml, hown, hts, hr, hlk, hK, hja⟩ := id C
  induction n with
  | zero => exact fun _ _ _ _ _ _ h _ _ => h.elim
  | succ n ih =>
    intro x2 x4 M H locs ls h hI hl
    have h := h
    refine lv_iload hx hb d_TG_tellTree_8 (lv_at hl 4 rfl) ?_
    refine lv_if_lt (tgt := 105) hx hb d_TG_tellTree_10 (by decide) (fun c11 => ?_) (fun c11 => ?_)
    · have h := h.1 c11
      refine lv_aload_n hx hb d_TG_tellTree_105 rfl (lv_at hl 0 rfl) ?_
      refine gw_get (v := .ref (ad 115)) C hI lay_47 i_TG rfl 7 (by decide) kw_1_206 rfl rfl d_TG_tellTree_106 ?_
      refine lv_iconst (v := (0 : Int32)) hx hb d_TG_tellTree_109 (by decide) ?_
      refine gw_lald C hI lay_115 (j := 0) (by decide) (v := M.2 115 0) rfl (vi_lit (0 : Int32) 31 (by decide)) d_TG_tellTree_110 ?_
      exact gr_l C hI h d_TG_tellTree_111
    · have h := h.2 c11
      refine lv_aload_n hx hb d_TG_tellTree_13 rfl (lv_at hl 1 rfl) ?_
      refine gw_get (v := .ref (ad (b1 + 1))) C hI hb1.1 i_TR rfl 0 (by decide) kw_1_180 rfl rfl d_TG_tellTree_14 ?_
      refine lv_iconst (v := (0 : Int32)) hx hb d_TG_tellTree_17 (by decide) ?_
      refine gw_aald C hI hb1.2.1 rfl rfl (j := 0) (by decide) (k' := b1 + 2) (by omega) (vi_lit (0 : Int32) 7 (by decide)) d_TG_tellTree_18 ?_
      refine lv_iload hx hb d_TG_tellTree_19 (lv_at hl 4 rfl) ?_
      obtain ⟨g1, h⟩ := h
      refine gw_iald C hI (hb1.2.2.1 0 (by decide)) (j := x4.toNatClampNeg) rfl (v := M.1 (b1 + 2) x4.toNatClampNeg) rfl g1 d_TG_tellTree_21 ?_
      refine lv_istore (lv' := [(5, .int (M.1 (b1 + 2) x4.toNatClampNeg)), (0, .ref (ad 47)), (1, .ref (ad b1)), (2, .int x2), (3, .ref (ad 272)), (4, .int x4)]) hx hb d_TG_tellTree_22 hl (by decide) rfl (fun ls hl => ?_)
      refine lv_iload hx hb d_TG_tellTree_24 (lv_at hl 0 rfl) ?_
      refine lv_iconst (v := (-1 : Int32)) hx hb d_TG_tellTree_26 (by decide) ?_
      refine lv_icmp_ne (tgt := 53) hx hb d_TG_tellTree_27 (by decide) (fun c10 => ?_) (fun c10 => ?_)
      · have h := h.1 c10
        refine lv_iload_n hx hb d_TG_tellTree_53 rfl (lv_at hl 3 rfl) ?_
        refine lv_iload hx hb d_TG_tellTree_54 (lv_at hl 0 rfl) ?_
        refine lv_ishr hx hb d_TG_tellTree_56 ?_
        refine lv_iconst (v := (1 : Int32)) hx hb d_TG_tellTree_57 (by decide) ?_
        refine lv_iand hx hb d_TG_tellTree_58 ?_
        refine lv_iconst (v := (1 : Int32)) hx hb d_TG_tellTree_59 (by decide) ?_
        refine lv_icmp_ne (tgt := 85) hx hb d_TG_tellTree_60 (by decide) (fun c7 => ?_) (fun c7 => ?_)
        · have h := h.1 c7
          refine lv_aload_n hx hb d_TG_tellTree_85 rfl (lv_at hl 1 rfl) ?_
          refine gw_get (v := .ref (ad 115)) C hI lay_47 i_TG rfl 7 (by decide) kw_1_206 rfl rfl d_TG_tellTree_86 ?_
          refine lv_iload hx hb d_TG_tellTree_89 (lv_at hl 5 rfl) ?_
          refine lv_aload_n hx hb d_TG_tellTree_91 rfl (lv_at hl 1 rfl) ?_
          refine lv_aload_n hx hb d_TG_tellTree_92 rfl (lv_at hl 2 rfl) ?_
          refine lv_iload hx hb d_TG_tellTree_93 (lv_at hl 5 rfl) ?_
          refine gw_Vl C hI hl.1 (As := [.ref (ad b1), .int x4]) (rest := [.int x4, .ref (ad 115)]) (c_TG_tellBoth hja hb1 h) kV_TG_157 lay_47 rfl rfl ⟨rfl, rfl⟩ ⟨Nat.le_of_ble_eq_true rfl, Nat.le_of_ble_eq_true rfl⟩ rfl (Nat.le_of_ble_eq_true rfl) ⟨Nat.zero_le _, Nat.zero_le _⟩ d_TG_tellTree_95 (fun r2 M3 H locs h hI => ?_)
          refine gw_last C hI lay_115 (j := x4.toNatClampNeg) rfl g1 d_TG_tellTree_98 (fun H locs hI => ?_)
          exact L_TG_tellTree_99 C hb1 ih h hI (lv_sub hl [1, 2, 3, 4, 5] rfl)
        · have h := h.2 c7
          refine lv_aload_n hx hb d_TG_tellTree_63 rfl (lv_at hl 1 rfl) ?_
          refine gw_get (v := .ref (ad 115)) C hI lay_47 i_TG rfl 7 (by decide) kw_1_206 rfl rfl d_TG_tellTree_64 ?_
          refine lv_iload hx hb d_TG_tellTree_67 (lv_at hl 5 rfl) ?_
          refine lv_aload_n hx hb d_TG_tellTree_69 rfl (lv_at hl 1 rfl) ?_
          refine gw_get (v := .ref (ad 115)) C hI lay_47 i_TG rfl 7 (by decide) kw_1_206 rfl rfl d_TG_tellTree_70 ?_
          refine lv_aload_n hx hb d_TG_tellTree_73 rfl (lv_at hl 2 rfl) ?_
          refine lv_iload hx hb d_TG_tellTree_74 (lv_at hl 5 rfl) ?_
          refine lv_aload_n hx hb d_TG_tellTree_76 rfl (lv_at hl 4 rfl) ?_
          refine gw_Vi C hI hl.1 (As := [.int x4, .ref (ad 272)]) (rest := [.ref (ad 115), .int x4, .ref (ad 115)]) (c_TR_stepFrom hja hb1 lay_272 h) kV_TG_153 hb1.1 rfl rfl ⟨rfl, rfl⟩ ⟨Nat.le_of_ble_eq_true rfl, Nat.le_of_ble_eq_true rfl⟩ rfl (Nat.le_of_ble_eq_true rfl) ⟨Nat.zero_le _, Nat.zero_le _⟩ d_TG_tellTree_77 (fun r4 M5 H locs h hI => ?_)
          obtain ⟨g6, h⟩ := h
          refine gw_lald C hI lay_115 (j := r4.toNatClampNeg) rfl (v := M5.2 115 r4.toNatClampNeg) rfl g6 d_TG_tellTree_80 ?_
          refine gw_last C hI lay_115 (j := x4.toNatClampNeg) rfl g1 d_TG_tellTree_81 (fun H locs hI => ?_)
          refine lv_goto (tgt := 99) hx hb d_TG_tellTree_82 (by decide) ?_
          exact L_TG_tellTree_99 C hb1 ih h hI (lv_sub hl [1, 2, 3, 4, 5] rfl)
      · have h := h.2 c10
        refine lv_aload_n hx hb d_TG_tellTree_30 rfl (lv_at hl 1 rfl) ?_
        refine gw_get (v := .ref (ad 115)) C hI lay_47 i_TG rfl 7 (by decide) kw_1_206 rfl rfl d_TG_tellTree_31 ?_
        refine lv_iload hx hb d_TG_tellTree_34 (lv_at hl 5 rfl) ?_
        refine lv_aload_n hx hb d_TG_tellTree_36 rfl (lv_at hl 1 rfl) ?_
        refine lv_aload_n hx hb d_TG_tellTree_37 rfl (lv_at hl 2 rfl) ?_
        refine gw_get (v := .ref (ad (b1 + 9))) C hI hb1.1 i_TR rfl 1 (by decide) kw_1_183 rfl rfl d_TG_tellTree_38 ?_
        refine lv_iconst (v := (1 : Int32)) hx hb d_TG_tellTree_41 (by decide) ?_
        refine gw_aald C hI hb1.2.2.2.1 rfl rfl (j := 1) (by decide) (k' := b1 + 11) (by omega) (vi_lit (1 : Int32) 3 (by decide)) d_TG_tellTree_42 ?_
        refine lv_iload hx hb d_TG_tellTree_43 (lv_at hl 5 rfl) ?_
        refine gw_lald C hI (hb1.2.2.2.2 1 (by decide)) (j := x4.toNatClampNeg) rfl (v := M.2 (b1 + 11) x4.toNatClampNeg) rfl g1 d_TG_tellTree_45 ?_
        refine gw_Vl C hI hl.1 (As := [.long (M.2 (b1 + 11) x4.toNatClampNeg)]) (rest := [.int x4, .ref (ad 115)]) (c_TG_shrunk hja h) kV_TG_149 lay_47 rfl rfl ⟨rfl, rfl⟩ ⟨Nat.le_of_ble_eq_true rfl, Nat.le_of_ble_eq_true rfl⟩ rfl (Nat.le_of_ble_eq_true rfl) ⟨Nat.zero_le _, Nat.zero_le _⟩ d_TG_tellTree_46 (fun r8 M9 H locs h hI => ?_)
        refine gw_last C hI lay_115 (j := x4.toNatClampNeg) rfl g1 d_TG_tellTree_49 (fun H locs hI => ?_)
        refine lv_goto (tgt := 99) hx hb d_TG_tellTree_50 (by decide) ?_
        exact L_TG_tellTree_99 C hb1 ih h hI (lv_sub hl [1, 2, 3, 4, 5] rfl)
set_option maxHeartbeats 4000000 in
set_option maxRecDepth 100000 in
theorem c_TG_tellTree {l : Launch} {D : va_G} {cy : Nat → ClassId} {ad : Nat → Nat} (hj : gJ ad) {b1 : Nat} (hb1 : isTR b1) {a2 : Int32} {M : gM} {Q : Int64 → gM → Prop} (h : wp_TG_tellTree Q b1 a2 M) : Cl l y_TG_tellTree b_TG_tellTree 6 (some .long) rm_TG_tellTree D cy ad [.ref (ad 47), .ref (ad b1), .int a2, .ref (ad 272)] M Q := by
  refine gm (by decide +kernel) hj (Nat.le_of_ble_eq_true rfl) (fun p e s m args below meth c ls C hl hI => ?_)
  have hl : lv_has ls 6 [(0, .ref (ad 47)), (1, .ref (ad b1)), (2, .int a2), (3, .ref (ad 272))] := hl
  obtain ⟨hx, hb, hml, hown, hts, hr, hlk, hK, hja⟩ := id C
  refine lv_aload_n hx hb d_TG_tellTree_0 rfl (lv_at hl 1 rfl) ?_
  refine gw_get (v := .int (M.1 b1 2)) C hI hb1.1 i_TR rfl 2 (by decide) kw_1_187 rfl rfl d_TG_tellTree_1 ?_
  refine lv_iconst (v := (1 : Int32)) hx hb d_TG_tellTree_4 (by decide) ?_
  refine lv_isub hx hb d_TG_tellTree_5 ?_
  refine lv_istore (lv' := [(4, .int ((M.1 b1 2) - (1 : Int32))), (0, .ref (ad 47)), (1, .ref (ad b1)), (2, .int a2), (3, .ref (ad 272))]) hx hb d_TG_tellTree_6 hl (by decide) rfl (fun ls hl => ?_)
  obtain ⟨n12, h⟩ := h
  exact L_TG_tellTree_8 C hb1 n12 a2 ((M.1 b1 2) - (1 : Int32)) M _ _ _ h hI (lv_sub hl [1, 2, 3, 4, 0] rfl)
set_option maxHeartbeats 4000000 in
set_option maxRecDepth 100000 in
theorem L_TG_tellAll_8 {p : Program} {l : Launch} {e : Env} {s : State} {m : MethodId} {args : Array Value} {below : List Frame} {meth : Method} {c : Code} {D : va_G} {cy : Nat → ClassId} {ad : Nat → Nat} (C : Cx p s m args meth c b_TG_tellAll 6 (some .long) "BoostForests$Training" D cy ad) {Q : Int64 → gM → Prop} (n : Nat) : ∀ (x1 : Int32) (x3 : Int64) (x5 : Int32) (M : gM) (H : Heap) (locs : List Loc) (ls : Array Slot), wp_TG_tellAll_8 Q n x1 x3 x5 M → gI D cy ad s M H locs → lv_has ls 6 [(0, .ref (ad 47)), (1, .int x1), (2, .ref (ad 272)), (3, .long x3), (5, .int x5)] → W p l e rm_TG_tellAll s m args below meth c H locs 0 0 (MQ below (va_Ql Q (gB D cy ad) (gA ad s.heap.size)) args s 0 0 (gA ad s.heap.size)) (F0 m 8 ls []) := by
  obtain ⟨hx, hb, hml, hown, hts, hr, hlk, hK, hja⟩ := id C
  induction n with
  | zero => exact fun _ _ _ _ _ _ _ h _ _ => h.elim
  | succ n ih =>
    intro x1 x3 x5 M H locs ls h hI hl
    have h := h
    refine lv_iload hx hb d_TG_tellAll_8 (lv_at hl 4 rfl) ?_
    refine lv_aload_n hx hb d_TG_tellAll_10 rfl (lv_at hl 0 rfl) ?_
    refine gw_get (v := .int (M.1 47 9)) C hI lay_47 i_TG rfl 9 (by decide) kw_1_209 rfl rfl d_TG_tellAll_11 ?_
    refine lv_icmp_ge (tgt := 39) hx hb d_TG_tellAll_14 (by decide) (fun c4 => ?_) (fun c4 => ?_)
    · have h := h.1 c4
      refine lv_lload_n hx hb d_TG_tellAll_39 rfl (lv_at hl 3 rfl) ?_
      exact gr_l C hI h d_TG_tellAll_40
    · have h := h.2 c4
      refine lv_lload_n hx hb d_TG_tellAll_17 rfl (lv_at hl 3 rfl) ?_
      refine lv_aload_n hx hb d_TG_tellAll_18 rfl (lv_at hl 0 rfl) ?_
      refine lv_aload_n hx hb d_TG_tellAll_19 rfl (lv_at hl 0 rfl) ?_
      refine gw_get (v := .ref (ad 109)) C hI lay_47 i_TG rfl 3 (by decide) kw_1_199 rfl rfl d_TG_tellAll_20 ?_
      refine lv_iload hx hb d_TG_tellAll_23 (lv_at hl 4 rfl) ?_
      obtain ⟨g1, h⟩ := h
      refine gw_aald C hI lay_109 rfl rfl (j := x5.toNatClampNeg) rfl (k' := (116 + 13 * x5.toNatClampNeg)) (by omega) g1 d_TG_tellAll_25 ?_
      refine lv_iload_n hx hb d_TG_tellAll_26 rfl (lv_at hl 1 rfl) ?_
      refine lv_aload_n hx hb d_TG_tellAll_27 rfl (lv_at hl 2 rfl) ?_
      refine gw_Vl C hI hl.1 (As := [.ref (ad (116 + 13 * x5.toNatClampNeg)), .int x1, .ref (ad 272)]) (rest := [.long x3]) (c_TG_tellTree hja (isTR_at _ (vi_lt g1)) h) kV_TG_135 lay_47 rfl rfl ⟨rfl, rfl⟩ ⟨Nat.le_of_ble_eq_true rfl, Nat.le_of_ble_eq_true rfl⟩ rfl (Nat.le_of_ble_eq_true rfl) ⟨Nat.zero_le _, Nat.zero_le _⟩ d_TG_tellAll_28 (fun r2 M3 H locs h hI => ?_)
      refine lv_ladd hx hb d_TG_tellAll_31 ?_
      refine lv_lstore_n (lv' := [(3, .long (x3 + r2)), (0, .ref (ad 47)), (1, .int x1), (2, .ref (ad 272)), (5, .int x5)]) hx hb d_TG_tellAll_32 rfl hl (by decide) rfl (fun ls hl => ?_)
      refine lv_iinc (v := x5 + 1) (lv' := [(5, .int (x5 + 1)), (3, .long (x3 + r2)), (0, .ref (ad 47)), (1, .int x1), (2, .ref (ad 272))]) hx hb d_TG_tellAll_33 hl (k := 4) rfl rfl (by decide) rfl (fun ls hl => ?_)
      refine lv_goto (tgt := 8) hx hb d_TG_tellAll_36 (by decide) ?_
      exact ih x1 (x3 + r2) (x5 + 1) M3 _ _ _ h hI (lv_sub hl [2, 3, 4, 1, 0] rfl)
set_option maxHeartbeats 4000000 in
set_option maxRecDepth 100000 in
theorem c_TG_tellAll {l : Launch} {D : va_G} {cy : Nat → ClassId} {ad : Nat → Nat} (hj : gJ ad) {a1 : Int32} {M : gM} {Q : Int64 → gM → Prop} (h : wp_TG_tellAll Q a1 M) : Cl l y_TG_tellAll b_TG_tellAll 6 (some .long) rm_TG_tellAll D cy ad [.ref (ad 47), .int a1, .ref (ad 272)] M Q := by
  refine gm (by decide +kernel) hj (Nat.le_of_ble_eq_true rfl) (fun p e s m args below meth c ls C hl hI => ?_)
  have hl : lv_has ls 6 [(0, .ref (ad 47)), (1, .int a1), (2, .ref (ad 272))] := hl
  obtain ⟨hx, hb, hml, hown, hts, hr, hlk, hK, hja⟩ := id C
  refine lv_aload_n hx hb d_TG_tellAll_0 rfl (lv_at hl 0 rfl) ?_
  refine gw_Vl C hI hl.1 (As := []) (rest := []) (c_TG_baseUnits hja h) kV_TG_94 lay_47 rfl rfl ⟨rfl, rfl⟩ ⟨Nat.le_of_ble_eq_true rfl, Nat.le_of_ble_eq_true rfl⟩ rfl (Nat.le_of_ble_eq_true rfl) ⟨Nat.zero_le _, Nat.zero_le _⟩ d_TG_tellAll_1 (fun r5 M6 H locs h hI => ?_)
  refine lv_lstore_n (lv' := [(3, .long r5), (0, .ref (ad 47)), (1, .int a1), (2, .ref (ad 272))]) hx hb d_TG_tellAll_4 rfl hl (by decide) rfl (fun ls hl => ?_)
  refine lv_iconst (v := (0 : Int32)) hx hb d_TG_tellAll_5 (by decide) ?_
  refine lv_istore (lv' := [(5, .int (0 : Int32)), (3, .long r5), (0, .ref (ad 47)), (1, .int a1), (2, .ref (ad 272))]) hx hb d_TG_tellAll_6 hl (by decide) rfl (fun ls hl => ?_)
  obtain ⟨n7, h⟩ := h
  exact L_TG_tellAll_8 C n7 a1 r5 (0 : Int32) M6 _ _ _ h hI (lv_sub hl [2, 3, 4, 1, 0] rfl)
set_option maxHeartbeats 4000000 in
set_option maxRecDepth 100000 in
theorem L_TG_fairShare_76 {p : Program} {l : Launch} {e : Env} {s : State} {m : MethodId} {args : Array Value} {below : List Frame} {meth : Method} {c : Code} {D : va_G} {cy : Nat → ClassId} {ad : Nat → Nat} (C : Cx p s m args meth c b_TG_fairShare 9 (some .long) "BoostForests$Training" D cy ad) {Q : Int64 → gM → Prop} {x3 : Int32} {x4 : Int64} {x6 : Int32} {k10 : Int32 → Int64 → Int32 → gM → Prop} {M : gM} {H : Heap} {locs : List Loc} {ls : Array Slot} (K10 : ∀ (x3 : Int32) (x4 : Int64) (x6 : Int32) (M : gM) (H : Heap) (locs : List Loc) (ls : Array Slot), k10 x3 x4 x6 M → gI D cy ad s M H locs → lv_has ls 9 [(0, .ref (ad 47)), (2, .ref (ad 272)), (3, .int x3), (4, .long x4), (6, .int x6)] → W p l e rm_TG_fairShare s m args below meth c H locs 0 0 (MQ below (va_Ql Q (gB D cy ad) (gA ad s.heap.size)) args s 0 0 (gA ad s.heap.size)) (F0 m 10 ls [])) (h : wp_TG_fairShare_76 Q k10 x3 x4 x6 M) (hI : gI D cy ad s M H locs) (hl : lv_has ls 9 [(0, .ref (ad 47)), (2, .ref (ad 272)), (3, .int x3), (4, .long x4), (6, .int x6)]) : W p l e rm_TG_fairShare s m args below meth c H locs 0 0 (MQ below (va_Ql Q (gB D cy ad) (gA ad s.heap.size)) args s 0 0 (gA ad s.heap.size)) (F0 m 76 ls []) := by
  obtain ⟨hx, hb, hml, hown, hts, hr, hlk, hK, hja⟩ := id C
  refine lv_iinc (v := x6 + 1) (lv' := [(6, .int (x6 + 1)), (0, .ref (ad 47)), (2, .ref (ad 272)), (3, .int x3), (4, .long x4)]) hx hb d_TG_fairShare_76 hl (k := 4) rfl rfl (by decide) rfl (fun ls hl => ?_)
  refine lv_goto (tgt := 10) hx hb d_TG_fairShare_79 (by decide) ?_
  exact K10 x3 x4 (x6 + 1) M _ _ _ h hI (lv_sub hl [1, 2, 3, 4, 0] rfl)
set_option maxHeartbeats 4000000 in
set_option maxRecDepth 100000 in
theorem L_TG_fairShare_48 {p : Program} {l : Launch} {e : Env} {s : State} {m : MethodId} {args : Array Value} {below : List Frame} {meth : Method} {c : Code} {D : va_G} {cy : Nat → ClassId} {ad : Nat → Nat} (C : Cx p s m args meth c b_TG_fairShare 9 (some .long) "BoostForests$Training" D cy ad) {Q : Int64 → gM → Prop} {x3 : Int32} {x4 : Int64} {x6 : Int32} {s0 : Int32} {k10 : Int32 → Int64 → Int32 → gM → Prop} {M : gM} {H : Heap} {locs : List Loc} {ls : Array Slot} (K10 : ∀ (x3 : Int32) (x4 : Int64) (x6 : Int32) (M : gM) (H : Heap) (locs : List Loc) (ls : Array Slot), k10 x3 x4 x6 M → gI D cy ad s M H locs → lv_has ls 9 [(0, .ref (ad 47)), (2, .ref (ad 272)), (3, .int x3), (4, .long x4), (6, .int x6)] → W p l e rm_TG_fairShare s m args below meth c H locs 0 0 (MQ below (va_Ql Q (gB D cy ad) (gA ad s.heap.size)) args s 0 0 (gA ad s.heap.size)) (F0 m 10 ls [])) (h : wp_TG_fairShare_48 Q k10 x3 x4 x6 s0 M) (hI : gI D cy ad s M H locs) (hl : lv_has ls 9 [(0, .ref (ad 47)), (2, .ref (ad 272)), (3, .int x3), (4, .long x4), (6, .int x6)]) : W p l e rm_TG_fairShare s m args below meth c H locs 0 0 (MQ below (va_Ql Q (gB D cy ad) (gA ad s.heap.size)) args s 0 0 (gA ad s.heap.size)) (F0 m 48 ls [.int s0]) := by
  obtain ⟨hx, hb, hml, hown, hts, hr, hlk, hK, hja⟩ := id C
  refine lv_istore (lv' := [(8, .int s0), (0, .ref (ad 47)), (2, .ref (ad 272)), (3, .int x3), (4, .long x4), (6, .int x6)]) hx hb d_TG_fairShare_48 hl (by decide) rfl (fun ls hl => ?_)
  refine lv_lload hx hb d_TG_fairShare_50 (lv_at hl 4 rfl) ?_
  refine lv_iload hx hb d_TG_fairShare_52 (lv_at hl 0 rfl) ?_
  refine lv_i2l hx hb d_TG_fairShare_54 rfl ?_
  refine lv_aload_n hx hb d_TG_fairShare_55 rfl (lv_at hl 1 rfl) ?_
  refine lv_iload hx hb d_TG_fairShare_56 (lv_at hl 5 rfl) ?_
  refine lv_iload_n hx hb d_TG_fairShare_58 rfl (lv_at hl 3 rfl) ?_
  refine lv_ior hx hb d_TG_fairShare_59 ?_
  refine lv_aload_n hx hb d_TG_fairShare_60 rfl (lv_at hl 2 rfl) ?_
  refine gw_Vl C hI hl.1 (As := [.int (x6 ||| x3), .ref (ad 272)]) (rest := [.long s0.toInt64, .long x4]) (c_TG_tellAll hja h) kV_TG_145 lay_47 rfl rfl ⟨rfl, rfl⟩ ⟨Nat.le_of_ble_eq_true rfl, Nat.le_of_ble_eq_true rfl⟩ rfl (Nat.le_of_ble_eq_true rfl) ⟨Nat.zero_le _, Nat.zero_le _⟩ d_TG_fairShare_61 (fun r1 M2 H locs h hI => ?_)
  refine lv_aload_n hx hb d_TG_fairShare_64 rfl (lv_at hl 1 rfl) ?_
  refine lv_iload hx hb d_TG_fairShare_65 (lv_at hl 5 rfl) ?_
  refine lv_aload_n hx hb d_TG_fairShare_67 rfl (lv_at hl 2 rfl) ?_
  refine gw_Vl C hI hl.1 (As := [.int x6, .ref (ad 272)]) (rest := [.long r1, .long s0.toInt64, .long x4]) (c_TG_tellAll hja h) kV_TG_145 lay_47 rfl rfl ⟨rfl, rfl⟩ ⟨Nat.le_of_ble_eq_true rfl, Nat.le_of_ble_eq_true rfl⟩ rfl (Nat.le_of_ble_eq_true rfl) ⟨Nat.zero_le _, Nat.zero_le _⟩ d_TG_fairShare_68 (fun r3 M4 H locs h hI => ?_)
  refine lv_lsub hx hb d_TG_fairShare_71 ?_
  refine lv_lmul hx hb d_TG_fairShare_72 ?_
  refine lv_ladd hx hb d_TG_fairShare_73 ?_
  refine lv_lstore (lv' := [(4, .long (x4 + (s0.toInt64 * (r1 - r3)))), (8, .int s0), (0, .ref (ad 47)), (2, .ref (ad 272)), (3, .int x3), (6, .int x6)]) hx hb d_TG_fairShare_74 hl (by decide) rfl (fun ls hl => ?_)
  exact L_TG_fairShare_76 C K10 h hI (lv_sub hl [2, 3, 4, 0, 5] rfl)
set_option maxHeartbeats 4000000 in
set_option maxRecDepth 100000 in
theorem L_TG_fairShare_42 {p : Program} {l : Launch} {e : Env} {s : State} {m : MethodId} {args : Array Value} {below : List Frame} {meth : Method} {c : Code} {D : va_G} {cy : Nat → ClassId} {ad : Nat → Nat} (C : Cx p s m args meth c b_TG_fairShare 9 (some .long) "BoostForests$Training" D cy ad) {Q : Int64 → gM → Prop} {x3 : Int32} {x4 : Int64} {x6 : Int32} {k10 : Int32 → Int64 → Int32 → gM → Prop} {M : gM} {H : Heap} {locs : List Loc} {ls : Array Slot} (K10 : ∀ (x3 : Int32) (x4 : Int64) (x6 : Int32) (M : gM) (H : Heap) (locs : List Loc) (ls : Array Slot), k10 x3 x4 x6 M → gI D cy ad s M H locs → lv_has ls 9 [(0, .ref (ad 47)), (2, .ref (ad 272)), (3, .int x3), (4, .long x4), (6, .int x6)] → W p l e rm_TG_fairShare s m args below meth c H locs 0 0 (MQ below (va_Ql Q (gB D cy ad) (gA ad s.heap.size)) args s 0 0 (gA ad s.heap.size)) (F0 m 10 ls [])) (h : wp_TG_fairShare_42 Q k10 x3 x4 x6 M) (hI : gI D cy ad s M H locs) (hl : lv_has ls 9 [(0, .ref (ad 47)), (2, .ref (ad 272)), (3, .int x3), (4, .long x4), (6, .int x6)]) : W p l e rm_TG_fairShare s m args below meth c H locs 0 0 (MQ below (va_Ql Q (gB D cy ad) (gA ad s.heap.size)) args s 0 0 (gA ad s.heap.size)) (F0 m 42 ls []) := by
  obtain ⟨hx, hb, hml, hown, hts, hr, hlk, hK, hja⟩ := id C
  refine lv_bipush (v := (6 : Int32)) hx hb d_TG_fairShare_42 (by decide) ?_
  refine lv_goto (tgt := 48) hx hb d_TG_fairShare_44 (by decide) ?_
  exact L_TG_fairShare_48 C K10 h hI (lv_sub hl [0, 1, 2, 3, 4] rfl)
set_option maxHeartbeats 4000000 in
set_option maxRecDepth 100000 in
theorem L_TG_fairShare_10 {p : Program} {l : Launch} {e : Env} {s : State} {m : MethodId} {args : Array Value} {below : List Frame} {meth : Method} {c : Code} {D : va_G} {cy : Nat → ClassId} {ad : Nat → Nat} (C : Cx p s m args meth c b_TG_fairShare 9 (some .long) "BoostForests$Training" D cy ad) {Q : Int64 → gM → Prop} (n : Nat) : ∀ (x3 : Int32) (x4 : Int64) (x6 : Int32) (M : gM) (H : Heap) (locs : List Loc) (ls : Array Slot), wp_TG_fairShare_10 Q n x3 x4 x6 M → gI D cy ad s M H locs → lv_has ls 9 [(0, .ref (ad 47)), (2, .ref (ad 272)), (3, .int x3), (4, .long x4), (6, .int x6)] → W p l e rm_TG_fairShare s m args below meth c H locs 0 0 (MQ below (va_Ql Q (gB D cy ad) (gA ad s.heap.size)) args s 0 0 (gA ad s.heap.size)) (F0 m 10 ls []) := by
  obtain ⟨hx, hb, hml, hown, hts, hr, hlk, hK, hja⟩ := id C
  induction n with
  | zero => exact fun _ _ _ _ _ _ _ h _ _ => h.elim
  | succ n ih =>
    intro x3 x4 x6 M H locs ls h hI hl
    have h := h
    refine lv_iload hx hb d_TG_fairShare_10 (lv_at hl 4 rfl) ?_
    refine lv_bipush (v := (16 : Int32)) hx hb d_TG_fairShare_12 (by decide) ?_
    refine lv_icmp_ge (tgt := 82) hx hb d_TG_fairShare_14 (by decide) (fun c10 => ?_) (fun c10 => ?_)
    · have h := h.1 c10
      refine lv_lload hx hb d_TG_fairShare_82 (lv_at hl 3 rfl) ?_
      exact gr_l C hI h d_TG_fairShare_84
    · have h := h.2 c10
      refine lv_iload hx hb d_TG_fairShare_17 (lv_at hl 4 rfl) ?_
      refine lv_iload_n hx hb d_TG_fairShare_19 rfl (lv_at hl 2 rfl) ?_
      refine lv_iand hx hb d_TG_fairShare_20 ?_
      refine lv_if_ne (tgt := 76) hx hb d_TG_fairShare_21 (by decide) (fun c9 => ?_) (fun c9 => ?_)
      · have h := h.1 c9
        exact L_TG_fairShare_76 C ih h hI (lv_sub hl [0, 1, 2, 3, 4] rfl)
      · have h := h.2 c9
        refine lv_iload hx hb d_TG_fairShare_24 (lv_at hl 4 rfl) ?_
        refine gw_Si C hI hl.1 (As := [.int x6]) (rest := []) (c_JI_bitCount hja h) kS_TG_139 rfl ⟨rfl, rfl⟩ ⟨Nat.le_of_ble_eq_true rfl, Nat.le_of_ble_eq_true rfl⟩ rfl (Nat.le_of_ble_eq_true rfl) ⟨Nat.zero_le _, Nat.zero_le _⟩ d_TG_fairShare_26 (fun r5 M6 H locs h hI => ?_)
        refine lv_istore (lv' := [(7, .int r5), (0, .ref (ad 47)), (2, .ref (ad 272)), (3, .int x3), (4, .long x4), (6, .int x6)]) hx hb d_TG_fairShare_29 hl (by decide) rfl (fun ls hl => ?_)
        refine lv_iload hx hb d_TG_fairShare_31 (lv_at hl 0 rfl) ?_
        refine lv_if_eq (tgt := 42) hx hb d_TG_fairShare_33 (by decide) (fun c8 => ?_) (fun c8 => ?_)
        · have h := h.1 c8
          exact L_TG_fairShare_42 C ih h hI (lv_sub hl [1, 2, 3, 4, 5] rfl)
        · have h := h.2 c8
          refine lv_iload hx hb d_TG_fairShare_36 (lv_at hl 0 rfl) ?_
          refine lv_iconst (v := (3 : Int32)) hx hb d_TG_fairShare_38 (by decide) ?_
          refine lv_icmp_ne (tgt := 47) hx hb d_TG_fairShare_39 (by decide) (fun c7 => ?_) (fun c7 => ?_)
          · have h := h.1 c7
            refine lv_iconst (v := (2 : Int32)) hx hb d_TG_fairShare_47 (by decide) ?_
            exact L_TG_fairShare_48 C ih h hI (lv_sub hl [1, 2, 3, 4, 5] rfl)
          · have h := h.2 c7
            exact L_TG_fairShare_42 C ih h hI (lv_sub hl [1, 2, 3, 4, 5] rfl)
set_option maxHeartbeats 4000000 in
set_option maxRecDepth 100000 in
theorem c_TG_fairShare {l : Launch} {D : va_G} {cy : Nat → ClassId} {ad : Nat → Nat} (hj : gJ ad) {a1 : Int32} {M : gM} {Q : Int64 → gM → Prop} (h : wp_TG_fairShare Q a1 M) : Cl l y_TG_fairShare b_TG_fairShare 9 (some .long) rm_TG_fairShare D cy ad [.ref (ad 47), .int a1, .ref (ad 272)] M Q := by
  refine gm (by decide +kernel) hj (Nat.le_of_ble_eq_true rfl) (fun p e s m args below meth c ls C hl hI => ?_)
  have hl : lv_has ls 9 [(0, .ref (ad 47)), (1, .int a1), (2, .ref (ad 272))] := hl
  obtain ⟨hx, hb, hml, hown, hts, hr, hlk, hK, hja⟩ := id C
  refine lv_iconst (v := (1 : Int32)) hx hb d_TG_fairShare_0 (by decide) ?_
  refine lv_iload_n hx hb d_TG_fairShare_1 rfl (lv_at hl 1 rfl) ?_
  refine lv_ishl hx hb d_TG_fairShare_2 ?_
  refine lv_istore_n (lv' := [(3, .int ((1 : Int32) <<< (a1 &&& 31))), (0, .ref (ad 47)), (1, .int a1), (2, .ref (ad 272))]) hx hb d_TG_fairShare_3 rfl hl (by decide) rfl (fun ls hl => ?_)
  refine lv_lconst (v := 0) hx hb d_TG_fairShare_4 (by decide) ?_
  refine lv_lstore (lv' := [(4, .long (0 : Int64)), (3, .int ((1 : Int32) <<< (a1 &&& 31))), (0, .ref (ad 47)), (1, .int a1), (2, .ref (ad 272))]) hx hb d_TG_fairShare_5 hl (by decide) rfl (fun ls hl => ?_)
  refine lv_iconst (v := (0 : Int32)) hx hb d_TG_fairShare_7 (by decide) ?_
  refine lv_istore (lv' := [(6, .int (0 : Int32)), (4, .long (0 : Int64)), (3, .int ((1 : Int32) <<< (a1 &&& 31))), (0, .ref (ad 47)), (1, .int a1), (2, .ref (ad 272))]) hx hb d_TG_fairShare_8 hl (by decide) rfl (fun ls hl => ?_)
  obtain ⟨n11, h⟩ := h
  exact L_TG_fairShare_10 C n11 ((1 : Int32) <<< (a1 &&& 31)) (0 : Int64) (0 : Int32) M _ _ _ h hI (lv_sub hl [3, 5, 2, 1, 0] rfl)

set_option maxHeartbeats 4000000 in
set_option maxRecDepth 100000 in
theorem L_GR_sortRows_84 {p : Program} {l : Launch} {e : Env} {s : State} {m : MethodId} {args : Array Value} {below : List Frame} {meth : Method} {c : Code} {D : va_G} {cy : Nat → ClassId} {ad : Nat → Nat} (C : Cx p s m args meth c b_GR_sortRows 4 none "BoostForests$Grower" D cy ad) {Q : gM → Prop} {x1 : Int32} {x2 : Int32} {x3 : Int32} {k2 : Int32 → gM → Prop} {k9 : Int32 → Int32 → gM → Prop} {M : gM} {H : Heap} {locs : List Loc} {ls : Array Slot} (K2 : ∀ (x1 : Int32) (M : gM) (H : Heap) (locs : List Loc) (ls : Array Slot), k2 x1 M → gI D cy ad s M H locs → lv_has ls 4 [(0, .ref (ad 48)), (1, .int x1)] → W p l e rm_GR_sortRows s m args below meth c H locs 0 0 (MQ below (va_Qv Q (gB D cy ad) (gA ad s.heap.size)) args s 0 0 (gA ad s.heap.size)) (F0 m 2 ls [])) (K9 : ∀ (x1 : Int32) (x2 : Int32) (M : gM) (H : Heap) (locs : List Loc) (ls : Array Slot), k9 x1 x2 M → gI D cy ad s M H locs → lv_has ls 4 [(0, .ref (ad 48)), (1, .int x1), (2, .int x2)] → W p l e rm_GR_sortRows s m args below meth c H locs 0 0 (MQ below (va_Qv Q (gB D cy ad) (gA ad s.heap.size)) args s 0 0 (gA ad s.heap.size)) (F0 m 9 ls [])) (h : wp_GR_sortRows_84 Q k2 k9 x1 x2 x3 M) (hI : gI D cy ad s M H locs) (hl : lv_has ls 4 [(0, .ref (ad 48)), (1, .int x1), (2, .int x2), (3, .int x3)]) : W p l e rm_GR_sortRows s m args below meth c H locs 0 0 (MQ below (va_Qv Q (gB D cy ad) (gA ad s.heap.size)) args s 0 0 (gA ad s.heap.size)) (F0 m 84 ls []) := by
  obtain ⟨hx, hb, hml, hown, hts, hr, hlk, hK, hja⟩ := id C
  refine lv_aload_n hx hb d_GR_sortRows_84 rfl (lv_at hl 0 rfl) ?_
  refine gw_get (v := .ref (ad 95)) C hI lay_48 i_GR rfl 2 (by decide) kw_1_132 rfl rfl d_GR_sortRows_85 ?_
  refine lv_iload_n hx hb d_GR_sortRows_88 rfl (lv_at hl 1 rfl) ?_
  obtain ⟨g1, h⟩ := h
  refine gw_aald C hI lay_95 rfl rfl (j := x1.toNatClampNeg) rfl (k' := 96 + x1.toNatClampNeg) (by omega) g1 d_GR_sortRows_89 ?_
  refine lv_iload_n hx hb d_GR_sortRows_90 rfl (lv_at hl 3 rfl) ?_
  refine lv_iload_n hx hb d_GR_sortRows_91 rfl (lv_at hl 2 rfl) ?_
  obtain ⟨g2, h⟩ := h
  refine gw_iast C hI (lay_order _ (vi_lt g1)) (j := x3.toNatClampNeg) rfl g2 d_GR_sortRows_92 (fun H locs hI => ?_)
  refine lv_iinc (v := x2 + 1) (lv' := [(2, .int (x2 + 1)), (0, .ref (ad 48)), (1, .int x1), (3, .int x3)]) hx hb d_GR_sortRows_93 hl (k := 2) rfl rfl (by decide) rfl (fun ls hl => ?_)
  refine lv_goto (tgt := 9) hx hb d_GR_sortRows_96 (by decide) ?_
  exact K9 x1 (x2 + 1) (wi M (96 + x1.toNatClampNeg) x3.toNatClampNeg x2) _ _ _ h hI (lv_sub hl [1, 2, 0] rfl)
set_option maxHeartbeats 4000000 in
set_option maxRecDepth 100000 in
theorem L_GR_sortRows_22 {p : Program} {l : Launch} {e : Env} {s : State} {m : MethodId} {args : Array Value} {below : List Frame} {meth : Method} {c : Code} {D : va_G} {cy : Nat → ClassId} {ad : Nat → Nat} (C : Cx p s m args meth c b_GR_sortRows 4 none "BoostForests$Grower" D cy ad) {Q : gM → Prop} {k2 : Int32 → gM → Prop} {k9 : Int32 → Int32 → gM → Prop} (K2 : ∀ (x1 : Int32) (M : gM) (H : Heap) (locs : List Loc) (ls : Array Slot), k2 x1 M → gI D cy ad s M H locs → lv_has ls 4 [(0, .ref (ad 48)), (1, .int x1)] → W p l e rm_GR_sortRows s m args below meth c H locs 0 0 (MQ below (va_Qv Q (gB D cy ad) (gA ad s.heap.size)) args s 0 0 (gA ad s.heap.size)) (F0 m 2 ls [])) (K9 : ∀ (x1 : Int32) (x2 : Int32) (M : gM) (H : Heap) (locs : List Loc) (ls : Array Slot), k9 x1 x2 M → gI D cy ad s M H locs → lv_has ls 4 [(0, .ref (ad 48)), (1, .int x1), (2, .int x2)] → W p l e rm_GR_sortRows s m args below meth c H locs 0 0 (MQ below (va_Qv Q (gB D cy ad) (gA ad s.heap.size)) args s 0 0 (gA ad s.heap.size)) (F0 m 9 ls [])) (n : Nat) : ∀ (x1 : Int32) (x2 : Int32) (x3 : Int32) (M : gM) (H : Heap) (locs : List Loc) (ls : Array Slot), wp_GR_sortRows_22 Q k2 k9 n x1 x2 x3 M → gI D cy ad s M H locs → lv_has ls 4 [(0, .ref (ad 48)), (1, .int x1), (2, .int x2), (3, .int x3)] → W p l e rm_GR_sortRows s m args below meth c H locs 0 0 (MQ below (va_Qv Q (gB D cy ad) (gA ad s.heap.size)) args s 0 0 (gA ad s.heap.size)) (F0 m 22 ls []) := by
  obtain ⟨hx, hb, hml, hown, hts, hr, hlk, hK, hja⟩ := id C
  induction n with
  | zero => exact fun _ _ _ _ _ _ _ h _ _ => h.elim
  | succ n ih =>
    intro x1 x2 x3 M H locs ls h hI hl
    have h := h
    refine lv_iload_n hx hb d_GR_sortRows_22 rfl (lv_at hl 3 rfl) ?_
    refine lv_if_le (tgt := 84) hx hb d_GR_sortRows_23 (by decide) (fun c9 => ?_) (fun c9 => ?_)
    · have h := h.1 c9
      exact L_GR_sortRows_84 C K2 K9 h hI (lv_sub hl [0, 1, 2, 3] rfl)
    · have h := h.2 c9
      refine lv_aload_n hx hb d_GR_sortRows_26 rfl (lv_at hl 0 rfl) ?_
      refine gw_get (v := .ref (ad 49)) C hI lay_48 i_GR rfl 0 (by decide) kw_1_128 rfl rfl d_GR_sortRows_27 ?_
      refine gw_get (v := .ref (ad 50)) C hI isTB_49.1 i_TB rfl 0 (by decide) kw_1_29 rfl rfl d_GR_sortRows_30 ?_
      refine lv_aload_n hx hb d_GR_sortRows_33 rfl (lv_at hl 0 rfl) ?_
      refine gw_get (v := .ref (ad 95)) C hI lay_48 i_GR rfl 2 (by decide) kw_1_132 rfl rfl d_GR_sortRows_34 ?_
      refine lv_iload_n hx hb d_GR_sortRows_37 rfl (lv_at hl 1 rfl) ?_
      obtain ⟨g3, h⟩ := h
      refine gw_aald C hI lay_95 rfl rfl (j := x1.toNatClampNeg) rfl (k' := 96 + x1.toNatClampNeg) (by omega) g3 d_GR_sortRows_38 ?_
      refine lv_iload_n hx hb d_GR_sortRows_39 rfl (lv_at hl 3 rfl) ?_
      refine lv_iconst (v := (1 : Int32)) hx hb d_GR_sortRows_40 (by decide) ?_
      refine lv_isub hx hb d_GR_sortRows_41 ?_
      obtain ⟨g4, h⟩ := h
      refine gw_iald C hI (lay_order _ (vi_lt g3)) (j := (x3 - (1 : Int32)).toNatClampNeg) rfl (v := M.1 (96 + x1.toNatClampNeg) ((x3 - (1 : Int32)).toNatClampNeg)) rfl g4 d_GR_sortRows_42 ?_
      obtain ⟨g5, h⟩ := h
      refine gw_aald C hI isTB_49.2.1 rfl rfl (j := (M.1 (96 + x1.toNatClampNeg) ((x3 - (1 : Int32)).toNatClampNeg)).toNatClampNeg) rfl (k' := 51 + ((M.1 (96 + x1.toNatClampNeg) ((x3 - (1 : Int32)).toNatClampNeg)).toNatClampNeg)) (by omega) g5 d_GR_sortRows_43 ?_
      refine lv_iload_n hx hb d_GR_sortRows_44 rfl (lv_at hl 1 rfl) ?_
      refine gw_iald C hI (isTB_49.2.2.1 _ (vi_lt g5)) (j := x1.toNatClampNeg) rfl (v := M.1 (51 + ((M.1 (96 + x1.toNatClampNeg) ((x3 - (1 : Int32)).toNatClampNeg)).toNatClampNeg)) x1.toNatClampNeg) rfl g3 d_GR_sortRows_45 ?_
      refine lv_aload_n hx hb d_GR_sortRows_46 rfl (lv_at hl 0 rfl) ?_
      refine gw_get (v := .ref (ad 49)) C hI lay_48 i_GR rfl 0 (by decide) kw_1_128 rfl rfl d_GR_sortRows_47 ?_
      refine gw_get (v := .ref (ad 50)) C hI isTB_49.1 i_TB rfl 0 (by decide) kw_1_29 rfl rfl d_GR_sortRows_50 ?_
      refine lv_iload_n hx hb d_GR_sortRows_53 rfl (lv_at hl 2 rfl) ?_
      obtain ⟨g6, h⟩ := h
      refine gw_aald C hI isTB_49.2.1 rfl rfl (j := x2.toNatClampNeg) rfl (k' := 51 + x2.toNatClampNeg) (by omega) g6 d_GR_sortRows_54 ?_
      refine lv_iload_n hx hb d_GR_sortRows_55 rfl (lv_at hl 1 rfl) ?_
      refine gw_iald C hI (isTB_49.2.2.1 _ (vi_lt g6)) (j := x1.toNatClampNeg) rfl (v := M.1 (51 + x2.toNatClampNeg) x1.toNatClampNeg) rfl g3 d_GR_sortRows_56 ?_
      refine lv_icmp_le (tgt := 84) hx hb d_GR_sortRows_57 (by decide) (fun c8 => ?_) (fun c8 => ?_)
      · have h := h.1 c8
        exact L_GR_sortRows_84 C K2 K9 h hI (lv_sub hl [0, 1, 2, 3] rfl)
      · have h := h.2 c8
        refine lv_aload_n hx hb d_GR_sortRows_60 rfl (lv_at hl 0 rfl) ?_
        refine gw_get (v := .ref (ad 95)) C hI lay_48 i_GR rfl 2 (by decide) kw_1_132 rfl rfl d_GR_sortRows_61 ?_
        refine lv_iload_n hx hb d_GR_sortRows_64 rfl (lv_at hl 1 rfl) ?_
        refine gw_aald C hI lay_95 rfl rfl (j := x1.toNatClampNeg) rfl (k' := 96 + x1.toNatClampNeg) (by omega) g3 d_GR_sortRows_65 ?_
        refine lv_iload_n hx hb d_GR_sortRows_66 rfl (lv_at hl 3 rfl) ?_
        refine lv_aload_n hx hb d_GR_sortRows_67 rfl (lv_at hl 0 rfl) ?_
        refine gw_get (v := .ref (ad 95)) C hI lay_48 i_GR rfl 2 (by decide) kw_1_132 rfl rfl d_GR_sortRows_68 ?_
        refine lv_iload_n hx hb d_GR_sortRows_71 rfl (lv_at hl 1 rfl) ?_
        refine gw_aald C hI lay_95 rfl rfl (j := x1.toNatClampNeg) rfl (k' := 96 + x1.toNatClampNeg) (by omega) g3 d_GR_sortRows_72 ?_
        refine lv_iload_n hx hb d_GR_sortRows_73 rfl (lv_at hl 3 rfl) ?_
        refine lv_iconst (v := (1 : Int32)) hx hb d_GR_sortRows_74 (by decide) ?_
        refine lv_isub hx hb d_GR_sortRows_75 ?_
        refine gw_iald C hI (lay_order _ (vi_lt g3)) (j := (x3 - (1 : Int32)).toNatClampNeg) rfl (v := M.1 (96 + x1.toNatClampNeg) ((x3 - (1 : Int32)).toNatClampNeg)) rfl g4 d_GR_sortRows_76 ?_
        obtain ⟨g7, h⟩ := h
        refine gw_iast C hI (lay_order _ (vi_lt g3)) (j := x3.toNatClampNeg) rfl g7 d_GR_sortRows_77 (fun H locs hI => ?_)
        refine lv_iinc (v := x3 + (-1)) (lv' := [(3, .int (x3 + (-1))), (0, .ref (ad 48)), (1, .int x1), (2, .int x2)]) hx hb d_GR_sortRows_78 hl (k := 3) rfl rfl (by decide) rfl (fun ls hl => ?_)
        refine lv_goto (tgt := 22) hx hb d_GR_sortRows_81 (by decide) ?_
        exact ih x1 x2 (x3 + (-1)) (wi M (96 + x1.toNatClampNeg) x3.toNatClampNeg (M.1 (96 + x1.toNatClampNeg) ((x3 - (1 : Int32)).toNatClampNeg))) _ _ _ h hI (lv_sub hl [1, 2, 3, 0] rfl)
set_option maxHeartbeats 4000000 in
set_option maxRecDepth 100000 in
theorem L_GR_sortRows_9 {p : Program} {l : Launch} {e : Env} {s : State} {m : MethodId} {args : Array Value} {below : List Frame} {meth : Method} {c : Code} {D : va_G} {cy : Nat → ClassId} {ad : Nat → Nat} (C : Cx p s m args meth c b_GR_sortRows 4 none "BoostForests$Grower" D cy ad) {Q : gM → Prop} {k2 : Int32 → gM → Prop} (K2 : ∀ (x1 : Int32) (M : gM) (H : Heap) (locs : List Loc) (ls : Array Slot), k2 x1 M → gI D cy ad s M H locs → lv_has ls 4 [(0, .ref (ad 48)), (1, .int x1)] → W p l e rm_GR_sortRows s m args below meth c H locs 0 0 (MQ below (va_Qv Q (gB D cy ad) (gA ad s.heap.size)) args s 0 0 (gA ad s.heap.size)) (F0 m 2 ls [])) (n : Nat) : ∀ (x1 : Int32) (x2 : Int32) (M : gM) (H : Heap) (locs : List Loc) (ls : Array Slot), wp_GR_sortRows_9 Q k2 n x1 x2 M → gI D cy ad s M H locs → lv_has ls 4 [(0, .ref (ad 48)), (1, .int x1), (2, .int x2)] → W p l e rm_GR_sortRows s m args below meth c H locs 0 0 (MQ below (va_Qv Q (gB D cy ad) (gA ad s.heap.size)) args s 0 0 (gA ad s.heap.size)) (F0 m 9 ls []) := by
  obtain ⟨hx, hb, hml, hown, hts, hr, hlk, hK, hja⟩ := id C
  induction n with
  | zero => exact fun _ _ _ _ _ _ h _ _ => h.elim
  | succ n ih =>
    intro x1 x2 M H locs ls h hI hl
    have h := h
    refine lv_iload_n hx hb d_GR_sortRows_9 rfl (lv_at hl 2 rfl) ?_
    refine lv_aload_n hx hb d_GR_sortRows_10 rfl (lv_at hl 0 rfl) ?_
    refine gw_get (v := .ref (ad 49)) C hI lay_48 i_GR rfl 0 (by decide) kw_1_128 rfl rfl d_GR_sortRows_11 ?_
    refine gw_get (v := .int (M.1 49 4)) C hI isTB_49.1 i_TB rfl 4 (by decide) kw_1_42 rfl rfl d_GR_sortRows_14 ?_
    refine lv_icmp_ge (tgt := 99) hx hb d_GR_sortRows_17 (by decide) (fun c11 => ?_) (fun c11 => ?_)
    · have h := h.1 c11
      refine lv_iinc (v := x1 + 1) (lv' := [(1, .int (x1 + 1)), (0, .ref (ad 48)), (2, .int x2)]) hx hb d_GR_sortRows_99 hl (k := 1) rfl rfl (by decide) rfl (fun ls hl => ?_)
      refine lv_goto (tgt := 2) hx hb d_GR_sortRows_102 (by decide) ?_
      exact K2 (x1 + 1) M _ _ _ h hI (lv_sub hl [1, 0] rfl)
    · have h := h.2 c11
      refine lv_iload_n hx hb d_GR_sortRows_20 rfl (lv_at hl 2 rfl) ?_
      refine lv_istore_n (lv' := [(3, .int x2), (0, .ref (ad 48)), (1, .int x1), (2, .int x2)]) hx hb d_GR_sortRows_21 rfl hl (by decide) rfl (fun ls hl => ?_)
      obtain ⟨n10, h⟩ := h
      exact L_GR_sortRows_22 C K2 ih n10 x1 x2 x2 M _ _ _ h hI (lv_sub hl [1, 2, 3, 0] rfl)
set_option maxHeartbeats 4000000 in
set_option maxRecDepth 100000 in
theorem L_GR_sortRows_2 {p : Program} {l : Launch} {e : Env} {s : State} {m : MethodId} {args : Array Value} {below : List Frame} {meth : Method} {c : Code} {D : va_G} {cy : Nat → ClassId} {ad : Nat → Nat} (C : Cx p s m args meth c b_GR_sortRows 4 none "BoostForests$Grower" D cy ad) {Q : gM → Prop} (n : Nat) : ∀ (x1 : Int32) (M : gM) (H : Heap) (locs : List Loc) (ls : Array Slot), wp_GR_sortRows_2 Q n x1 M → gI D cy ad s M H locs → lv_has ls 4 [(0, .ref (ad 48)), (1, .int x1)] → W p l e rm_GR_sortRows s m args below meth c H locs 0 0 (MQ below (va_Qv Q (gB D cy ad) (gA ad s.heap.size)) args s 0 0 (gA ad s.heap.size)) (F0 m 2 ls []) := by
  obtain ⟨hx, hb, hml, hown, hts, hr, hlk, hK, hja⟩ := id C
  induction n with
  | zero => exact fun _ _ _ _ _ h _ _ => h.elim
  | succ n ih =>
    intro x1 M H locs ls h hI hl
    have h := h
    refine lv_iload_n hx hb d_GR_sortRows_2 rfl (lv_at hl 1 rfl) ?_
    refine lv_iconst (v := (4 : Int32)) hx hb d_GR_sortRows_3 (by decide) ?_
    refine lv_icmp_ge (tgt := 105) hx hb d_GR_sortRows_4 (by decide) (fun c13 => ?_) (fun c13 => ?_)
    · have h := h.1 c13
      exact gr_v C hI h d_GR_sortRows_105
    · have h := h.2 c13
      refine lv_iconst (v := (0 : Int32)) hx hb d_GR_sortRows_7 (by decide) ?_
      refine lv_istore_n (lv' := [(2, .int (0 : Int32)), (0, .ref (ad 48)), (1, .int x1)]) hx hb d_GR_sortRows_8 rfl hl (by decide) rfl (fun ls hl => ?_)
      obtain ⟨n12, h⟩ := h
      exact L_GR_sortRows_9 C ih n12 x1 (0 : Int32) M _ _ _ h hI (lv_sub hl [1, 2, 0] rfl)
set_option maxHeartbeats 4000000 in
set_option maxRecDepth 100000 in
theorem c_GR_sortRows {l : Launch} {D : va_G} {cy : Nat → ClassId} {ad : Nat → Nat} (hj : gJ ad) {M : gM} {Q : gM → Prop} (h : wp_GR_sortRows Q M) : Cv l y_GR_sortRows b_GR_sortRows 4 none rm_GR_sortRows D cy ad [.ref (ad 48)] M Q := by
  refine gm (by decide +kernel) hj (Nat.le_of_ble_eq_true rfl) (fun p e s m args below meth c ls C hl hI => ?_)
  have hl : lv_has ls 4 [(0, .ref (ad 48))] := hl
  obtain ⟨hx, hb, hml, hown, hts, hr, hlk, hK, hja⟩ := id C
  refine lv_iconst (v := (0 : Int32)) hx hb d_GR_sortRows_0 (by decide) ?_
  refine lv_istore_n (lv' := [(1, .int (0 : Int32)), (0, .ref (ad 48))]) hx hb d_GR_sortRows_1 rfl hl (by decide) rfl (fun ls hl => ?_)
  obtain ⟨n14, h⟩ := h
  exact L_GR_sortRows_2 C n14 (0 : Int32) M _ _ _ h hI (lv_sub hl [1, 0] rfl)
set_option maxHeartbeats 4000000 in
set_option maxRecDepth 100000 in
theorem c_GR_drawn {l : Launch} {D : va_G} {cy : Nat → ClassId} {ad : Nat → Nat} (hj : gJ ad) {a1 : Int32} {M : gM} {Q : Int32 → gM → Prop} (h : wp_GR_drawn Q a1 M) : Ci l y_GR_drawn b_GR_drawn 3 (some .int) rm_GR_drawn D cy ad [.ref (ad 48), .int a1] M Q := by
  refine gm (by decide +kernel) hj (Nat.le_of_ble_eq_true rfl) (fun p e s m args below meth c ls C hl hI => ?_)
  have hl : lv_has ls 3 [(0, .ref (ad 48)), (1, .int a1)] := hl
  obtain ⟨hx, hb, hml, hown, hts, hr, hlk, hK, hja⟩ := id C
  refine lv_aload_n hx hb d_GR_drawn_0 rfl (lv_at hl 0 rfl) ?_
  refine gw_get (v := .ref (ad 94)) C hI lay_48 i_GR rfl 1 (by decide) kw_1_130 rfl rfl d_GR_drawn_1 ?_
  refine lv_bipush (v := (10 : Int32)) hx hb d_GR_drawn_4 (by decide) ?_
  refine gw_iald C hI lay_94 (j := 10) (by decide) (v := M.1 94 10) rfl (vi_lit (10 : Int32) 15 (by decide)) d_GR_drawn_6 ?_
  refine lv_ldc hx hb hown (hts _ kw_2_93) d_GR_drawn_7 ?_
  refine lv_iload_n hx hb d_GR_drawn_9 rfl (lv_at hl 1 rfl) ?_
  refine lv_imul hx hb d_GR_drawn_10 ?_
  refine lv_iadd hx hb d_GR_drawn_11 ?_
  refine lv_istore_n (lv' := [(2, .int ((M.1 94 10) + ((1000003 : Int32) * a1))), (0, .ref (ad 48)), (1, .int a1)]) hx hb d_GR_drawn_12 rfl hl (by decide) rfl (fun ls hl => ?_)
  refine lv_iload_n hx hb d_GR_drawn_13 rfl (lv_at hl 0 rfl) ?_
  refine lv_iload_n hx hb d_GR_drawn_14 rfl (lv_at hl 0 rfl) ?_
  refine lv_bipush (v := (15 : Int32)) hx hb d_GR_drawn_15 (by decide) ?_
  refine lv_iushr (v := ushr ((M.1 94 10) + ((1000003 : Int32) * a1)) (15 : Int32)) hx hb d_GR_drawn_17 rfl ?_
  refine lv_ixor hx hb d_GR_drawn_18 ?_
  refine lv_ldc hx hb hown (hts _ kw_2_94) d_GR_drawn_19 ?_
  refine lv_imul hx hb d_GR_drawn_21 ?_
  refine lv_istore_n (lv' := [(2, .int ((((M.1 94 10) + ((1000003 : Int32) * a1)) ^^^ (ushr ((M.1 94 10) + ((1000003 : Int32) * a1)) (15 : Int32))) * (739982445 : Int32))), (0, .ref (ad 48)), (1, .int a1)]) hx hb d_GR_drawn_22 rfl hl (by decide) rfl (fun ls hl => ?_)
  refine lv_iload_n hx hb d_GR_drawn_23 rfl (lv_at hl 0 rfl) ?_
  refine lv_iload_n hx hb d_GR_drawn_24 rfl (lv_at hl 0 rfl) ?_
  refine lv_bipush (v := (12 : Int32)) hx hb d_GR_drawn_25 (by decide) ?_
  refine lv_iushr (v := ushr ((((M.1 94 10) + ((1000003 : Int32) * a1)) ^^^ (ushr ((M.1 94 10) + ((1000003 : Int32) * a1)) (15 : Int32))) * (739982445 : Int32)) (12 : Int32)) hx hb d_GR_drawn_27 rfl ?_
  refine lv_ixor hx hb d_GR_drawn_28 ?_
  refine lv_ldc hx hb hown (hts _ kw_2_95) d_GR_drawn_29 ?_
  refine lv_imul hx hb d_GR_drawn_31 ?_
  refine lv_istore_n (lv' := [(2, .int ((((((M.1 94 10) + ((1000003 : Int32) * a1)) ^^^ (ushr ((M.1 94 10) + ((1000003 : Int32) * a1)) (15 : Int32))) * (739982445 : Int32)) ^^^ (ushr ((((M.1 94 10) + ((1000003 : Int32) * a1)) ^^^ (ushr ((M.1 94 10) + ((1000003 : Int32) * a1)) (15 : Int32))) * (739982445 : Int32)) (12 : Int32))) * (695872825 : Int32))), (0, .ref (ad 48)), (1, .int a1)]) hx hb d_GR_drawn_32 rfl hl (by decide) rfl (fun ls hl => ?_)
  refine lv_iload_n hx hb d_GR_drawn_33 rfl (lv_at hl 0 rfl) ?_
  refine lv_bipush (v := (24 : Int32)) hx hb d_GR_drawn_34 (by decide) ?_
  refine lv_iushr (v := ushr ((((((M.1 94 10) + ((1000003 : Int32) * a1)) ^^^ (ushr ((M.1 94 10) + ((1000003 : Int32) * a1)) (15 : Int32))) * (739982445 : Int32)) ^^^ (ushr ((((M.1 94 10) + ((1000003 : Int32) * a1)) ^^^ (ushr ((M.1 94 10) + ((1000003 : Int32) * a1)) (15 : Int32))) * (739982445 : Int32)) (12 : Int32))) * (695872825 : Int32)) (24 : Int32)) hx hb d_GR_drawn_36 rfl ?_
  exact gr_i C hI h d_GR_drawn_37
set_option maxHeartbeats 4000000 in
set_option maxRecDepth 100000 in
theorem L_GR_drawRows_67 {p : Program} {l : Launch} {e : Env} {s : State} {m : MethodId} {args : Array Value} {below : List Frame} {meth : Method} {c : Code} {D : va_G} {cy : Nat → ClassId} {ad : Nat → Nat} (C : Cx p s m args meth c b_GR_drawRows 5 none "BoostForests$Grower" D cy ad) {Q : gM → Prop} {x1 : Int32} {x3 : Int32} {s0 : Int32} {s1 : Int32} {k2 : Int32 → Int32 → gM → Prop} {M : gM} {H : Heap} {locs : List Loc} {ls : Array Slot} (K2 : ∀ (x1 : Int32) (x3 : Int32) (M : gM) (H : Heap) (locs : List Loc) (ls : Array Slot), k2 x1 x3 M → gI D cy ad s M H locs → lv_has ls 5 [(0, .ref (ad 48)), (1, .int x1), (2, .ref (ad 110)), (3, .int x3)] → W p l e rm_GR_drawRows s m args below meth c H locs 0 0 (MQ below (va_Qv Q (gB D cy ad) (gA ad s.heap.size)) args s 0 0 (gA ad s.heap.size)) (F0 m 2 ls [])) (h : wp_GR_drawRows_67 Q k2 x1 x3 s0 s1 M) (hI : gI D cy ad s M H locs) (hl : lv_has ls 5 [(0, .ref (ad 48)), (1, .int x1), (2, .ref (ad 110)), (3, .int x3)]) : W p l e rm_GR_drawRows s m args below meth c H locs 0 0 (MQ below (va_Qv Q (gB D cy ad) (gA ad s.heap.size)) args s 0 0 (gA ad s.heap.size)) (F0 m 67 ls [.int s0, .int s1, .ref (ad 100)]) := by
  obtain ⟨hx, hb, hml, hown, hts, hr, hlk, hK, hja⟩ := id C
  obtain ⟨g1, h⟩ := h
  refine gw_iast C hI lay_100 (j := s1.toNatClampNeg) rfl g1 d_GR_drawRows_67 (fun H locs hI => ?_)
  refine lv_aload_n hx hb d_GR_drawRows_68 rfl (lv_at hl 0 rfl) ?_
  refine gw_get (v := .ref (ad 101)) C hI lay_48 i_GR rfl 4 (by decide) kw_1_134 rfl rfl d_GR_drawRows_69 ?_
  refine lv_iload_n hx hb d_GR_drawRows_72 rfl (lv_at hl 3 rfl) ?_
  refine lv_aload_n hx hb d_GR_drawRows_73 rfl (lv_at hl 0 rfl) ?_
  refine gw_get (v := .ref (ad 49)) C hI lay_48 i_GR rfl 0 (by decide) kw_1_128 rfl rfl d_GR_drawRows_74 ?_
  refine gw_get (v := .ref (ad 92)) C hI isTB_49.1 i_TB rfl 2 (by decide) kw_1_35 rfl rfl d_GR_drawRows_77 ?_
  refine lv_iload_n hx hb d_GR_drawRows_80 rfl (lv_at hl 3 rfl) ?_
  obtain ⟨g2, h⟩ := h
  refine gw_iald C hI isTB_49.2.2.2.2.1 (j := x3.toNatClampNeg) rfl (v := M.1 92 x3.toNatClampNeg) rfl g2 d_GR_drawRows_81 ?_
  refine lv_i2l hx hb d_GR_drawRows_82 rfl ?_
  refine lv_aload_n hx hb d_GR_drawRows_83 rfl (lv_at hl 2 rfl) ?_
  refine lv_iload_n hx hb d_GR_drawRows_84 rfl (lv_at hl 3 rfl) ?_
  refine gw_lald C hI lay_110 (j := x3.toNatClampNeg) rfl (v := M.2 110 x3.toNatClampNeg) rfl g2 d_GR_drawRows_85 ?_
  refine lv_sipush (v := (256 : Int32)) hx hb d_GR_drawRows_86 (by decide) ?_
  refine lv_aload_n hx hb d_GR_drawRows_89 rfl (lv_at hl 0 rfl) ?_
  refine gw_get (v := .ref (ad 49)) C hI lay_48 i_GR rfl 0 (by decide) kw_1_128 rfl rfl d_GR_drawRows_90 ?_
  refine gw_get (v := .ref (ad 91)) C hI isTB_49.1 i_TB rfl 1 (by decide) kw_1_33 rfl rfl d_GR_drawRows_93 ?_
  refine lv_iload_n hx hb d_GR_drawRows_96 rfl (lv_at hl 3 rfl) ?_
  refine gw_iald C hI isTB_49.2.2.2.1 (j := x3.toNatClampNeg) rfl (v := M.1 91 x3.toNatClampNeg) rfl g2 d_GR_drawRows_97 ?_
  refine lv_imul hx hb d_GR_drawRows_98 ?_
  refine lv_i2l hx hb d_GR_drawRows_99 rfl ?_
  refine lv_lsub hx hb d_GR_drawRows_100 ?_
  refine lv_lmul hx hb d_GR_drawRows_101 ?_
  refine gw_last C hI lay_101 (j := x3.toNatClampNeg) rfl g2 d_GR_drawRows_102 (fun H locs hI => ?_)
  refine lv_iinc (v := x3 + 1) (lv' := [(3, .int (x3 + 1)), (0, .ref (ad 48)), (1, .int x1), (2, .ref (ad 110))]) hx hb d_GR_drawRows_103 hl (k := 3) rfl rfl (by decide) rfl (fun ls hl => ?_)
  refine lv_goto (tgt := 2) hx hb d_GR_drawRows_106 (by decide) ?_
  exact K2 x1 (x3 + 1) (wl (wi M (100) s1.toNatClampNeg s0) (101) x3.toNatClampNeg (((M.1 92 x3.toNatClampNeg).toInt64) * ((M.2 110 x3.toNatClampNeg) - (((256 : Int32) * (M.1 91 x3.toNatClampNeg)).toInt64)))) _ _ _ h hI (lv_sub hl [1, 2, 3, 0] rfl)
set_option maxHeartbeats 4000000 in
set_option maxRecDepth 100000 in
theorem L_GR_drawRows_50 {p : Program} {l : Launch} {e : Env} {s : State} {m : MethodId} {args : Array Value} {below : List Frame} {meth : Method} {c : Code} {D : va_G} {cy : Nat → ClassId} {ad : Nat → Nat} (C : Cx p s m args meth c b_GR_drawRows 5 none "BoostForests$Grower" D cy ad) {Q : gM → Prop} {x1 : Int32} {x3 : Int32} {s0 : Int32} {k2 : Int32 → Int32 → gM → Prop} {M : gM} {H : Heap} {locs : List Loc} {ls : Array Slot} (K2 : ∀ (x1 : Int32) (x3 : Int32) (M : gM) (H : Heap) (locs : List Loc) (ls : Array Slot), k2 x1 x3 M → gI D cy ad s M H locs → lv_has ls 5 [(0, .ref (ad 48)), (1, .int x1), (2, .ref (ad 110)), (3, .int x3)] → W p l e rm_GR_drawRows s m args below meth c H locs 0 0 (MQ below (va_Qv Q (gB D cy ad) (gA ad s.heap.size)) args s 0 0 (gA ad s.heap.size)) (F0 m 2 ls [])) (h : wp_GR_drawRows_50 Q k2 x1 x3 s0 M) (hI : gI D cy ad s M H locs) (hl : lv_has ls 5 [(0, .ref (ad 48)), (1, .int x1), (2, .ref (ad 110)), (3, .int x3)]) : W p l e rm_GR_drawRows s m args below meth c H locs 0 0 (MQ below (va_Qv Q (gB D cy ad) (gA ad s.heap.size)) args s 0 0 (gA ad s.heap.size)) (F0 m 50 ls [.int s0]) := by
  obtain ⟨hx, hb, hml, hown, hts, hr, hlk, hK, hja⟩ := id C
  refine lv_istore (lv' := [(4, .int s0), (0, .ref (ad 48)), (1, .int x1), (2, .ref (ad 110)), (3, .int x3)]) hx hb d_GR_drawRows_50 hl (by decide) rfl (fun ls hl => ?_)
  refine lv_aload_n hx hb d_GR_drawRows_52 rfl (lv_at hl 1 rfl) ?_
  refine gw_get (v := .ref (ad 100)) C hI lay_48 i_GR rfl 3 (by decide) kw_1_133 rfl rfl d_GR_drawRows_53 ?_
  refine lv_iload_n hx hb d_GR_drawRows_56 rfl (lv_at hl 4 rfl) ?_
  refine lv_iload hx hb d_GR_drawRows_57 (lv_at hl 0 rfl) ?_
  refine lv_if_eq (tgt := 66) hx hb d_GR_drawRows_59 (by decide) (fun c3 => ?_) (fun c3 => ?_)
  · have h := h.1 c3
    refine lv_iconst (v := (-1 : Int32)) hx hb d_GR_drawRows_66 (by decide) ?_
    exact L_GR_drawRows_67 C K2 h hI (lv_sub hl [1, 2, 3, 4] rfl)
  · have h := h.2 c3
    refine lv_iconst (v := (0 : Int32)) hx hb d_GR_drawRows_62 (by decide) ?_
    refine lv_goto (tgt := 67) hx hb d_GR_drawRows_63 (by decide) ?_
    exact L_GR_drawRows_67 C K2 h hI (lv_sub hl [1, 2, 3, 4] rfl)
set_option maxHeartbeats 4000000 in
set_option maxRecDepth 100000 in
theorem L_GR_drawRows_49 {p : Program} {l : Launch} {e : Env} {s : State} {m : MethodId} {args : Array Value} {below : List Frame} {meth : Method} {c : Code} {D : va_G} {cy : Nat → ClassId} {ad : Nat → Nat} (C : Cx p s m args meth c b_GR_drawRows 5 none "BoostForests$Grower" D cy ad) {Q : gM → Prop} {x1 : Int32} {x3 : Int32} {k2 : Int32 → Int32 → gM → Prop} {M : gM} {H : Heap} {locs : List Loc} {ls : Array Slot} (K2 : ∀ (x1 : Int32) (x3 : Int32) (M : gM) (H : Heap) (locs : List Loc) (ls : Array Slot), k2 x1 x3 M → gI D cy ad s M H locs → lv_has ls 5 [(0, .ref (ad 48)), (1, .int x1), (2, .ref (ad 110)), (3, .int x3)] → W p l e rm_GR_drawRows s m args below meth c H locs 0 0 (MQ below (va_Qv Q (gB D cy ad) (gA ad s.heap.size)) args s 0 0 (gA ad s.heap.size)) (F0 m 2 ls [])) (h : wp_GR_drawRows_49 Q k2 x1 x3 M) (hI : gI D cy ad s M H locs) (hl : lv_has ls 5 [(0, .ref (ad 48)), (1, .int x1), (2, .ref (ad 110)), (3, .int x3)]) : W p l e rm_GR_drawRows s m args below meth c H locs 0 0 (MQ below (va_Qv Q (gB D cy ad) (gA ad s.heap.size)) args s 0 0 (gA ad s.heap.size)) (F0 m 49 ls []) := by
  obtain ⟨hx, hb, hml, hown, hts, hr, hlk, hK, hja⟩ := id C
  refine lv_iconst (v := (0 : Int32)) hx hb d_GR_drawRows_49 (by decide) ?_
  exact L_GR_drawRows_50 C K2 h hI (lv_sub hl [0, 1, 2, 3] rfl)
set_option maxHeartbeats 4000000 in
set_option maxRecDepth 100000 in
theorem L_GR_drawRows_2 {p : Program} {l : Launch} {e : Env} {s : State} {m : MethodId} {args : Array Value} {below : List Frame} {meth : Method} {c : Code} {D : va_G} {cy : Nat → ClassId} {ad : Nat → Nat} (C : Cx p s m args meth c b_GR_drawRows 5 none "BoostForests$Grower" D cy ad) {Q : gM → Prop} (n : Nat) : ∀ (x1 : Int32) (x3 : Int32) (M : gM) (H : Heap) (locs : List Loc) (ls : Array Slot), wp_GR_drawRows_2 Q n x1 x3 M → gI D cy ad s M H locs → lv_has ls 5 [(0, .ref (ad 48)), (1, .int x1), (2, .ref (ad 110)), (3, .int x3)] → W p l e rm_GR_drawRows s m args below meth c H locs 0 0 (MQ below (va_Qv Q (gB D cy ad) (gA ad s.heap.size)) args s 0 0 (gA ad s.heap.size)) (F0 m 2 ls []) := by
  obtain ⟨hx, hb, hml, hown, hts, hr, hlk, hK, hja⟩ := id C
  induction n with
  | zero => exact fun _ _ _ _ _ _ h _ _ => h.elim
  | succ n ih =>
    intro x1 x3 M H locs ls h hI hl
    have h := h
    refine lv_iload_n hx hb d_GR_drawRows_2 rfl (lv_at hl 3 rfl) ?_
    refine lv_aload_n hx hb d_GR_drawRows_3 rfl (lv_at hl 0 rfl) ?_
    refine gw_get (v := .ref (ad 49)) C hI lay_48 i_GR rfl 0 (by decide) kw_1_128 rfl rfl d_GR_drawRows_4 ?_
    refine gw_get (v := .int (M.1 49 4)) C hI isTB_49.1 i_TB rfl 4 (by decide) kw_1_42 rfl rfl d_GR_drawRows_7 ?_
    refine lv_icmp_ge (tgt := 109) hx hb d_GR_drawRows_10 (by decide) (fun c9 => ?_) (fun c9 => ?_)
    · have h := h.1 c9
      exact gr_v C hI h d_GR_drawRows_109
    · have h := h.2 c9
      refine lv_aload_n hx hb d_GR_drawRows_13 rfl (lv_at hl 0 rfl) ?_
      refine gw_get (v := .ref (ad 49)) C hI lay_48 i_GR rfl 0 (by decide) kw_1_128 rfl rfl d_GR_drawRows_14 ?_
      refine gw_get (v := .ref (ad 93)) C hI isTB_49.1 i_TB rfl 3 (by decide) kw_1_39 rfl rfl d_GR_drawRows_17 ?_
      refine lv_iload_n hx hb d_GR_drawRows_20 rfl (lv_at hl 3 rfl) ?_
      obtain ⟨g4, h⟩ := h
      refine gw_zald C hI isTB_49.2.2.2.2.2 (j := x3.toNatClampNeg) rfl (v := M.1 93 x3.toNatClampNeg) rfl g4 d_GR_drawRows_21 ?_
      refine lv_if_ne (tgt := 49) hx hb d_GR_drawRows_22 (by decide) (fun c8 => ?_) (fun c8 => ?_)
      · have h := h.1 c8
        exact L_GR_drawRows_49 C ih h hI (lv_sub hl [0, 1, 2, 3] rfl)
      · have h := h.2 c8
        refine lv_aload_n hx hb d_GR_drawRows_25 rfl (lv_at hl 0 rfl) ?_
        refine lv_bipush (v := (64 : Int32)) hx hb d_GR_drawRows_26 (by decide) ?_
        refine lv_iload_n hx hb d_GR_drawRows_28 rfl (lv_at hl 1 rfl) ?_
        refine lv_imul hx hb d_GR_drawRows_29 ?_
        refine lv_iload_n hx hb d_GR_drawRows_30 rfl (lv_at hl 3 rfl) ?_
        refine lv_iadd hx hb d_GR_drawRows_31 ?_
        refine gw_Vi C hI hl.1 (As := [.int (((64 : Int32) * x1) + x3)]) (rest := []) (c_GR_drawn hja h) kV_GR_113 lay_48 rfl rfl ⟨rfl, rfl⟩ ⟨Nat.le_of_ble_eq_true rfl, Nat.le_of_ble_eq_true rfl⟩ rfl (Nat.le_of_ble_eq_true rfl) ⟨Nat.zero_le _, Nat.zero_le _⟩ d_GR_drawRows_32 (fun r5 M6 H locs h hI => ?_)
        refine lv_aload_n hx hb d_GR_drawRows_35 rfl (lv_at hl 0 rfl) ?_
        refine gw_get (v := .ref (ad 94)) C hI lay_48 i_GR rfl 1 (by decide) kw_1_130 rfl rfl d_GR_drawRows_36 ?_
        refine lv_bipush (v := (6 : Int32)) hx hb d_GR_drawRows_39 (by decide) ?_
        refine gw_iald C hI lay_94 (j := 6) (by decide) (v := M6.1 94 6) rfl (vi_lit (6 : Int32) 15 (by decide)) d_GR_drawRows_41 ?_
        refine lv_icmp_ge (tgt := 49) hx hb d_GR_drawRows_42 (by decide) (fun c7 => ?_) (fun c7 => ?_)
        · have h := h.1 c7
          exact L_GR_drawRows_49 C ih h hI (lv_sub hl [0, 1, 2, 3] rfl)
        · have h := h.2 c7
          refine lv_iconst (v := (1 : Int32)) hx hb d_GR_drawRows_45 (by decide) ?_
          refine lv_goto (tgt := 50) hx hb d_GR_drawRows_46 (by decide) ?_
          exact L_GR_drawRows_50 C ih h hI (lv_sub hl [0, 1, 2, 3] rfl)
set_option maxHeartbeats 4000000 in
set_option maxRecDepth 100000 in
theorem c_GR_drawRows {l : Launch} {D : va_G} {cy : Nat → ClassId} {ad : Nat → Nat} (hj : gJ ad) {a1 : Int32} {M : gM} {Q : gM → Prop} (h : wp_GR_drawRows Q a1 M) : Cv l y_GR_drawRows b_GR_drawRows 5 none rm_GR_drawRows D cy ad [.ref (ad 48), .int a1, .ref (ad 110)] M Q := by
  refine gm (by decide +kernel) hj (Nat.le_of_ble_eq_true rfl) (fun p e s m args below meth c ls C hl hI => ?_)
  have hl : lv_has ls 5 [(0, .ref (ad 48)), (1, .int a1), (2, .ref (ad 110))] := hl
  obtain ⟨hx, hb, hml, hown, hts, hr, hlk, hK, hja⟩ := id C
  refine lv_iconst (v := (0 : Int32)) hx hb d_GR_drawRows_0 (by decide) ?_
  refine lv_istore_n (lv' := [(3, .int (0 : Int32)), (0, .ref (ad 48)), (1, .int a1), (2, .ref (ad 110))]) hx hb d_GR_drawRows_1 rfl hl (by decide) rfl (fun ls hl => ?_)
  obtain ⟨n10, h⟩ := h
  exact L_GR_drawRows_2 C n10 a1 (0 : Int32) M _ _ _ h hI (lv_sub hl [1, 2, 3, 0] rfl)
set_option maxHeartbeats 4000000 in
set_option maxRecDepth 100000 in
theorem L_GR_gatherNode_52 {p : Program} {l : Launch} {e : Env} {s : State} {m : MethodId} {args : Array Value} {below : List Frame} {meth : Method} {c : Code} {D : va_G} {cy : Nat → ClassId} {ad : Nat → Nat} (C : Cx p s m args meth c b_GR_gatherNode 3 none "BoostForests$Grower" D cy ad) {Q : gM → Prop} {x1 : Int32} {x2 : Int32} {k9 : Int32 → Int32 → gM → Prop} {M : gM} {H : Heap} {locs : List Loc} {ls : Array Slot} (K9 : ∀ (x1 : Int32) (x2 : Int32) (M : gM) (H : Heap) (locs : List Loc) (ls : Array Slot), k9 x1 x2 M → gI D cy ad s M H locs → lv_has ls 3 [(0, .ref (ad 48)), (1, .int x1), (2, .int x2)] → W p l e rm_GR_gatherNode s m args below meth c H locs 0 0 (MQ below (va_Qv Q (gB D cy ad) (gA ad s.heap.size)) args s 0 0 (gA ad s.heap.size)) (F0 m 9 ls [])) (h : wp_GR_gatherNode_52 Q k9 x1 x2 M) (hI : gI D cy ad s M H locs) (hl : lv_has ls 3 [(0, .ref (ad 48)), (1, .int x1), (2, .int x2)]) : W p l e rm_GR_gatherNode s m args below meth c H locs 0 0 (MQ below (va_Qv Q (gB D cy ad) (gA ad s.heap.size)) args s 0 0 (gA ad s.heap.size)) (F0 m 52 ls []) := by
  obtain ⟨hx, hb, hml, hown, hts, hr, hlk, hK, hja⟩ := id C
  refine lv_iinc (v := x2 + 1) (lv' := [(2, .int (x2 + 1)), (0, .ref (ad 48)), (1, .int x1)]) hx hb d_GR_gatherNode_52 hl (k := 2) rfl rfl (by decide) rfl (fun ls hl => ?_)
  refine lv_goto (tgt := 9) hx hb d_GR_gatherNode_55 (by decide) ?_
  exact K9 x1 (x2 + 1) M _ _ _ h hI (lv_sub hl [1, 2, 0] rfl)
set_option maxHeartbeats 4000000 in
set_option maxRecDepth 100000 in
theorem L_GR_gatherNode_9 {p : Program} {l : Launch} {e : Env} {s : State} {m : MethodId} {args : Array Value} {below : List Frame} {meth : Method} {c : Code} {D : va_G} {cy : Nat → ClassId} {ad : Nat → Nat} (C : Cx p s m args meth c b_GR_gatherNode 3 none "BoostForests$Grower" D cy ad) {Q : gM → Prop} (n : Nat) : ∀ (x1 : Int32) (x2 : Int32) (M : gM) (H : Heap) (locs : List Loc) (ls : Array Slot), wp_GR_gatherNode_9 Q n x1 x2 M → gI D cy ad s M H locs → lv_has ls 3 [(0, .ref (ad 48)), (1, .int x1), (2, .int x2)] → W p l e rm_GR_gatherNode s m args below meth c H locs 0 0 (MQ below (va_Qv Q (gB D cy ad) (gA ad s.heap.size)) args s 0 0 (gA ad s.heap.size)) (F0 m 9 ls []) := by
  obtain ⟨hx, hb, hml, hown, hts, hr, hlk, hK, hja⟩ := id C
  induction n with
  | zero => exact fun _ _ _ _ _ _ h _ _ => h.elim
  | succ n ih =>
    intro x1 x2 M H locs ls h hI hl
    have h := h
    refine lv_iload_n hx hb d_GR_gatherNode_9 rfl (lv_at hl 2 rfl) ?_
    refine lv_aload_n hx hb d_GR_gatherNode_10 rfl (lv_at hl 0 rfl) ?_
    refine gw_get (v := .ref (ad 49)) C hI lay_48 i_GR rfl 0 (by decide) kw_1_128 rfl rfl d_GR_gatherNode_11 ?_
    refine gw_get (v := .int (M.1 49 4)) C hI isTB_49.1 i_TB rfl 4 (by decide) kw_1_42 rfl rfl d_GR_gatherNode_14 ?_
    refine lv_icmp_ge (tgt := 58) hx hb d_GR_gatherNode_17 (by decide) (fun c5 => ?_) (fun c5 => ?_)
    · have h := h.1 c5
      exact gr_v C hI h d_GR_gatherNode_58
    · have h := h.2 c5
      refine lv_aload_n hx hb d_GR_gatherNode_20 rfl (lv_at hl 0 rfl) ?_
      refine gw_get (v := .ref (ad 100)) C hI lay_48 i_GR rfl 3 (by decide) kw_1_133 rfl rfl d_GR_gatherNode_21 ?_
      refine lv_iload_n hx hb d_GR_gatherNode_24 rfl (lv_at hl 2 rfl) ?_
      obtain ⟨g1, h⟩ := h
      refine gw_iald C hI lay_100 (j := x2.toNatClampNeg) rfl (v := M.1 100 x2.toNatClampNeg) rfl g1 d_GR_gatherNode_25 ?_
      refine lv_iload_n hx hb d_GR_gatherNode_26 rfl (lv_at hl 1 rfl) ?_
      refine lv_icmp_ne (tgt := 52) hx hb d_GR_gatherNode_27 (by decide) (fun c4 => ?_) (fun c4 => ?_)
      · have h := h.1 c4
        exact L_GR_gatherNode_52 C ih h hI (lv_sub hl [0, 1, 2] rfl)
      · have h := h.2 c4
        refine lv_aload_n hx hb d_GR_gatherNode_30 rfl (lv_at hl 0 rfl) ?_
        refine gw_get (v := .ref (ad 102)) C hI lay_48 i_GR rfl 5 (by decide) kw_1_135 rfl rfl d_GR_gatherNode_31 ?_
        refine lv_aload_n hx hb d_GR_gatherNode_34 rfl (lv_at hl 0 rfl) ?_
        refine gw_get (v := .ref (ad 101)) C hI lay_48 i_GR rfl 4 (by decide) kw_1_134 rfl rfl d_GR_gatherNode_35 ?_
        refine lv_iload_n hx hb d_GR_gatherNode_38 rfl (lv_at hl 2 rfl) ?_
        refine gw_lald C hI lay_101 (j := x2.toNatClampNeg) rfl (v := M.2 101 x2.toNatClampNeg) rfl g1 d_GR_gatherNode_39 ?_
        refine lv_aload_n hx hb d_GR_gatherNode_40 rfl (lv_at hl 0 rfl) ?_
        refine gw_get (v := .ref (ad 49)) C hI lay_48 i_GR rfl 0 (by decide) kw_1_128 rfl rfl d_GR_gatherNode_41 ?_
        refine gw_get (v := .ref (ad 92)) C hI isTB_49.1 i_TB rfl 2 (by decide) kw_1_35 rfl rfl d_GR_gatherNode_44 ?_
        refine lv_iload_n hx hb d_GR_gatherNode_47 rfl (lv_at hl 2 rfl) ?_
        refine gw_iald C hI isTB_49.2.2.2.2.1 (j := x2.toNatClampNeg) rfl (v := M.1 92 x2.toNatClampNeg) rfl g1 d_GR_gatherNode_48 ?_
        refine gw_Vv C hI hl.1 (As := [.long (M.2 101 x2.toNatClampNeg), .int (M.1 92 x2.toNatClampNeg)]) (rest := []) (c_SM_addRow hja isSM_102 h) kV_GR_126 isSM_102 rfl rfl ⟨rfl, rfl⟩ ⟨Nat.le_of_ble_eq_true rfl, Nat.le_of_ble_eq_true rfl⟩ rfl (Nat.le_of_ble_eq_true rfl) ⟨Nat.zero_le _, Nat.zero_le _⟩ d_GR_gatherNode_49 (fun M3 H locs h hI => ?_)
        exact L_GR_gatherNode_52 C ih h hI (lv_sub hl [0, 1, 2] rfl)
set_option maxHeartbeats 4000000 in
set_option maxRecDepth 100000 in
theorem c_GR_gatherNode {l : Launch} {D : va_G} {cy : Nat → ClassId} {ad : Nat → Nat} (hj : gJ ad) {a1 : Int32} {M : gM} {Q : gM → Prop} (h : wp_GR_gatherNode Q a1 M) : Cv l y_GR_gatherNode b_GR_gatherNode 3 none rm_GR_gatherNode D cy ad [.ref (ad 48), .int a1] M Q := by
  refine gm (by decide +kernel) hj (Nat.le_of_ble_eq_true rfl) (fun p e s m args below meth c ls C hl hI => ?_)
  have hl : lv_has ls 3 [(0, .ref (ad 48)), (1, .int a1)] := hl
  obtain ⟨hx, hb, hml, hown, hts, hr, hlk, hK, hja⟩ := id C
  refine lv_aload_n hx hb d_GR_gatherNode_0 rfl (lv_at hl 0 rfl) ?_
  refine gw_get (v := .ref (ad 102)) C hI lay_48 i_GR rfl 5 (by decide) kw_1_135 rfl rfl d_GR_gatherNode_1 ?_
  refine gw_Vv C hI hl.1 (As := []) (rest := []) (c_SM_empty hja isSM_102 h) kV_GR_123 isSM_102 rfl rfl ⟨rfl, rfl⟩ ⟨Nat.le_of_ble_eq_true rfl, Nat.le_of_ble_eq_true rfl⟩ rfl (Nat.le_of_ble_eq_true rfl) ⟨Nat.zero_le _, Nat.zero_le _⟩ d_GR_gatherNode_4 (fun M7 H locs h hI => ?_)
  refine lv_iconst (v := (0 : Int32)) hx hb d_GR_gatherNode_7 (by decide) ?_
  refine lv_istore_n (lv' := [(2, .int (0 : Int32)), (0, .ref (ad 48)), (1, .int a1)]) hx hb d_GR_gatherNode_8 rfl hl (by decide) rfl (fun ls hl => ?_)
  obtain ⟨n8, h⟩ := h
  exact L_GR_gatherNode_9 C n8 a1 (0 : Int32) M7 _ _ _ h hI (lv_sub hl [1, 2, 0] rfl)
set_option maxHeartbeats 4000000 in
set_option maxRecDepth 100000 in
theorem L_GR_keepsSign_27 {p : Program} {l : Launch} {e : Env} {s : State} {m : MethodId} {args : Array Value} {below : List Frame} {meth : Method} {c : Code} {D : va_G} {cy : Nat → ClassId} {ad : Nat → Nat} (C : Cx p s m args meth c b_GR_keepsSign 5 (some .boolean) "BoostForests$Grower" D cy ad) {Q : Int32 → gM → Prop} {M : gM} {H : Heap} {locs : List Loc} {ls : Array Slot} (h : wp_GR_keepsSign_27 Q M) (hI : gI D cy ad s M H locs) (hl : lv_has ls 5 []) : W p l e rm_GR_keepsSign s m args below meth c H locs 0 0 (MQ below (va_Qi Q (gB D cy ad) (gA ad s.heap.size)) args s 0 0 (gA ad s.heap.size)) (F0 m 27 ls []) := by
  obtain ⟨hx, hb, hml, hown, hts, hr, hlk, hK, hja⟩ := id C
  refine lv_iconst (v := (0 : Int32)) hx hb d_GR_keepsSign_27 (by decide) ?_
  exact gr_z C hI rfl h d_GR_keepsSign_28
set_option maxHeartbeats 4000000 in
set_option maxRecDepth 100000 in
theorem L_GR_keepsSign_23 {p : Program} {l : Launch} {e : Env} {s : State} {m : MethodId} {args : Array Value} {below : List Frame} {meth : Method} {c : Code} {D : va_G} {cy : Nat → ClassId} {ad : Nat → Nat} (C : Cx p s m args meth c b_GR_keepsSign 5 (some .boolean) "BoostForests$Grower" D cy ad) {Q : Int32 → gM → Prop} {M : gM} {H : Heap} {locs : List Loc} {ls : Array Slot} (h : wp_GR_keepsSign_23 Q M) (hI : gI D cy ad s M H locs) (hl : lv_has ls 5 []) : W p l e rm_GR_keepsSign s m args below meth c H locs 0 0 (MQ below (va_Qi Q (gB D cy ad) (gA ad s.heap.size)) args s 0 0 (gA ad s.heap.size)) (F0 m 23 ls []) := by
  obtain ⟨hx, hb, hml, hown, hts, hr, hlk, hK, hja⟩ := id C
  refine lv_iconst (v := (1 : Int32)) hx hb d_GR_keepsSign_23 (by decide) ?_
  refine lv_goto (tgt := 28) hx hb d_GR_keepsSign_24 (by decide) ?_
  exact gr_z C hI rfl h d_GR_keepsSign_28
set_option maxHeartbeats 4000000 in
set_option maxRecDepth 100000 in
theorem c_GR_keepsSign {l : Launch} {D : va_G} {cy : Nat → ClassId} {ad : Nat → Nat} (hj : gJ ad) {a0 : Int32} {a1 : Int64} {a3 : Int64} {M : gM} {Q : Int32 → gM → Prop} (h : wp_GR_keepsSign Q a0 a1 a3 M) : Ci l y_GR_keepsSign b_GR_keepsSign 5 (some .boolean) rm_GR_keepsSign D cy ad [.int a0, .long a1, .long a3] M Q := by
  refine gm (by decide +kernel) hj (Nat.le_of_ble_eq_true rfl) (fun p e s m args below meth c ls C hl hI => ?_)
  have hl : lv_has ls 5 [(0, .int a0), (1, .long a1), (3, .long a3)] := hl
  obtain ⟨hx, hb, hml, hown, hts, hr, hlk, hK, hja⟩ := id C
  refine lv_iload_n hx hb d_GR_keepsSign_0 rfl (lv_at hl 0 rfl) ?_
  refine lv_if_eq (tgt := 23) hx hb d_GR_keepsSign_1 (by decide) (fun c4 => ?_) (fun c4 => ?_)
  · have h := h.1 c4
    exact L_GR_keepsSign_23 C h hI (lv_sub hl [] rfl)
  · have h := h.2 c4
    refine lv_iload_n hx hb d_GR_keepsSign_4 rfl (lv_at hl 0 rfl) ?_
    refine lv_if_le (tgt := 17) hx hb d_GR_keepsSign_5 (by decide) (fun c3 => ?_) (fun c3 => ?_)
    · have h := h.1 c3
      refine lv_lload_n hx hb d_GR_keepsSign_17 rfl (lv_at hl 1 rfl) ?_
      refine lv_lload_n hx hb d_GR_keepsSign_18 rfl (lv_at hl 2 rfl) ?_
      refine gl_lt (tgt := 27) C d_GR_keepsSign_19 d_GR_keepsSign_20 (by decide) (fun c1 => ?_) (fun c1 => ?_)
      · have h := h.1 c1
        exact L_GR_keepsSign_27 C h hI (lv_sub hl [] rfl)
      · have h := h.2 c1
        exact L_GR_keepsSign_23 C h hI (lv_sub hl [] rfl)
    · have h := h.2 c3
      refine lv_lload_n hx hb d_GR_keepsSign_8 rfl (lv_at hl 1 rfl) ?_
      refine lv_lload_n hx hb d_GR_keepsSign_9 rfl (lv_at hl 2 rfl) ?_
      refine gl_gt (tgt := 27) C d_GR_keepsSign_10 d_GR_keepsSign_11 (by decide) (fun c2 => ?_) (fun c2 => ?_)
      · have h := h.1 c2
        exact L_GR_keepsSign_27 C h hI (lv_sub hl [] rfl)
      · have h := h.2 c2
        refine lv_goto (tgt := 23) hx hb d_GR_keepsSign_14 (by decide) ?_
        exact L_GR_keepsSign_23 C h hI (lv_sub hl [] rfl)
set_option maxHeartbeats 4000000 in
set_option maxRecDepth 100000 in
theorem L_GR_trySplit_23 {p : Program} {l : Launch} {e : Env} {s : State} {m : MethodId} {args : Array Value} {below : List Frame} {meth : Method} {c : Code} {D : va_G} {cy : Nat → ClassId} {ad : Nat → Nat} (C : Cx p s m args meth c b_GR_trySplit 7 none "BoostForests$Grower" D cy ad) {Q : gM → Prop} {x1 : Int32} {x2 : Int32} {x3 : Int32} {t0 : Nat} (ht0 : isSM t0) {M : gM} {H : Heap} {locs : List Loc} {ls : Array Slot} (h : wp_GR_trySplit_23 Q x1 x2 x3 t0 M) (hI : gI D cy ad s M H locs) (hl : lv_has ls 7 [(0, .ref (ad 48)), (1, .int x1), (2, .int x2), (3, .int x3)]) : W p l e rm_GR_trySplit s m args below meth c H locs 0 0 (MQ below (va_Qv Q (gB D cy ad) (gA ad s.heap.size)) args s 0 0 (gA ad s.heap.size)) (F0 m 23 ls [.ref (ad t0), .ref (ad 104), .ref (ad 105)]) := by
  obtain ⟨hx, hb, hml, hown, hts, hr, hlk, hK, hja⟩ := id C
  refine gw_Vv C hI hl.1 (As := [.ref (ad 104), .ref (ad t0)]) (rest := []) (c_SM_becomeSum hja isSM_105 isSM_104 ht0 h) kV_GR_148 isSM_105 rfl rfl ⟨rfl, rfl⟩ ⟨Nat.le_of_ble_eq_true rfl, Nat.le_of_ble_eq_true rfl⟩ rfl (Nat.le_of_ble_eq_true rfl) ⟨Nat.zero_le _, Nat.zero_le _⟩ d_GR_trySplit_23 (fun M2 H locs h hI => ?_)
  refine lv_aload_n hx hb d_GR_trySplit_26 rfl (lv_at hl 0 rfl) ?_
  refine gw_get (v := .ref (ad 106)) C hI lay_48 i_GR rfl 9 (by decide) kw_1_139 rfl rfl d_GR_trySplit_27 ?_
  refine lv_aload_n hx hb d_GR_trySplit_30 rfl (lv_at hl 0 rfl) ?_
  refine gw_get (v := .ref (ad 102)) C hI lay_48 i_GR rfl 5 (by decide) kw_1_135 rfl rfl d_GR_trySplit_31 ?_
  refine lv_aload_n hx hb d_GR_trySplit_34 rfl (lv_at hl 0 rfl) ?_
  refine gw_get (v := .ref (ad 105)) C hI lay_48 i_GR rfl 8 (by decide) kw_1_138 rfl rfl d_GR_trySplit_35 ?_
  refine gw_Vv C hI hl.1 (As := [.ref (ad 102), .ref (ad 105)]) (rest := []) (c_SM_becomeRest hja isSM_106 isSM_102 isSM_105 h) kV_GR_152 isSM_106 rfl rfl ⟨rfl, rfl⟩ ⟨Nat.le_of_ble_eq_true rfl, Nat.le_of_ble_eq_true rfl⟩ rfl (Nat.le_of_ble_eq_true rfl) ⟨Nat.zero_le _, Nat.zero_le _⟩ d_GR_trySplit_38 (fun M4 H locs h hI => ?_)
  refine lv_aload_n hx hb d_GR_trySplit_41 rfl (lv_at hl 0 rfl) ?_
  refine gw_get (v := .ref (ad 105)) C hI lay_48 i_GR rfl 8 (by decide) kw_1_138 rfl rfl d_GR_trySplit_42 ?_
  refine gw_get (v := .int (M4.1 105 0)) C hI isSM_105 i_SM rfl 0 (by decide) kw_1_90 rfl rfl d_GR_trySplit_45 ?_
  refine lv_aload_n hx hb d_GR_trySplit_48 rfl (lv_at hl 0 rfl) ?_
  refine gw_get (v := .ref (ad 94)) C hI lay_48 i_GR rfl 1 (by decide) kw_1_130 rfl rfl d_GR_trySplit_49 ?_
  refine lv_iconst (v := (1 : Int32)) hx hb d_GR_trySplit_52 (by decide) ?_
  refine gw_iald C hI lay_94 (j := 1) (by decide) (v := M4.1 94 1) rfl (vi_lit (1 : Int32) 15 (by decide)) d_GR_trySplit_53 ?_
  refine lv_icmp_lt (tgt := 73) hx hb d_GR_trySplit_54 (by decide) (fun c23 => ?_) (fun c23 => ?_)
  · have h := h.1 c23
    exact gr_v C hI h d_GR_trySplit_73
  · have h := h.2 c23
    refine lv_aload_n hx hb d_GR_trySplit_57 rfl (lv_at hl 0 rfl) ?_
    refine gw_get (v := .ref (ad 106)) C hI lay_48 i_GR rfl 9 (by decide) kw_1_139 rfl rfl d_GR_trySplit_58 ?_
    refine gw_get (v := .int (M4.1 106 0)) C hI isSM_106 i_SM rfl 0 (by decide) kw_1_90 rfl rfl d_GR_trySplit_61 ?_
    refine lv_aload_n hx hb d_GR_trySplit_64 rfl (lv_at hl 0 rfl) ?_
    refine gw_get (v := .ref (ad 94)) C hI lay_48 i_GR rfl 1 (by decide) kw_1_130 rfl rfl d_GR_trySplit_65 ?_
    refine lv_iconst (v := (1 : Int32)) hx hb d_GR_trySplit_68 (by decide) ?_
    refine gw_iald C hI lay_94 (j := 1) (by decide) (v := M4.1 94 1) rfl (vi_lit (1 : Int32) 15 (by decide)) d_GR_trySplit_69 ?_
    refine lv_icmp_ge (tgt := 74) hx hb d_GR_trySplit_70 (by decide) (fun c22 => ?_) (fun c22 => ?_)
    · have h := h.1 c22
      refine lv_aload_n hx hb d_GR_trySplit_74 rfl (lv_at hl 0 rfl) ?_
      refine gw_get (v := .ref (ad 94)) C hI lay_48 i_GR rfl 1 (by decide) kw_1_130 rfl rfl d_GR_trySplit_75 ?_
      refine lv_iconst (v := (2 : Int32)) hx hb d_GR_trySplit_78 (by decide) ?_
      refine gw_iald C hI lay_94 (j := 2) (by decide) (v := M4.1 94 2) rfl (vi_lit (2 : Int32) 15 (by decide)) d_GR_trySplit_79 ?_
      refine lv_istore (lv' := [(4, .int (M4.1 94 2)), (0, .ref (ad 48)), (1, .int x1), (2, .int x2), (3, .int x3)]) hx hb d_GR_trySplit_80 hl (by decide) rfl (fun ls hl => ?_)
      refine lv_aload_n hx hb d_GR_trySplit_82 rfl (lv_at hl 1 rfl) ?_
      refine gw_get (v := .ref (ad 105)) C hI lay_48 i_GR rfl 8 (by decide) kw_1_138 rfl rfl d_GR_trySplit_83 ?_
      refine lv_iload hx hb d_GR_trySplit_86 (lv_at hl 0 rfl) ?_
      refine gw_Vl C hI hl.1 (As := [.int (M4.1 94 2)]) (rest := []) (c_SM_worthWith hja isSM_105 h) kV_GR_155 isSM_105 rfl rfl ⟨rfl, rfl⟩ ⟨Nat.le_of_ble_eq_true rfl, Nat.le_of_ble_eq_true rfl⟩ rfl (Nat.le_of_ble_eq_true rfl) ⟨Nat.zero_le _, Nat.zero_le _⟩ d_GR_trySplit_88 (fun r5 M6 H locs h hI => ?_)
      refine lv_aload_n hx hb d_GR_trySplit_91 rfl (lv_at hl 1 rfl) ?_
      refine gw_get (v := .ref (ad 106)) C hI lay_48 i_GR rfl 9 (by decide) kw_1_139 rfl rfl d_GR_trySplit_92 ?_
      refine lv_iload hx hb d_GR_trySplit_95 (lv_at hl 0 rfl) ?_
      refine gw_Vl C hI hl.1 (As := [.int (M4.1 94 2)]) (rest := [.long r5]) (c_SM_worthWith hja isSM_106 h) kV_GR_155 isSM_106 rfl rfl ⟨rfl, rfl⟩ ⟨Nat.le_of_ble_eq_true rfl, Nat.le_of_ble_eq_true rfl⟩ rfl (Nat.le_of_ble_eq_true rfl) ⟨Nat.zero_le _, Nat.zero_le _⟩ d_GR_trySplit_97 (fun r7 M8 H locs h hI => ?_)
      refine lv_ladd hx hb d_GR_trySplit_100 ?_
      refine lv_aload_n hx hb d_GR_trySplit_101 rfl (lv_at hl 1 rfl) ?_
      refine gw_get (v := .ref (ad 102)) C hI lay_48 i_GR rfl 5 (by decide) kw_1_135 rfl rfl d_GR_trySplit_102 ?_
      refine lv_iload hx hb d_GR_trySplit_105 (lv_at hl 0 rfl) ?_
      refine gw_Vl C hI hl.1 (As := [.int (M4.1 94 2)]) (rest := [.long (r5 + r7)]) (c_SM_worthWith hja isSM_102 h) kV_GR_155 isSM_102 rfl rfl ⟨rfl, rfl⟩ ⟨Nat.le_of_ble_eq_true rfl, Nat.le_of_ble_eq_true rfl⟩ rfl (Nat.le_of_ble_eq_true rfl) ⟨Nat.zero_le _, Nat.zero_le _⟩ d_GR_trySplit_107 (fun r9 M10 H locs h hI => ?_)
      refine lv_lsub hx hb d_GR_trySplit_110 ?_
      refine lv_lstore (lv' := [(5, .long ((r5 + r7) - r9)), (4, .int (M4.1 94 2)), (0, .ref (ad 48)), (1, .int x1), (2, .int x2), (3, .int x3)]) hx hb d_GR_trySplit_111 hl (by decide) rfl (fun ls hl => ?_)
      refine lv_lload hx hb d_GR_trySplit_113 (lv_at hl 0 rfl) ?_
      refine lv_aload_n hx hb d_GR_trySplit_115 rfl (lv_at hl 2 rfl) ?_
      refine gw_get (v := .ref (ad 108)) C hI lay_48 i_GR rfl 11 (by decide) kw_1_141 rfl rfl d_GR_trySplit_116 ?_
      refine gw_get (v := .long (M10.2 108 3)) C hI lay_108 i_SP rfl 3 (by decide) kw_1_118 rfl rfl d_GR_trySplit_119 ?_
      refine gl_le (tgt := 171) C d_GR_trySplit_122 d_GR_trySplit_123 (by decide) (fun c21 => ?_) (fun c21 => ?_)
      · have h := h.1 c21
        exact gr_v C hI h d_GR_trySplit_171
      · have h := h.2 c21
        refine lv_aload_n hx hb d_GR_trySplit_126 rfl (lv_at hl 2 rfl) ?_
        refine gw_get (v := .ref (ad 94)) C hI lay_48 i_GR rfl 1 (by decide) kw_1_130 rfl rfl d_GR_trySplit_127 ?_
        refine lv_bipush (v := (11 : Int32)) hx hb d_GR_trySplit_130 (by decide) ?_
        refine lv_iload_n hx hb d_GR_trySplit_132 rfl (lv_at hl 3 rfl) ?_
        refine lv_iadd hx hb d_GR_trySplit_133 ?_
        obtain ⟨g11, h⟩ := h
        refine gw_iald C hI lay_94 (j := ((11 : Int32) + x1).toNatClampNeg) rfl (v := M10.1 94 (((11 : Int32) + x1).toNatClampNeg)) rfl g11 d_GR_trySplit_134 ?_
        refine lv_aload_n hx hb d_GR_trySplit_135 rfl (lv_at hl 2 rfl) ?_
        refine gw_get (v := .ref (ad 105)) C hI lay_48 i_GR rfl 8 (by decide) kw_1_138 rfl rfl d_GR_trySplit_136 ?_
        refine lv_iload hx hb d_GR_trySplit_139 (lv_at hl 1 rfl) ?_
        refine gw_Vl C hI hl.1 (As := [.int (M4.1 94 2)]) (rest := [.int (M10.1 94 (((11 : Int32) + x1).toNatClampNeg))]) (c_SM_valueWith hja isSM_105 h) kV_GR_163 isSM_105 rfl rfl ⟨rfl, rfl⟩ ⟨Nat.le_of_ble_eq_true rfl, Nat.le_of_ble_eq_true rfl⟩ rfl (Nat.le_of_ble_eq_true rfl) ⟨Nat.zero_le _, Nat.zero_le _⟩ d_GR_trySplit_141 (fun r12 M13 H locs h hI => ?_)
        refine lv_aload_n hx hb d_GR_trySplit_144 rfl (lv_at hl 2 rfl) ?_
        refine gw_get (v := .ref (ad 106)) C hI lay_48 i_GR rfl 9 (by decide) kw_1_139 rfl rfl d_GR_trySplit_145 ?_
        refine lv_iload hx hb d_GR_trySplit_148 (lv_at hl 1 rfl) ?_
        refine gw_Vl C hI hl.1 (As := [.int (M4.1 94 2)]) (rest := [.long r12, .int (M10.1 94 (((11 : Int32) + x1).toNatClampNeg))]) (c_SM_valueWith hja isSM_106 h) kV_GR_163 isSM_106 rfl rfl ⟨rfl, rfl⟩ ⟨Nat.le_of_ble_eq_true rfl, Nat.le_of_ble_eq_true rfl⟩ rfl (Nat.le_of_ble_eq_true rfl) ⟨Nat.zero_le _, Nat.zero_le _⟩ d_GR_trySplit_150 (fun r14 M15 H locs h hI => ?_)
        refine gw_Si C hI hl.1 (As := [.int (M10.1 94 (((11 : Int32) + x1).toNatClampNeg)), .long r12, .long r14]) (rest := []) (c_GR_keepsSign hja h) kS_GR_166 rfl ⟨rfl, rfl⟩ ⟨Nat.le_of_ble_eq_true rfl, Nat.le_of_ble_eq_true rfl⟩ rfl (Nat.le_of_ble_eq_true rfl) ⟨Nat.zero_le _, Nat.zero_le _⟩ d_GR_trySplit_153 (fun r16 M17 H locs h hI => ?_)
        refine lv_if_eq (tgt := 171) hx hb d_GR_trySplit_156 (by decide) (fun c20 => ?_) (fun c20 => ?_)
        · have h := h.1 c20
          exact gr_v C hI h d_GR_trySplit_171
        · have h := h.2 c20
          refine lv_aload_n hx hb d_GR_trySplit_159 rfl (lv_at hl 2 rfl) ?_
          refine gw_get (v := .ref (ad 108)) C hI lay_48 i_GR rfl 11 (by decide) kw_1_141 rfl rfl d_GR_trySplit_160 ?_
          refine lv_iload_n hx hb d_GR_trySplit_163 rfl (lv_at hl 3 rfl) ?_
          refine lv_iload_n hx hb d_GR_trySplit_164 rfl (lv_at hl 4 rfl) ?_
          refine lv_iload_n hx hb d_GR_trySplit_165 rfl (lv_at hl 5 rfl) ?_
          refine lv_lload hx hb d_GR_trySplit_166 (lv_at hl 0 rfl) ?_
          refine gw_Vv C hI hl.1 (As := [.int x1, .int x2, .int x3, .long ((r5 + r7) - r9)]) (rest := []) (c_SP_become hja h) kV_GR_170 lay_108 rfl rfl ⟨rfl, rfl⟩ ⟨Nat.le_of_ble_eq_true rfl, Nat.le_of_ble_eq_true rfl⟩ rfl (Nat.le_of_ble_eq_true rfl) ⟨Nat.zero_le _, Nat.zero_le _⟩ d_GR_trySplit_168 (fun M19 H locs h hI => ?_)
          exact gr_v C hI h d_GR_trySplit_171
    · have h := h.2 c22
      exact gr_v C hI h d_GR_trySplit_73
set_option maxHeartbeats 4000000 in
set_option maxRecDepth 100000 in
theorem c_GR_trySplit {l : Launch} {D : va_G} {cy : Nat → ClassId} {ad : Nat → Nat} (hj : gJ ad) {a1 : Int32} {a2 : Int32} {a3 : Int32} {M : gM} {Q : gM → Prop} (h : wp_GR_trySplit Q a1 a2 a3 M) : Cv l y_GR_trySplit b_GR_trySplit 7 none rm_GR_trySplit D cy ad [.ref (ad 48), .int a1, .int a2, .int a3] M Q := by
  refine gm (by decide +kernel) hj (Nat.le_of_ble_eq_true rfl) (fun p e s m args below meth c ls C hl hI => ?_)
  have hl : lv_has ls 7 [(0, .ref (ad 48)), (1, .int a1), (2, .int a2), (3, .int a3)] := hl
  obtain ⟨hx, hb, hml, hown, hts, hr, hlk, hK, hja⟩ := id C
  refine lv_aload_n hx hb d_GR_trySplit_0 rfl (lv_at hl 0 rfl) ?_
  refine gw_get (v := .ref (ad 105)) C hI lay_48 i_GR rfl 8 (by decide) kw_1_138 rfl rfl d_GR_trySplit_1 ?_
  refine lv_aload_n hx hb d_GR_trySplit_4 rfl (lv_at hl 0 rfl) ?_
  refine gw_get (v := .ref (ad 104)) C hI lay_48 i_GR rfl 7 (by decide) kw_1_137 rfl rfl d_GR_trySplit_5 ?_
  refine lv_iload_n hx hb d_GR_trySplit_8 rfl (lv_at hl 3 rfl) ?_
  refine lv_if_ne (tgt := 19) hx hb d_GR_trySplit_9 (by decide) (fun c24 => ?_) (fun c24 => ?_)
  · have h := h.1 c24
    refine lv_aload_n hx hb d_GR_trySplit_19 rfl (lv_at hl 0 rfl) ?_
    refine gw_get (v := .ref (ad 107)) C hI lay_48 i_GR rfl 10 (by decide) kw_1_140 rfl rfl d_GR_trySplit_20 ?_
    exact L_GR_trySplit_23 C isSM_107 h hI (lv_sub hl [0, 1, 2, 3] rfl)
  · have h := h.2 c24
    refine lv_aload_n hx hb d_GR_trySplit_12 rfl (lv_at hl 0 rfl) ?_
    refine gw_get (v := .ref (ad 103)) C hI lay_48 i_GR rfl 6 (by decide) kw_1_136 rfl rfl d_GR_trySplit_13 ?_
    refine lv_goto (tgt := 23) hx hb d_GR_trySplit_16 (by decide) ?_
    exact L_GR_trySplit_23 C isSM_103 h hI (lv_sub hl [0, 1, 2, 3] rfl)
set_option maxHeartbeats 4000000 in
set_option maxRecDepth 100000 in
theorem L_GR_tryColumn_142 {p : Program} {l : Launch} {e : Env} {s : State} {m : MethodId} {args : Array Value} {below : List Frame} {meth : Method} {c : Code} {D : va_G} {cy : Nat → ClassId} {ad : Nat → Nat} (C : Cx p s m args meth c b_GR_tryColumn 7 none "BoostForests$Grower" D cy ad) {Q : gM → Prop} {x1 : Int32} {x2 : Int32} {x3 : Int32} {x4 : Int32} {k19 : Int32 → Int32 → Int32 → Int32 → gM → Prop} {M : gM} {H : Heap} {locs : List Loc} {ls : Array Slot} (K19 : ∀ (x1 : Int32) (x2 : Int32) (x3 : Int32) (x4 : Int32) (M : gM) (H : Heap) (locs : List Loc) (ls : Array Slot), k19 x1 x2 x3 x4 M → gI D cy ad s M H locs → lv_has ls 7 [(0, .ref (ad 48)), (1, .int x1), (2, .int x2), (3, .int x3), (4, .int x4)] → W p l e rm_GR_tryColumn s m args below meth c H locs 0 0 (MQ below (va_Qv Q (gB D cy ad) (gA ad s.heap.size)) args s 0 0 (gA ad s.heap.size)) (F0 m 19 ls [])) (h : wp_GR_tryColumn_142 Q k19 x1 x2 x3 x4 M) (hI : gI D cy ad s M H locs) (hl : lv_has ls 7 [(0, .ref (ad 48)), (1, .int x1), (2, .int x2), (3, .int x3), (4, .int x4)]) : W p l e rm_GR_tryColumn s m args below meth c H locs 0 0 (MQ below (va_Qv Q (gB D cy ad) (gA ad s.heap.size)) args s 0 0 (gA ad s.heap.size)) (F0 m 142 ls []) := by
  obtain ⟨hx, hb, hml, hown, hts, hr, hlk, hK, hja⟩ := id C
  refine lv_iinc (v := x4 + 1) (lv' := [(4, .int (x4 + 1)), (0, .ref (ad 48)), (1, .int x1), (2, .int x2), (3, .int x3)]) hx hb d_GR_tryColumn_142 hl (k := 4) rfl rfl (by decide) rfl (fun ls hl => ?_)
  refine lv_goto (tgt := 19) hx hb d_GR_tryColumn_145 (by decide) ?_
  exact K19 x1 x2 x3 (x4 + 1) M _ _ _ h hI (lv_sub hl [1, 2, 3, 4, 0] rfl)
set_option maxHeartbeats 4000000 in
set_option maxRecDepth 100000 in
theorem L_GR_tryColumn_119 {p : Program} {l : Launch} {e : Env} {s : State} {m : MethodId} {args : Array Value} {below : List Frame} {meth : Method} {c : Code} {D : va_G} {cy : Nat → ClassId} {ad : Nat → Nat} (C : Cx p s m args meth c b_GR_tryColumn 7 none "BoostForests$Grower" D cy ad) {Q : gM → Prop} {x1 : Int32} {x2 : Int32} {x4 : Int32} {x5 : Int32} {x6 : Int32} {t0 : Nat} (ht0 : isSM t0) {k19 : Int32 → Int32 → Int32 → Int32 → gM → Prop} {M : gM} {H : Heap} {locs : List Loc} {ls : Array Slot} (K19 : ∀ (x1 : Int32) (x2 : Int32) (x3 : Int32) (x4 : Int32) (M : gM) (H : Heap) (locs : List Loc) (ls : Array Slot), k19 x1 x2 x3 x4 M → gI D cy ad s M H locs → lv_has ls 7 [(0, .ref (ad 48)), (1, .int x1), (2, .int x2), (3, .int x3), (4, .int x4)] → W p l e rm_GR_tryColumn s m args below meth c H locs 0 0 (MQ below (va_Qv Q (gB D cy ad) (gA ad s.heap.size)) args s 0 0 (gA ad s.heap.size)) (F0 m 19 ls [])) (h : wp_GR_tryColumn_119 Q k19 x1 x2 x4 x5 x6 t0 M) (hI : gI D cy ad s M H locs) (hl : lv_has ls 7 [(0, .ref (ad 48)), (1, .int x1), (2, .int x2), (4, .int x4), (5, .int x5), (6, .int x6)]) : W p l e rm_GR_tryColumn s m args below meth c H locs 0 0 (MQ below (va_Qv Q (gB D cy ad) (gA ad s.heap.size)) args s 0 0 (gA ad s.heap.size)) (F0 m 119 ls [.ref (ad t0)]) := by
  obtain ⟨hx, hb, hml, hown, hts, hr, hlk, hK, hja⟩ := id C
  refine lv_aload_n hx hb d_GR_tryColumn_119 rfl (lv_at hl 0 rfl) ?_
  refine gw_get (v := .ref (ad 101)) C hI lay_48 i_GR rfl 4 (by decide) kw_1_134 rfl rfl d_GR_tryColumn_120 ?_
  refine lv_iload hx hb d_GR_tryColumn_123 (lv_at hl 4 rfl) ?_
  obtain ⟨g1, h⟩ := h
  refine gw_lald C hI lay_101 (j := x5.toNatClampNeg) rfl (v := M.2 101 x5.toNatClampNeg) rfl g1 d_GR_tryColumn_125 ?_
  refine lv_aload_n hx hb d_GR_tryColumn_126 rfl (lv_at hl 0 rfl) ?_
  refine gw_get (v := .ref (ad 49)) C hI lay_48 i_GR rfl 0 (by decide) kw_1_128 rfl rfl d_GR_tryColumn_127 ?_
  refine gw_get (v := .ref (ad 92)) C hI isTB_49.1 i_TB rfl 2 (by decide) kw_1_35 rfl rfl d_GR_tryColumn_130 ?_
  refine lv_iload hx hb d_GR_tryColumn_133 (lv_at hl 4 rfl) ?_
  refine gw_iald C hI isTB_49.2.2.2.2.1 (j := x5.toNatClampNeg) rfl (v := M.1 92 x5.toNatClampNeg) rfl g1 d_GR_tryColumn_135 ?_
  refine gw_Vv C hI hl.1 (As := [.long (M.2 101 x5.toNatClampNeg), .int (M.1 92 x5.toNatClampNeg)]) (rest := []) (c_SM_addRow hja ht0 h) kV_GR_126 ht0 rfl rfl ⟨rfl, rfl⟩ ⟨Nat.le_of_ble_eq_true rfl, Nat.le_of_ble_eq_true rfl⟩ rfl (Nat.le_of_ble_eq_true rfl) ⟨Nat.zero_le _, Nat.zero_le _⟩ d_GR_tryColumn_136 (fun M3 H locs h hI => ?_)
  refine lv_iload hx hb d_GR_tryColumn_139 (lv_at hl 5 rfl) ?_
  refine lv_istore_n (lv' := [(3, .int x6), (0, .ref (ad 48)), (1, .int x1), (2, .int x2), (4, .int x4), (5, .int x5), (6, .int x6)]) hx hb d_GR_tryColumn_141 rfl hl (by decide) rfl (fun ls hl => ?_)
  exact L_GR_tryColumn_142 C K19 h hI (lv_sub hl [1, 2, 3, 0, 4] rfl)
set_option maxHeartbeats 4000000 in
set_option maxRecDepth 100000 in
theorem L_GR_tryColumn_102 {p : Program} {l : Launch} {e : Env} {s : State} {m : MethodId} {args : Array Value} {below : List Frame} {meth : Method} {c : Code} {D : va_G} {cy : Nat → ClassId} {ad : Nat → Nat} (C : Cx p s m args meth c b_GR_tryColumn 7 none "BoostForests$Grower" D cy ad) {Q : gM → Prop} {x1 : Int32} {x2 : Int32} {x4 : Int32} {x5 : Int32} {x6 : Int32} {k19 : Int32 → Int32 → Int32 → Int32 → gM → Prop} {M : gM} {H : Heap} {locs : List Loc} {ls : Array Slot} (K19 : ∀ (x1 : Int32) (x2 : Int32) (x3 : Int32) (x4 : Int32) (M : gM) (H : Heap) (locs : List Loc) (ls : Array Slot), k19 x1 x2 x3 x4 M → gI D cy ad s M H locs → lv_has ls 7 [(0, .ref (ad 48)), (1, .int x1), (2, .int x2), (3, .int x3), (4, .int x4)] → W p l e rm_GR_tryColumn s m args below meth c H locs 0 0 (MQ below (va_Qv Q (gB D cy ad) (gA ad s.heap.size)) args s 0 0 (gA ad s.heap.size)) (F0 m 19 ls [])) (h : wp_GR_tryColumn_102 Q k19 x1 x2 x4 x5 x6 M) (hI : gI D cy ad s M H locs) (hl : lv_has ls 7 [(0, .ref (ad 48)), (1, .int x1), (2, .int x2), (4, .int x4), (5, .int x5), (6, .int x6)]) : W p l e rm_GR_tryColumn s m args below meth c H locs 0 0 (MQ below (va_Qv Q (gB D cy ad) (gA ad s.heap.size)) args s 0 0 (gA ad s.heap.size)) (F0 m 102 ls []) := by
  obtain ⟨hx, hb, hml, hown, hts, hr, hlk, hK, hja⟩ := id C
  refine lv_iload hx hb d_GR_tryColumn_102 (lv_at hl 5 rfl) ?_
  refine lv_iconst (v := (-1 : Int32)) hx hb d_GR_tryColumn_104 (by decide) ?_
  refine lv_icmp_ne (tgt := 115) hx hb d_GR_tryColumn_105 (by decide) (fun c4 => ?_) (fun c4 => ?_)
  · have h := h.1 c4
    refine lv_aload_n hx hb d_GR_tryColumn_115 rfl (lv_at hl 0 rfl) ?_
    refine gw_get (v := .ref (ad 104)) C hI lay_48 i_GR rfl 7 (by decide) kw_1_137 rfl rfl d_GR_tryColumn_116 ?_
    exact L_GR_tryColumn_119 C isSM_104 K19 h hI (lv_sub hl [0, 1, 2, 3, 4, 5] rfl)
  · have h := h.2 c4
    refine lv_aload_n hx hb d_GR_tryColumn_108 rfl (lv_at hl 0 rfl) ?_
    refine gw_get (v := .ref (ad 103)) C hI lay_48 i_GR rfl 6 (by decide) kw_1_136 rfl rfl d_GR_tryColumn_109 ?_
    refine lv_goto (tgt := 119) hx hb d_GR_tryColumn_112 (by decide) ?_
    exact L_GR_tryColumn_119 C isSM_103 K19 h hI (lv_sub hl [0, 1, 2, 3, 4, 5] rfl)
set_option maxHeartbeats 4000000 in
set_option maxRecDepth 100000 in
theorem L_GR_tryColumn_19 {p : Program} {l : Launch} {e : Env} {s : State} {m : MethodId} {args : Array Value} {below : List Frame} {meth : Method} {c : Code} {D : va_G} {cy : Nat → ClassId} {ad : Nat → Nat} (C : Cx p s m args meth c b_GR_tryColumn 7 none "BoostForests$Grower" D cy ad) {Q : gM → Prop} (n : Nat) : ∀ (x1 : Int32) (x2 : Int32) (x3 : Int32) (x4 : Int32) (M : gM) (H : Heap) (locs : List Loc) (ls : Array Slot), wp_GR_tryColumn_19 Q n x1 x2 x3 x4 M → gI D cy ad s M H locs → lv_has ls 7 [(0, .ref (ad 48)), (1, .int x1), (2, .int x2), (3, .int x3), (4, .int x4)] → W p l e rm_GR_tryColumn s m args below meth c H locs 0 0 (MQ below (va_Qv Q (gB D cy ad) (gA ad s.heap.size)) args s 0 0 (gA ad s.heap.size)) (F0 m 19 ls []) := by
  obtain ⟨hx, hb, hml, hown, hts, hr, hlk, hK, hja⟩ := id C
  induction n with
  | zero => exact fun _ _ _ _ _ _ _ _ h _ _ => h.elim
  | succ n ih =>
    intro x1 x2 x3 x4 M H locs ls h hI hl
    have h := h
    refine lv_iload hx hb d_GR_tryColumn_19 (lv_at hl 4 rfl) ?_
    refine lv_aload_n hx hb d_GR_tryColumn_21 rfl (lv_at hl 0 rfl) ?_
    refine gw_get (v := .ref (ad 49)) C hI lay_48 i_GR rfl 0 (by decide) kw_1_128 rfl rfl d_GR_tryColumn_22 ?_
    refine gw_get (v := .int (M.1 49 4)) C hI isTB_49.1 i_TB rfl 4 (by decide) kw_1_42 rfl rfl d_GR_tryColumn_25 ?_
    refine lv_icmp_ge (tgt := 148) hx hb d_GR_tryColumn_28 (by decide) (fun c16 => ?_) (fun c16 => ?_)
    · have h := h.1 c16
      exact gr_v C hI h d_GR_tryColumn_148
    · have h := h.2 c16
      refine lv_aload_n hx hb d_GR_tryColumn_31 rfl (lv_at hl 0 rfl) ?_
      refine gw_get (v := .ref (ad 95)) C hI lay_48 i_GR rfl 2 (by decide) kw_1_132 rfl rfl d_GR_tryColumn_32 ?_
      refine lv_iload_n hx hb d_GR_tryColumn_35 rfl (lv_at hl 2 rfl) ?_
      obtain ⟨g5, h⟩ := h
      refine gw_aald C hI lay_95 rfl rfl (j := x2.toNatClampNeg) rfl (k' := 96 + x2.toNatClampNeg) (by omega) g5 d_GR_tryColumn_36 ?_
      refine lv_iload hx hb d_GR_tryColumn_37 (lv_at hl 4 rfl) ?_
      obtain ⟨g6, h⟩ := h
      refine gw_iald C hI (lay_order _ (vi_lt g5)) (j := x4.toNatClampNeg) rfl (v := M.1 (96 + x2.toNatClampNeg) x4.toNatClampNeg) rfl g6 d_GR_tryColumn_39 ?_
      refine lv_istore (lv' := [(5, .int (M.1 (96 + x2.toNatClampNeg) x4.toNatClampNeg)), (0, .ref (ad 48)), (1, .int x1), (2, .int x2), (3, .int x3), (4, .int x4)]) hx hb d_GR_tryColumn_40 hl (by decide) rfl (fun ls hl => ?_)
      refine lv_aload_n hx hb d_GR_tryColumn_42 rfl (lv_at hl 1 rfl) ?_
      refine gw_get (v := .ref (ad 100)) C hI lay_48 i_GR rfl 3 (by decide) kw_1_133 rfl rfl d_GR_tryColumn_43 ?_
      refine lv_iload hx hb d_GR_tryColumn_46 (lv_at hl 0 rfl) ?_
      obtain ⟨g7, h⟩ := h
      refine gw_iald C hI lay_100 (j := (M.1 (96 + x2.toNatClampNeg) x4.toNatClampNeg).toNatClampNeg) rfl (v := M.1 100 ((M.1 (96 + x2.toNatClampNeg) x4.toNatClampNeg).toNatClampNeg)) rfl g7 d_GR_tryColumn_48 ?_
      refine lv_iload_n hx hb d_GR_tryColumn_49 rfl (lv_at hl 2 rfl) ?_
      refine lv_icmp_ne (tgt := 142) hx hb d_GR_tryColumn_50 (by decide) (fun c15 => ?_) (fun c15 => ?_)
      · have h := h.1 c15
        exact L_GR_tryColumn_142 C ih h hI (lv_sub hl [1, 2, 3, 4, 5] rfl)
      · have h := h.2 c15
        refine lv_aload_n hx hb d_GR_tryColumn_53 rfl (lv_at hl 1 rfl) ?_
        refine gw_get (v := .ref (ad 49)) C hI lay_48 i_GR rfl 0 (by decide) kw_1_128 rfl rfl d_GR_tryColumn_54 ?_
        refine gw_get (v := .ref (ad 50)) C hI isTB_49.1 i_TB rfl 0 (by decide) kw_1_29 rfl rfl d_GR_tryColumn_57 ?_
        refine lv_iload hx hb d_GR_tryColumn_60 (lv_at hl 0 rfl) ?_
        refine gw_aald C hI isTB_49.2.1 rfl rfl (j := (M.1 (96 + x2.toNatClampNeg) x4.toNatClampNeg).toNatClampNeg) rfl (k' := 51 + ((M.1 (96 + x2.toNatClampNeg) x4.toNatClampNeg).toNatClampNeg)) (by omega) g7 d_GR_tryColumn_62 ?_
        refine lv_iload_n hx hb d_GR_tryColumn_63 rfl (lv_at hl 3 rfl) ?_
        refine gw_iald C hI (isTB_49.2.2.1 _ (vi_lt g7)) (j := x2.toNatClampNeg) rfl (v := M.1 (51 + ((M.1 (96 + x2.toNatClampNeg) x4.toNatClampNeg).toNatClampNeg)) x2.toNatClampNeg) rfl g5 d_GR_tryColumn_64 ?_
        refine lv_istore (lv' := [(6, .int (M.1 (51 + ((M.1 (96 + x2.toNatClampNeg) x4.toNatClampNeg).toNatClampNeg)) x2.toNatClampNeg)), (5, .int (M.1 (96 + x2.toNatClampNeg) x4.toNatClampNeg)), (0, .ref (ad 48)), (1, .int x1), (2, .int x2), (3, .int x3), (4, .int x4)]) hx hb d_GR_tryColumn_65 hl (by decide) rfl (fun ls hl => ?_)
        refine lv_iload_n hx hb d_GR_tryColumn_67 rfl (lv_at hl 5 rfl) ?_
        refine lv_iconst (v := (-1 : Int32)) hx hb d_GR_tryColumn_68 (by decide) ?_
        refine lv_icmp_eq (tgt := 102) hx hb d_GR_tryColumn_69 (by decide) (fun c14 => ?_) (fun c14 => ?_)
        · have h := h.1 c14
          exact L_GR_tryColumn_102 C ih h hI (lv_sub hl [2, 3, 4, 6, 1, 0] rfl)
        · have h := h.2 c14
          refine lv_iload hx hb d_GR_tryColumn_72 (lv_at hl 0 rfl) ?_
          refine lv_iload_n hx hb d_GR_tryColumn_74 rfl (lv_at hl 5 rfl) ?_
          refine lv_icmp_le (tgt := 102) hx hb d_GR_tryColumn_75 (by decide) (fun c13 => ?_) (fun c13 => ?_)
          · have h := h.1 c13
            exact L_GR_tryColumn_102 C ih h hI (lv_sub hl [2, 3, 4, 6, 1, 0] rfl)
          · have h := h.2 c13
            refine lv_aload_n hx hb d_GR_tryColumn_78 rfl (lv_at hl 2 rfl) ?_
            refine lv_iload_n hx hb d_GR_tryColumn_79 rfl (lv_at hl 4 rfl) ?_
            refine lv_iload_n hx hb d_GR_tryColumn_80 rfl (lv_at hl 5 rfl) ?_
            refine lv_iconst (v := (0 : Int32)) hx hb d_GR_tryColumn_81 (by decide) ?_
            refine gw_Vv C hI hl.1 (As := [.int x2, .int x3, .int (0 : Int32)]) (rest := []) (c_GR_trySplit hja h) kV_GR_142 lay_48 rfl rfl ⟨rfl, rfl⟩ ⟨Nat.le_of_ble_eq_true rfl, Nat.le_of_ble_eq_true rfl⟩ rfl (Nat.le_of_ble_eq_true rfl) ⟨Nat.zero_le _, Nat.zero_le _⟩ d_GR_tryColumn_82 (fun M9 H locs h hI => ?_)
            refine lv_aload_n hx hb d_GR_tryColumn_85 rfl (lv_at hl 2 rfl) ?_
            refine gw_get (v := .ref (ad 103)) C hI lay_48 i_GR rfl 6 (by decide) kw_1_136 rfl rfl d_GR_tryColumn_86 ?_
            refine gw_get (v := .int (M9.1 103 0)) C hI isSM_103 i_SM rfl 0 (by decide) kw_1_90 rfl rfl d_GR_tryColumn_89 ?_
            refine lv_if_le (tgt := 102) hx hb d_GR_tryColumn_92 (by decide) (fun c12 => ?_) (fun c12 => ?_)
            · have h := h.1 c12
              exact L_GR_tryColumn_102 C ih h hI (lv_sub hl [2, 3, 4, 6, 1, 0] rfl)
            · have h := h.2 c12
              refine lv_aload_n hx hb d_GR_tryColumn_95 rfl (lv_at hl 2 rfl) ?_
              refine lv_iload_n hx hb d_GR_tryColumn_96 rfl (lv_at hl 4 rfl) ?_
              refine lv_iload_n hx hb d_GR_tryColumn_97 rfl (lv_at hl 5 rfl) ?_
              refine lv_iconst (v := (1 : Int32)) hx hb d_GR_tryColumn_98 (by decide) ?_
              refine gw_Vv C hI hl.1 (As := [.int x2, .int x3, .int (1 : Int32)]) (rest := []) (c_GR_trySplit hja h) kV_GR_142 lay_48 rfl rfl ⟨rfl, rfl⟩ ⟨Nat.le_of_ble_eq_true rfl, Nat.le_of_ble_eq_true rfl⟩ rfl (Nat.le_of_ble_eq_true rfl) ⟨Nat.zero_le _, Nat.zero_le _⟩ d_GR_tryColumn_99 (fun M11 H locs h hI => ?_)
              exact L_GR_tryColumn_102 C ih h hI (lv_sub hl [2, 3, 4, 6, 1, 0] rfl)
set_option maxHeartbeats 4000000 in
set_option maxRecDepth 100000 in
theorem c_GR_tryColumn {l : Launch} {D : va_G} {cy : Nat → ClassId} {ad : Nat → Nat} (hj : gJ ad) {a1 : Int32} {a2 : Int32} {M : gM} {Q : gM → Prop} (h : wp_GR_tryColumn Q a1 a2 M) : Cv l y_GR_tryColumn b_GR_tryColumn 7 none rm_GR_tryColumn D cy ad [.ref (ad 48), .int a1, .int a2] M Q := by
  refine gm (by decide +kernel) hj (Nat.le_of_ble_eq_true rfl) (fun p e s m args below meth c ls C hl hI => ?_)
  have hl : lv_has ls 7 [(0, .ref (ad 48)), (1, .int a1), (2, .int a2)] := hl
  obtain ⟨hx, hb, hml, hown, hts, hr, hlk, hK, hja⟩ := id C
  refine lv_aload_n hx hb d_GR_tryColumn_0 rfl (lv_at hl 0 rfl) ?_
  refine gw_get (v := .ref (ad 103)) C hI lay_48 i_GR rfl 6 (by decide) kw_1_136 rfl rfl d_GR_tryColumn_1 ?_
  refine gw_Vv C hI hl.1 (As := []) (rest := []) (c_SM_empty hja isSM_103 h) kV_GR_123 isSM_103 rfl rfl ⟨rfl, rfl⟩ ⟨Nat.le_of_ble_eq_true rfl, Nat.le_of_ble_eq_true rfl⟩ rfl (Nat.le_of_ble_eq_true rfl) ⟨Nat.zero_le _, Nat.zero_le _⟩ d_GR_tryColumn_4 (fun M18 H locs h hI => ?_)
  refine lv_aload_n hx hb d_GR_tryColumn_7 rfl (lv_at hl 0 rfl) ?_
  refine gw_get (v := .ref (ad 104)) C hI lay_48 i_GR rfl 7 (by decide) kw_1_137 rfl rfl d_GR_tryColumn_8 ?_
  refine gw_Vv C hI hl.1 (As := []) (rest := []) (c_SM_empty hja isSM_104 h) kV_GR_123 isSM_104 rfl rfl ⟨rfl, rfl⟩ ⟨Nat.le_of_ble_eq_true rfl, Nat.le_of_ble_eq_true rfl⟩ rfl (Nat.le_of_ble_eq_true rfl) ⟨Nat.zero_le _, Nat.zero_le _⟩ d_GR_tryColumn_11 (fun M20 H locs h hI => ?_)
  refine lv_iconst (v := (-1 : Int32)) hx hb d_GR_tryColumn_14 (by decide) ?_
  refine lv_istore_n (lv' := [(3, .int (-1 : Int32)), (0, .ref (ad 48)), (1, .int a1), (2, .int a2)]) hx hb d_GR_tryColumn_15 rfl hl (by decide) rfl (fun ls hl => ?_)
  refine lv_iconst (v := (0 : Int32)) hx hb d_GR_tryColumn_16 (by decide) ?_
  refine lv_istore (lv' := [(4, .int (0 : Int32)), (3, .int (-1 : Int32)), (0, .ref (ad 48)), (1, .int a1), (2, .int a2)]) hx hb d_GR_tryColumn_17 hl (by decide) rfl (fun ls hl => ?_)
  obtain ⟨n21, h⟩ := h
  exact L_GR_tryColumn_19 C n21 a1 a2 (-1 : Int32) (0 : Int32) M20 _ _ _ h hI (lv_sub hl [2, 3, 4, 1, 0] rfl)
set_option maxHeartbeats 4000000 in
set_option maxRecDepth 100000 in
theorem L_GR_findSplit_49 {p : Program} {l : Launch} {e : Env} {s : State} {m : MethodId} {args : Array Value} {below : List Frame} {meth : Method} {c : Code} {D : va_G} {cy : Nat → ClassId} {ad : Nat → Nat} (C : Cx p s m args meth c b_GR_findSplit 4 none "BoostForests$Grower" D cy ad) {Q : gM → Prop} {x1 : Int32} {x2 : Int32} {x3 : Int32} {k16 : Int32 → Int32 → Int32 → gM → Prop} {M : gM} {H : Heap} {locs : List Loc} {ls : Array Slot} (K16 : ∀ (x1 : Int32) (x2 : Int32) (x3 : Int32) (M : gM) (H : Heap) (locs : List Loc) (ls : Array Slot), k16 x1 x2 x3 M → gI D cy ad s M H locs → lv_has ls 4 [(0, .ref (ad 48)), (1, .int x1), (2, .int x2), (3, .int x3)] → W p l e rm_GR_findSplit s m args below meth c H locs 0 0 (MQ below (va_Qv Q (gB D cy ad) (gA ad s.heap.size)) args s 0 0 (gA ad s.heap.size)) (F0 m 16 ls [])) (h : wp_GR_findSplit_49 Q k16 x1 x2 x3 M) (hI : gI D cy ad s M H locs) (hl : lv_has ls 4 [(0, .ref (ad 48)), (1, .int x1), (2, .int x2), (3, .int x3)]) : W p l e rm_GR_findSplit s m args below meth c H locs 0 0 (MQ below (va_Qv Q (gB D cy ad) (gA ad s.heap.size)) args s 0 0 (gA ad s.heap.size)) (F0 m 49 ls []) := by
  obtain ⟨hx, hb, hml, hown, hts, hr, hlk, hK, hja⟩ := id C
  refine lv_iinc (v := x3 + 1) (lv' := [(3, .int (x3 + 1)), (0, .ref (ad 48)), (1, .int x1), (2, .int x2)]) hx hb d_GR_findSplit_49 hl (k := 3) rfl rfl (by decide) rfl (fun ls hl => ?_)
  refine lv_goto (tgt := 16) hx hb d_GR_findSplit_52 (by decide) ?_
  exact K16 x1 x2 (x3 + 1) M _ _ _ h hI (lv_sub hl [1, 2, 3, 0] rfl)
set_option maxHeartbeats 4000000 in
set_option maxRecDepth 100000 in
theorem L_GR_findSplit_16 {p : Program} {l : Launch} {e : Env} {s : State} {m : MethodId} {args : Array Value} {below : List Frame} {meth : Method} {c : Code} {D : va_G} {cy : Nat → ClassId} {ad : Nat → Nat} (C : Cx p s m args meth c b_GR_findSplit 4 none "BoostForests$Grower" D cy ad) {Q : gM → Prop} (n : Nat) : ∀ (x1 : Int32) (x2 : Int32) (x3 : Int32) (M : gM) (H : Heap) (locs : List Loc) (ls : Array Slot), wp_GR_findSplit_16 Q n x1 x2 x3 M → gI D cy ad s M H locs → lv_has ls 4 [(0, .ref (ad 48)), (1, .int x1), (2, .int x2), (3, .int x3)] → W p l e rm_GR_findSplit s m args below meth c H locs 0 0 (MQ below (va_Qv Q (gB D cy ad) (gA ad s.heap.size)) args s 0 0 (gA ad s.heap.size)) (F0 m 16 ls []) := by
  obtain ⟨hx, hb, hml, hown, hts, hr, hlk, hK, hja⟩ := id C
  induction n with
  | zero => exact fun _ _ _ _ _ _ _ h _ _ => h.elim
  | succ n ih =>
    intro x1 x2 x3 M H locs ls h hI hl
    have h := h
    refine lv_iload_n hx hb d_GR_findSplit_16 rfl (lv_at hl 3 rfl) ?_
    refine lv_iconst (v := (4 : Int32)) hx hb d_GR_findSplit_17 (by decide) ?_
    refine lv_icmp_ge (tgt := 55) hx hb d_GR_findSplit_18 (by decide) (fun c6 => ?_) (fun c6 => ?_)
    · have h := h.1 c6
      exact gr_v C hI h d_GR_findSplit_55
    · have h := h.2 c6
      refine lv_aload_n hx hb d_GR_findSplit_21 rfl (lv_at hl 0 rfl) ?_
      refine lv_ldc hx hb hown (hts _ kw_2_136) d_GR_findSplit_22 ?_
      refine lv_iconst (v := (4 : Int32)) hx hb d_GR_findSplit_24 (by decide) ?_
      refine lv_iload_n hx hb d_GR_findSplit_25 rfl (lv_at hl 2 rfl) ?_
      refine lv_imul hx hb d_GR_findSplit_26 ?_
      refine lv_iadd hx hb d_GR_findSplit_27 ?_
      refine lv_iload_n hx hb d_GR_findSplit_28 rfl (lv_at hl 3 rfl) ?_
      refine lv_iadd hx hb d_GR_findSplit_29 ?_
      refine gw_Vi C hI hl.1 (As := [.int (((100000 : Int32) + ((4 : Int32) * x2)) + x3)]) (rest := []) (c_GR_drawn hja h) kV_GR_113 lay_48 rfl rfl ⟨rfl, rfl⟩ ⟨Nat.le_of_ble_eq_true rfl, Nat.le_of_ble_eq_true rfl⟩ rfl (Nat.le_of_ble_eq_true rfl) ⟨Nat.zero_le _, Nat.zero_le _⟩ d_GR_findSplit_30 (fun r1 M2 H locs h hI => ?_)
      refine lv_aload_n hx hb d_GR_findSplit_33 rfl (lv_at hl 0 rfl) ?_
      refine gw_get (v := .ref (ad 94)) C hI lay_48 i_GR rfl 1 (by decide) kw_1_130 rfl rfl d_GR_findSplit_34 ?_
      refine lv_bipush (v := (7 : Int32)) hx hb d_GR_findSplit_37 (by decide) ?_
      refine gw_iald C hI lay_94 (j := 7) (by decide) (v := M2.1 94 7) rfl (vi_lit (7 : Int32) 15 (by decide)) d_GR_findSplit_39 ?_
      refine lv_icmp_ge (tgt := 49) hx hb d_GR_findSplit_40 (by decide) (fun c5 => ?_) (fun c5 => ?_)
      · have h := h.1 c5
        exact L_GR_findSplit_49 C ih h hI (lv_sub hl [0, 1, 2, 3] rfl)
      · have h := h.2 c5
        refine lv_aload_n hx hb d_GR_findSplit_43 rfl (lv_at hl 0 rfl) ?_
        refine lv_iload_n hx hb d_GR_findSplit_44 rfl (lv_at hl 1 rfl) ?_
        refine lv_iload_n hx hb d_GR_findSplit_45 rfl (lv_at hl 3 rfl) ?_
        refine gw_Vv C hI hl.1 (As := [.int x1, .int x3]) (rest := []) (c_GR_tryColumn hja h) kV_GR_139 lay_48 rfl rfl ⟨rfl, rfl⟩ ⟨Nat.le_of_ble_eq_true rfl, Nat.le_of_ble_eq_true rfl⟩ rfl (Nat.le_of_ble_eq_true rfl) ⟨Nat.zero_le _, Nat.zero_le _⟩ d_GR_findSplit_46 (fun M4 H locs h hI => ?_)
        exact L_GR_findSplit_49 C ih h hI (lv_sub hl [0, 1, 2, 3] rfl)
set_option maxHeartbeats 4000000 in
set_option maxRecDepth 100000 in
theorem c_GR_findSplit {l : Launch} {D : va_G} {cy : Nat → ClassId} {ad : Nat → Nat} (hj : gJ ad) {a1 : Int32} {a2 : Int32} {M : gM} {Q : gM → Prop} (h : wp_GR_findSplit Q a1 a2 M) : Cv l y_GR_findSplit b_GR_findSplit 4 none rm_GR_findSplit D cy ad [.ref (ad 48), .int a1, .int a2] M Q := by
  refine gm (by decide +kernel) hj (Nat.le_of_ble_eq_true rfl) (fun p e s m args below meth c ls C hl hI => ?_)
  have hl : lv_has ls 4 [(0, .ref (ad 48)), (1, .int a1), (2, .int a2)] := hl
  obtain ⟨hx, hb, hml, hown, hts, hr, hlk, hK, hja⟩ := id C
  refine lv_aload_n hx hb d_GR_findSplit_0 rfl (lv_at hl 0 rfl) ?_
  refine gw_get (v := .ref (ad 108)) C hI lay_48 i_GR rfl 11 (by decide) kw_1_141 rfl rfl d_GR_findSplit_1 ?_
  refine lv_aload_n hx hb d_GR_findSplit_4 rfl (lv_at hl 0 rfl) ?_
  refine gw_get (v := .ref (ad 94)) C hI lay_48 i_GR rfl 1 (by decide) kw_1_130 rfl rfl d_GR_findSplit_5 ?_
  refine lv_iconst (v := (5 : Int32)) hx hb d_GR_findSplit_8 (by decide) ?_
  refine gw_iald C hI lay_94 (j := 5) (by decide) (v := M.1 94 5) rfl (vi_lit (5 : Int32) 15 (by decide)) d_GR_findSplit_9 ?_
  refine lv_i2l hx hb d_GR_findSplit_10 rfl ?_
  refine gw_Vv C hI hl.1 (As := [.long ((M.1 94 5).toInt64)]) (rest := []) (c_SP_forget hja h) kV_GR_134 lay_108 rfl rfl ⟨rfl, rfl⟩ ⟨Nat.le_of_ble_eq_true rfl, Nat.le_of_ble_eq_true rfl⟩ rfl (Nat.le_of_ble_eq_true rfl) ⟨Nat.zero_le _, Nat.zero_le _⟩ d_GR_findSplit_11 (fun M8 H locs h hI => ?_)
  refine lv_iconst (v := (0 : Int32)) hx hb d_GR_findSplit_14 (by decide) ?_
  refine lv_istore_n (lv' := [(3, .int (0 : Int32)), (0, .ref (ad 48)), (1, .int a1), (2, .int a2)]) hx hb d_GR_findSplit_15 rfl hl (by decide) rfl (fun ls hl => ?_)
  obtain ⟨n9, h⟩ := h
  exact L_GR_findSplit_16 C n9 a1 a2 (0 : Int32) M8 _ _ _ h hI (lv_sub hl [1, 2, 3, 0] rfl)
set_option maxHeartbeats 4000000 in
set_option maxRecDepth 100000 in
theorem L_GR_moveRows_43 {p : Program} {l : Launch} {e : Env} {s : State} {m : MethodId} {args : Array Value} {below : List Frame} {meth : Method} {c : Code} {D : va_G} {cy : Nat → ClassId} {ad : Nat → Nat} (C : Cx p s m args meth c b_GR_moveRows 4 none "BoostForests$Grower" D cy ad) {Q : gM → Prop} {b1 : Nat} (hb1 : isTR b1) {x2 : Int32} {x3 : Int32} {k2 : Int32 → Int32 → gM → Prop} {M : gM} {H : Heap} {locs : List Loc} {ls : Array Slot} (K2 : ∀ (x2 : Int32) (x3 : Int32) (M : gM) (H : Heap) (locs : List Loc) (ls : Array Slot), k2 x2 x3 M → gI D cy ad s M H locs → lv_has ls 4 [(0, .ref (ad 48)), (1, .ref (ad b1)), (2, .int x2), (3, .int x3)] → W p l e rm_GR_moveRows s m args below meth c H locs 0 0 (MQ below (va_Qv Q (gB D cy ad) (gA ad s.heap.size)) args s 0 0 (gA ad s.heap.size)) (F0 m 2 ls [])) (h : wp_GR_moveRows_43 Q b1 k2 x2 x3 M) (hI : gI D cy ad s M H locs) (hl : lv_has ls 4 [(0, .ref (ad 48)), (1, .ref (ad b1)), (2, .int x2), (3, .int x3)]) : W p l e rm_GR_moveRows s m args below meth c H locs 0 0 (MQ below (va_Qv Q (gB D cy ad) (gA ad s.heap.size)) args s 0 0 (gA ad s.heap.size)) (F0 m 43 ls []) := by
  obtain ⟨hx, hb, hml, hown, hts, hr, hlk, hK, hja⟩ := id C
  refine lv_iinc (v := x3 + 1) (lv' := [(3, .int (x3 + 1)), (0, .ref (ad 48)), (1, .ref (ad b1)), (2, .int x2)]) hx hb d_GR_moveRows_43 hl (k := 3) rfl rfl (by decide) rfl (fun ls hl => ?_)
  refine lv_goto (tgt := 2) hx hb d_GR_moveRows_46 (by decide) ?_
  exact K2 x2 (x3 + 1) M _ _ _ h hI (lv_sub hl [1, 2, 3, 0] rfl)
set_option maxHeartbeats 4000000 in
set_option maxRecDepth 100000 in
theorem L_GR_moveRows_2 {p : Program} {l : Launch} {e : Env} {s : State} {m : MethodId} {args : Array Value} {below : List Frame} {meth : Method} {c : Code} {D : va_G} {cy : Nat → ClassId} {ad : Nat → Nat} (C : Cx p s m args meth c b_GR_moveRows 4 none "BoostForests$Grower" D cy ad) {Q : gM → Prop} {b1 : Nat} (hb1 : isTR b1) (n : Nat) : ∀ (x2 : Int32) (x3 : Int32) (M : gM) (H : Heap) (locs : List Loc) (ls : Array Slot), wp_GR_moveRows_2 Q b1 n x2 x3 M → gI D cy ad s M H locs → lv_has ls 4 [(0, .ref (ad 48)), (1, .ref (ad b1)), (2, .int x2), (3, .int x3)] → W p l e rm_GR_moveRows s m args below meth c H locs 0 0 (MQ below (va_Qv Q (gB D cy ad) (gA ad s.heap.size)) args s 0 0 (gA ad s.heap.size)) (F0 m 2 ls []) := by
  obtain ⟨hx, hb, hml, hown, hts, hr, hlk, hK, hja⟩ := id C
  induction n with
  | zero => exact fun _ _ _ _ _ _ h _ _ => h.elim
  | succ n ih =>
    intro x2 x3 M H locs ls h hI hl
    have h := h
    refine lv_iload_n hx hb d_GR_moveRows_2 rfl (lv_at hl 3 rfl) ?_
    refine lv_aload_n hx hb d_GR_moveRows_3 rfl (lv_at hl 0 rfl) ?_
    refine gw_get (v := .ref (ad 49)) C hI lay_48 i_GR rfl 0 (by decide) kw_1_128 rfl rfl d_GR_moveRows_4 ?_
    refine gw_get (v := .int (M.1 49 4)) C hI isTB_49.1 i_TB rfl 4 (by decide) kw_1_42 rfl rfl d_GR_moveRows_7 ?_
    refine lv_icmp_ge (tgt := 49) hx hb d_GR_moveRows_10 (by decide) (fun c5 => ?_) (fun c5 => ?_)
    · have h := h.1 c5
      exact gr_v C hI h d_GR_moveRows_49
    · have h := h.2 c5
      refine lv_aload_n hx hb d_GR_moveRows_13 rfl (lv_at hl 0 rfl) ?_
      refine gw_get (v := .ref (ad 100)) C hI lay_48 i_GR rfl 3 (by decide) kw_1_133 rfl rfl d_GR_moveRows_14 ?_
      refine lv_iload_n hx hb d_GR_moveRows_17 rfl (lv_at hl 3 rfl) ?_
      obtain ⟨g1, h⟩ := h
      refine gw_iald C hI lay_100 (j := x3.toNatClampNeg) rfl (v := M.1 100 x3.toNatClampNeg) rfl g1 d_GR_moveRows_18 ?_
      refine lv_iload_n hx hb d_GR_moveRows_19 rfl (lv_at hl 2 rfl) ?_
      refine lv_icmp_ne (tgt := 43) hx hb d_GR_moveRows_20 (by decide) (fun c4 => ?_) (fun c4 => ?_)
      · have h := h.1 c4
        exact L_GR_moveRows_43 C hb1 ih h hI (lv_sub hl [0, 1, 2, 3] rfl)
      · have h := h.2 c4
        refine lv_aload_n hx hb d_GR_moveRows_23 rfl (lv_at hl 0 rfl) ?_
        refine gw_get (v := .ref (ad 100)) C hI lay_48 i_GR rfl 3 (by decide) kw_1_133 rfl rfl d_GR_moveRows_24 ?_
        refine lv_iload_n hx hb d_GR_moveRows_27 rfl (lv_at hl 3 rfl) ?_
        refine lv_aload_n hx hb d_GR_moveRows_28 rfl (lv_at hl 1 rfl) ?_
        refine lv_iload_n hx hb d_GR_moveRows_29 rfl (lv_at hl 2 rfl) ?_
        refine lv_aload_n hx hb d_GR_moveRows_30 rfl (lv_at hl 0 rfl) ?_
        refine gw_get (v := .ref (ad 49)) C hI lay_48 i_GR rfl 0 (by decide) kw_1_128 rfl rfl d_GR_moveRows_31 ?_
        refine gw_get (v := .ref (ad 50)) C hI isTB_49.1 i_TB rfl 0 (by decide) kw_1_29 rfl rfl d_GR_moveRows_34 ?_
        refine lv_iload_n hx hb d_GR_moveRows_37 rfl (lv_at hl 3 rfl) ?_
        refine gw_aald C hI isTB_49.2.1 rfl rfl (j := x3.toNatClampNeg) rfl (k' := 51 + x3.toNatClampNeg) (by omega) g1 d_GR_moveRows_38 ?_
        refine gw_Vi C hI hl.1 (As := [.int x2, .ref (ad (51 + x3.toNatClampNeg))]) (rest := [.int x3, .ref (ad 100)]) (c_TR_stepFrom hja hb1 (isTB_49.2.2.1 _ (vi_lt g1)) h) kV_GR_130 hb1.1 rfl rfl ⟨rfl, rfl⟩ ⟨Nat.le_of_ble_eq_true rfl, Nat.le_of_ble_eq_true rfl⟩ rfl (Nat.le_of_ble_eq_true rfl) ⟨Nat.zero_le _, Nat.zero_le _⟩ d_GR_moveRows_39 (fun r2 M3 H locs h hI => ?_)
        refine gw_iast C hI lay_100 (j := x3.toNatClampNeg) rfl g1 d_GR_moveRows_42 (fun H locs hI => ?_)
        exact L_GR_moveRows_43 C hb1 ih h hI (lv_sub hl [0, 1, 2, 3] rfl)
set_option maxHeartbeats 4000000 in
set_option maxRecDepth 100000 in
theorem c_GR_moveRows {l : Launch} {D : va_G} {cy : Nat → ClassId} {ad : Nat → Nat} (hj : gJ ad) {b1 : Nat} (hb1 : isTR b1) {a2 : Int32} {M : gM} {Q : gM → Prop} (h : wp_GR_moveRows Q b1 a2 M) : Cv l y_GR_moveRows b_GR_moveRows 4 none rm_GR_moveRows D cy ad [.ref (ad 48), .ref (ad b1), .int a2] M Q := by
  refine gm (by decide +kernel) hj (Nat.le_of_ble_eq_true rfl) (fun p e s m args below meth c ls C hl hI => ?_)
  have hl : lv_has ls 4 [(0, .ref (ad 48)), (1, .ref (ad b1)), (2, .int a2)] := hl
  obtain ⟨hx, hb, hml, hown, hts, hr, hlk, hK, hja⟩ := id C
  refine lv_iconst (v := (0 : Int32)) hx hb d_GR_moveRows_0 (by decide) ?_
  refine lv_istore_n (lv' := [(3, .int (0 : Int32)), (0, .ref (ad 48)), (1, .ref (ad b1)), (2, .int a2)]) hx hb d_GR_moveRows_1 rfl hl (by decide) rfl (fun ls hl => ?_)
  obtain ⟨n6, h⟩ := h
  exact L_GR_moveRows_2 C hb1 n6 a2 (0 : Int32) M _ _ _ h hI (lv_sub hl [1, 2, 3, 0] rfl)
set_option maxHeartbeats 4000000 in
set_option maxRecDepth 100000 in
theorem L_GR_growTree_107 {p : Program} {l : Launch} {e : Env} {s : State} {m : MethodId} {args : Array Value} {below : List Frame} {meth : Method} {c : Code} {D : va_G} {cy : Nat → ClassId} {ad : Nat → Nat} (C : Cx p s m args meth c b_GR_growTree 5 none "BoostForests$Grower" D cy ad) {Q : gM → Prop} {b1 : Nat} (hb1 : isTR b1) {x2 : Int32} {x4 : Int32} {k19 : Int32 → Int32 → gM → Prop} {M : gM} {H : Heap} {locs : List Loc} {ls : Array Slot} (K19 : ∀ (x2 : Int32) (x4 : Int32) (M : gM) (H : Heap) (locs : List Loc) (ls : Array Slot), k19 x2 x4 M → gI D cy ad s M H locs → lv_has ls 5 [(0, .ref (ad 48)), (1, .ref (ad b1)), (2, .int x2), (4, .int x4)] → W p l e rm_GR_growTree s m args below meth c H locs 0 0 (MQ below (va_Qv Q (gB D cy ad) (gA ad s.heap.size)) args s 0 0 (gA ad s.heap.size)) (F0 m 19 ls [])) (h : wp_GR_growTree_107 Q b1 k19 x2 x4 M) (hI : gI D cy ad s M H locs) (hl : lv_has ls 5 [(0, .ref (ad 48)), (1, .ref (ad b1)), (2, .int x2), (4, .int x4)]) : W p l e rm_GR_growTree s m args below meth c H locs 0 0 (MQ below (va_Qv Q (gB D cy ad) (gA ad s.heap.size)) args s 0 0 (gA ad s.heap.size)) (F0 m 107 ls []) := by
  obtain ⟨hx, hb, hml, hown, hts, hr, hlk, hK, hja⟩ := id C
  refine lv_iinc (v := x4 + 1) (lv' := [(4, .int (x4 + 1)), (0, .ref (ad 48)), (1, .ref (ad b1)), (2, .int x2)]) hx hb d_GR_growTree_107 hl (k := 3) rfl rfl (by decide) rfl (fun ls hl => ?_)
  refine lv_goto (tgt := 19) hx hb d_GR_growTree_110 (by decide) ?_
  exact K19 x2 (x4 + 1) M _ _ _ h hI (lv_sub hl [1, 2, 3, 0] rfl)
set_option maxHeartbeats 4000000 in
set_option maxRecDepth 100000 in
theorem L_GR_growTree_19 {p : Program} {l : Launch} {e : Env} {s : State} {m : MethodId} {args : Array Value} {below : List Frame} {meth : Method} {c : Code} {D : va_G} {cy : Nat → ClassId} {ad : Nat → Nat} (C : Cx p s m args meth c b_GR_growTree 5 none "BoostForests$Grower" D cy ad) {Q : gM → Prop} {b1 : Nat} (hb1 : isTR b1) (n : Nat) : ∀ (x2 : Int32) (x4 : Int32) (M : gM) (H : Heap) (locs : List Loc) (ls : Array Slot), wp_GR_growTree_19 Q b1 n x2 x4 M → gI D cy ad s M H locs → lv_has ls 5 [(0, .ref (ad 48)), (1, .ref (ad b1)), (2, .int x2), (4, .int x4)] → W p l e rm_GR_growTree s m args below meth c H locs 0 0 (MQ below (va_Qv Q (gB D cy ad) (gA ad s.heap.size)) args s 0 0 (gA ad s.heap.size)) (F0 m 19 ls []) := by
  obtain ⟨hx, hb, hml, hown, hts, hr, hlk, hK, hja⟩ := id C
  induction n with
  | zero => exact fun _ _ _ _ _ _ h _ _ => h.elim
  | succ n ih =>
    intro x2 x4 M H locs ls h hI hl
    have h := h
    refine lv_iload hx hb d_GR_growTree_19 (lv_at hl 3 rfl) ?_
    refine lv_aload_n hx hb d_GR_growTree_21 rfl (lv_at hl 1 rfl) ?_
    refine gw_get (v := .int (M.1 b1 2)) C hI hb1.1 i_TR rfl 2 (by decide) kw_1_185 rfl rfl d_GR_growTree_22 ?_
    refine lv_icmp_ge (tgt := 113) hx hb d_GR_growTree_25 (by decide) (fun c16 => ?_) (fun c16 => ?_)
    · have h := h.1 c16
      exact gr_v C hI h d_GR_growTree_113
    · have h := h.2 c16
      refine lv_iload hx hb d_GR_growTree_28 (lv_at hl 3 rfl) ?_
      refine lv_bipush (v := (31 : Int32)) hx hb d_GR_growTree_30 (by decide) ?_
      refine lv_icmp_ge (tgt := 113) hx hb d_GR_growTree_32 (by decide) (fun c15 => ?_) (fun c15 => ?_)
      · have h := h.1 c15
        exact gr_v C hI h d_GR_growTree_113
      · have h := h.2 c15
        refine lv_aload_n hx hb d_GR_growTree_35 rfl (lv_at hl 0 rfl) ?_
        refine lv_iload hx hb d_GR_growTree_36 (lv_at hl 3 rfl) ?_
        refine gw_Vv C hI hl.1 (As := [.int x4]) (rest := []) (c_GR_gatherNode hja h) kV_GR_83 lay_48 rfl rfl ⟨rfl, rfl⟩ ⟨Nat.le_of_ble_eq_true rfl, Nat.le_of_ble_eq_true rfl⟩ rfl (Nat.le_of_ble_eq_true rfl) ⟨Nat.zero_le _, Nat.zero_le _⟩ d_GR_growTree_38 (fun M2 H locs h hI => ?_)
        refine lv_aload_n hx hb d_GR_growTree_41 rfl (lv_at hl 1 rfl) ?_
        refine lv_iload hx hb d_GR_growTree_42 (lv_at hl 3 rfl) ?_
        refine lv_aload_n hx hb d_GR_growTree_44 rfl (lv_at hl 0 rfl) ?_
        refine gw_get (v := .ref (ad 102)) C hI lay_48 i_GR rfl 5 (by decide) kw_1_135 rfl rfl d_GR_growTree_45 ?_
        refine lv_aload_n hx hb d_GR_growTree_48 rfl (lv_at hl 0 rfl) ?_
        refine gw_get (v := .ref (ad 94)) C hI lay_48 i_GR rfl 1 (by decide) kw_1_130 rfl rfl d_GR_growTree_49 ?_
        refine lv_iconst (v := (2 : Int32)) hx hb d_GR_growTree_52 (by decide) ?_
        refine gw_iald C hI lay_94 (j := 2) (by decide) (v := M2.1 94 2) rfl (vi_lit (2 : Int32) 15 (by decide)) d_GR_growTree_53 ?_
        refine gw_Vv C hI hl.1 (As := [.int x4, .ref (ad 102), .int (M2.1 94 2)]) (rest := []) (c_TR_keepSums hja hb1 isSM_102 h) kV_GR_86 hb1.1 rfl rfl ⟨rfl, rfl⟩ ⟨Nat.le_of_ble_eq_true rfl, Nat.le_of_ble_eq_true rfl⟩ rfl (Nat.le_of_ble_eq_true rfl) ⟨Nat.zero_le _, Nat.zero_le _⟩ d_GR_growTree_54 (fun M4 H locs h hI => ?_)
        refine lv_aload_n hx hb d_GR_growTree_57 rfl (lv_at hl 1 rfl) ?_
        refine lv_iload hx hb d_GR_growTree_58 (lv_at hl 3 rfl) ?_
        refine lv_aload_n hx hb d_GR_growTree_60 rfl (lv_at hl 0 rfl) ?_
        refine gw_get (v := .ref (ad 94)) C hI lay_48 i_GR rfl 1 (by decide) kw_1_130 rfl rfl d_GR_growTree_61 ?_
        refine lv_iconst (v := (0 : Int32)) hx hb d_GR_growTree_64 (by decide) ?_
        refine gw_iald C hI lay_94 (j := 0) (by decide) (v := M4.1 94 0) rfl (vi_lit (0 : Int32) 15 (by decide)) d_GR_growTree_65 ?_
        refine gw_Vi C hI hl.1 (As := [.int x4, .int (M4.1 94 0)]) (rest := []) (c_TR_mayDivide hja hb1 h) kV_GR_90 hb1.1 rfl rfl ⟨rfl, rfl⟩ ⟨Nat.le_of_ble_eq_true rfl, Nat.le_of_ble_eq_true rfl⟩ rfl (Nat.le_of_ble_eq_true rfl) ⟨Nat.zero_le _, Nat.zero_le _⟩ d_GR_growTree_66 (fun r5 M6 H locs h hI => ?_)
        refine lv_if_eq (tgt := 107) hx hb d_GR_growTree_69 (by decide) (fun c14 => ?_) (fun c14 => ?_)
        · have h := h.1 c14
          exact L_GR_growTree_107 C hb1 ih h hI (lv_sub hl [0, 1, 2, 3] rfl)
        · have h := h.2 c14
          refine lv_aload_n hx hb d_GR_growTree_72 rfl (lv_at hl 0 rfl) ?_
          refine lv_iload hx hb d_GR_growTree_73 (lv_at hl 3 rfl) ?_
          refine lv_iload_n hx hb d_GR_growTree_75 rfl (lv_at hl 2 rfl) ?_
          refine gw_Vv C hI hl.1 (As := [.int x4, .int x2]) (rest := []) (c_GR_findSplit hja h) kV_GR_94 lay_48 rfl rfl ⟨rfl, rfl⟩ ⟨Nat.le_of_ble_eq_true rfl, Nat.le_of_ble_eq_true rfl⟩ rfl (Nat.le_of_ble_eq_true rfl) ⟨Nat.zero_le _, Nat.zero_le _⟩ d_GR_growTree_76 (fun M8 H locs h hI => ?_)
          refine lv_aload_n hx hb d_GR_growTree_79 rfl (lv_at hl 0 rfl) ?_
          refine gw_get (v := .ref (ad 108)) C hI lay_48 i_GR rfl 11 (by decide) kw_1_141 rfl rfl d_GR_growTree_80 ?_
          refine gw_get (v := .int (M8.1 108 0)) C hI lay_108 i_SP rfl 0 (by decide) kw_1_110 rfl rfl d_GR_growTree_83 ?_
          refine lv_iconst (v := (-1 : Int32)) hx hb d_GR_growTree_86 (by decide) ?_
          refine lv_icmp_eq (tgt := 107) hx hb d_GR_growTree_87 (by decide) (fun c13 => ?_) (fun c13 => ?_)
          · have h := h.1 c13
            exact L_GR_growTree_107 C hb1 ih h hI (lv_sub hl [0, 1, 2, 3] rfl)
          · have h := h.2 c13
            refine lv_aload_n hx hb d_GR_growTree_90 rfl (lv_at hl 1 rfl) ?_
            refine lv_iload hx hb d_GR_growTree_91 (lv_at hl 3 rfl) ?_
            refine lv_aload_n hx hb d_GR_growTree_93 rfl (lv_at hl 0 rfl) ?_
            refine gw_get (v := .ref (ad 108)) C hI lay_48 i_GR rfl 11 (by decide) kw_1_141 rfl rfl d_GR_growTree_94 ?_
            refine gw_Vv C hI hl.1 (As := [.int x4, .ref (ad 108)]) (rest := []) (c_TR_divide hja hb1 h) kV_GR_101 hb1.1 rfl rfl ⟨rfl, rfl⟩ ⟨Nat.le_of_ble_eq_true rfl, Nat.le_of_ble_eq_true rfl⟩ rfl (Nat.le_of_ble_eq_true rfl) ⟨Nat.zero_le _, Nat.zero_le _⟩ d_GR_growTree_97 (fun M10 H locs h hI => ?_)
            refine lv_aload_n hx hb d_GR_growTree_100 rfl (lv_at hl 0 rfl) ?_
            refine lv_aload_n hx hb d_GR_growTree_101 rfl (lv_at hl 1 rfl) ?_
            refine lv_iload hx hb d_GR_growTree_102 (lv_at hl 3 rfl) ?_
            refine gw_Vv C hI hl.1 (As := [.ref (ad b1), .int x4]) (rest := []) (c_GR_moveRows hja hb1 h) kV_GR_105 lay_48 rfl rfl ⟨rfl, rfl⟩ ⟨Nat.le_of_ble_eq_true rfl, Nat.le_of_ble_eq_true rfl⟩ rfl (Nat.le_of_ble_eq_true rfl) ⟨Nat.zero_le _, Nat.zero_le _⟩ d_GR_growTree_104 (fun M12 H locs h hI => ?_)
            exact L_GR_growTree_107 C hb1 ih h hI (lv_sub hl [0, 1, 2, 3] rfl)
set_option maxHeartbeats 4000000 in
set_option maxRecDepth 100000 in
theorem c_GR_growTree {l : Launch} {D : va_G} {cy : Nat → ClassId} {ad : Nat → Nat} (hj : gJ ad) {b1 : Nat} (hb1 : isTR b1) {a2 : Int32} {M : gM} {Q : gM → Prop} (h : wp_GR_growTree Q b1 a2 M) : Cv l y_GR_growTree b_GR_growTree 5 none rm_GR_growTree D cy ad [.ref (ad 48), .ref (ad b1), .int a2, .ref (ad 110)] M Q := by
  refine gm (by decide +kernel) hj (Nat.le_of_ble_eq_true rfl) (fun p e s m args below meth c ls C hl hI => ?_)
  have hl : lv_has ls 5 [(0, .ref (ad 48)), (1, .ref (ad b1)), (2, .int a2), (3, .ref (ad 110))] := hl
  obtain ⟨hx, hb, hml, hown, hts, hr, hlk, hK, hja⟩ := id C
  refine lv_aload_n hx hb d_GR_growTree_0 rfl (lv_at hl 0 rfl) ?_
  refine lv_iload_n hx hb d_GR_growTree_1 rfl (lv_at hl 2 rfl) ?_
  refine lv_aload_n hx hb d_GR_growTree_2 rfl (lv_at hl 3 rfl) ?_
  refine gw_Vv C hI hl.1 (As := [.int a2, .ref (ad 110)]) (rest := []) (c_GR_drawRows hja h) kV_GR_70 lay_48 rfl rfl ⟨rfl, rfl⟩ ⟨Nat.le_of_ble_eq_true rfl, Nat.le_of_ble_eq_true rfl⟩ rfl (Nat.le_of_ble_eq_true rfl) ⟨Nat.zero_le _, Nat.zero_le _⟩ d_GR_growTree_3 (fun M18 H locs h hI => ?_)
  refine lv_aload_n hx hb d_GR_growTree_6 rfl (lv_at hl 1 rfl) ?_
  refine lv_iconst (v := (0 : Int32)) hx hb d_GR_growTree_7 (by decide) ?_
  refine gw_puti C hI hb1.1 i_TR rfl t_TR_ok n_TR 2 (by decide) kw_1_185 rfl rfl rfl rfl rfl d_GR_growTree_8 (fun H locs hI => ?_)
  refine lv_aload_n hx hb d_GR_growTree_11 rfl (lv_at hl 1 rfl) ?_
  refine lv_iconst (v := (0 : Int32)) hx hb d_GR_growTree_12 (by decide) ?_
  refine gw_Vv C hI hl.1 (As := [.int (0 : Int32)]) (rest := []) (c_TR_appendNode hja hb1 h) kV_GR_79 hb1.1 rfl rfl ⟨rfl, rfl⟩ ⟨Nat.le_of_ble_eq_true rfl, Nat.le_of_ble_eq_true rfl⟩ rfl (Nat.le_of_ble_eq_true rfl) ⟨Nat.zero_le _, Nat.zero_le _⟩ d_GR_growTree_13 (fun M20 H locs h hI => ?_)
  refine lv_iconst (v := (0 : Int32)) hx hb d_GR_growTree_16 (by decide) ?_
  refine lv_istore (lv' := [(4, .int (0 : Int32)), (0, .ref (ad 48)), (1, .ref (ad b1)), (2, .int a2), (3, .ref (ad 110))]) hx hb d_GR_growTree_17 hl (by decide) rfl (fun ls hl => ?_)
  obtain ⟨n21, h⟩ := h
  exact L_GR_growTree_19 C hb1 n21 a2 (0 : Int32) M20 _ _ _ h hI (lv_sub hl [1, 2, 3, 0] rfl)
set_option maxHeartbeats 4000000 in
set_option maxRecDepth 100000 in
theorem c_GR_hasDrawn {l : Launch} {D : va_G} {cy : Nat → ClassId} {ad : Nat → Nat} (hj : gJ ad) {a1 : Int32} {M : gM} {Q : Int32 → gM → Prop} (h : wp_GR_hasDrawn Q a1 M) : Ci l y_GR_hasDrawn b_GR_hasDrawn 2 (some .boolean) rm_GR_hasDrawn D cy ad [.ref (ad 48), .int a1] M Q := by
  refine gm (by decide +kernel) hj (Nat.le_of_ble_eq_true rfl) (fun p e s m args below meth c ls C hl hI => ?_)
  have hl : lv_has ls 2 [(0, .ref (ad 48)), (1, .int a1)] := hl
  obtain ⟨hx, hb, hml, hown, hts, hr, hlk, hK, hja⟩ := id C
  refine lv_aload_n hx hb d_GR_hasDrawn_0 rfl (lv_at hl 0 rfl) ?_
  refine gw_get (v := .ref (ad 100)) C hI lay_48 i_GR rfl 3 (by decide) kw_1_133 rfl rfl d_GR_hasDrawn_1 ?_
  refine lv_iload_n hx hb d_GR_hasDrawn_4 rfl (lv_at hl 1 rfl) ?_
  obtain ⟨g1, h⟩ := h
  refine gw_iald C hI lay_100 (j := a1.toNatClampNeg) rfl (v := M.1 100 a1.toNatClampNeg) rfl g1 d_GR_hasDrawn_5 ?_
  refine lv_iconst (v := (-1 : Int32)) hx hb d_GR_hasDrawn_6 (by decide) ?_
  refine lv_icmp_eq (tgt := 14) hx hb d_GR_hasDrawn_7 (by decide) (fun c2 => ?_) (fun c2 => ?_)
  · have h := h.1 c2
    refine lv_iconst (v := (0 : Int32)) hx hb d_GR_hasDrawn_14 (by decide) ?_
    exact gr_z C hI rfl h d_GR_hasDrawn_15
  · have h := h.2 c2
    refine lv_iconst (v := (1 : Int32)) hx hb d_GR_hasDrawn_10 (by decide) ?_
    refine lv_goto (tgt := 15) hx hb d_GR_hasDrawn_11 (by decide) ?_
    exact gr_z C hI rfl h d_GR_hasDrawn_15

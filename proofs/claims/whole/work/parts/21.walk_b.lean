set_option maxHeartbeats 4000000 in
set_option maxRecDepth 100000 in
theorem c_TB_append {l : Launch} {D : va_G} {cy : Nat → ClassId} {ad : Nat → Nat} (hj : gJ ad) {b0 : Nat} {b1 : Nat} (hb0 : isTB b0) (hb1 : lay b1 = .inl (0, 4, 0, 0)) {a2 : Int32} {a3 : Int32} {M : gM} {Q : Int32 → gM → Prop} (h : wp_TB_append Q b0 b1 a2 a3 M) : Ci l y_TB_append b_TB_append 5 (some .int) rm_TB_append D cy ad [.ref (ad b0), .ref (ad b1), .int a2, .int a3] M Q := by
  refine gm (by decide +kernel) hj (Nat.le_of_ble_eq_true rfl) (fun p e s m args below meth c ls C hl hI => ?_)
  have hl : lv_has ls 5 [(0, .ref (ad b0)), (1, .ref (ad b1)), (2, .int a2), (3, .int a3)] := hl
  obtain ⟨hx, hb, hml, hown, hts, hr, hlk, hK, hja⟩ := id C
  refine lv_aload_n hx hb d_TB_append_0 rfl (lv_at hl 0 rfl) ?_
  refine gw_get (v := .int (M.1 b0 4)) C hI hb0.1 i_TB rfl 4 (by decide) kw_1_41 rfl rfl d_TB_append_1 ?_
  refine lv_bipush (v := (40 : Int32)) hx hb d_TB_append_4 (by decide) ?_
  refine lv_icmp_lt (tgt := 12) hx hb d_TB_append_6 (by decide) (fun c2 => ?_) (fun c2 => ?_)
  · have h := h.1 c2
    refine lv_aload_n hx hb d_TB_append_12 rfl (lv_at hl 0 rfl) ?_
    refine gw_get (v := .int (M.1 b0 4)) C hI hb0.1 i_TB rfl 4 (by decide) kw_1_41 rfl rfl d_TB_append_13 ?_
    refine lv_istore (lv' := [(4, .int (M.1 b0 4)), (0, .ref (ad b0)), (1, .ref (ad b1)), (2, .int a2), (3, .int a3)]) hx hb d_TB_append_16 hl (by decide) rfl (fun ls hl => ?_)
    refine lv_aload_n hx hb d_TB_append_18 rfl (lv_at hl 2 rfl) ?_
    refine lv_iconst (v := (0 : Int32)) hx hb d_TB_append_19 (by decide) ?_
    refine lv_aload_n hx hb d_TB_append_20 rfl (lv_at hl 1 rfl) ?_
    refine gw_get (v := .ref (ad (b0 + 1))) C hI hb0.1 i_TB rfl 0 (by decide) kw_1_28 rfl rfl d_TB_append_21 ?_
    refine lv_iload hx hb d_TB_append_24 (lv_at hl 0 rfl) ?_
    obtain ⟨g1, h⟩ := h
    refine gw_aald C hI hb0.2.1 rfl rfl (j := (M.1 b0 4).toNatClampNeg) rfl (k' := b0 + 2 + ((M.1 b0 4).toNatClampNeg)) (by omega) g1 d_TB_append_26 ?_
    refine lv_iconst (v := (0 : Int32)) hx hb d_TB_append_27 (by decide) ?_
    refine lv_iconst (v := (4 : Int32)) hx hb d_TB_append_28 (by decide) ?_
    refine gw_copy C hI hl.1 kw_2_23 kw_2_25 kw_2_24 kw_1_9 hb1 (hb0.2.2.1 _ (vi_lt g1)) (sp' := 0) (dp' := 0) (n' := 4) (by decide) (by decide) (by decide) (by decide) (by decide) (by decide) (by decide) (by decide) (Nat.le_of_ble_eq_true rfl) (Nat.le_of_ble_eq_true rfl) d_TB_append_29 (fun H locs hI => ?_)
    refine lv_aload_n hx hb d_TB_append_32 rfl (lv_at hl 1 rfl) ?_
    refine gw_get (v := .ref (ad (b0 + 42))) C hI hb0.1 i_TB rfl 1 (by decide) kw_1_31 rfl rfl d_TB_append_33 ?_
    refine lv_iload hx hb d_TB_append_36 (lv_at hl 0 rfl) ?_
    refine lv_iload_n hx hb d_TB_append_38 rfl (lv_at hl 3 rfl) ?_
    refine gw_iast C hI hb0.2.2.2.1 (j := (M.1 b0 4).toNatClampNeg) rfl g1 d_TB_append_39 (fun H locs hI => ?_)
    refine lv_aload_n hx hb d_TB_append_40 rfl (lv_at hl 1 rfl) ?_
    refine gw_get (v := .ref (ad (b0 + 43))) C hI hb0.1 i_TB rfl 2 (by decide) kw_1_34 rfl rfl d_TB_append_41 ?_
    refine lv_iload hx hb d_TB_append_44 (lv_at hl 0 rfl) ?_
    refine lv_iload_n hx hb d_TB_append_46 rfl (lv_at hl 4 rfl) ?_
    refine gw_iast C hI hb0.2.2.2.2.1 (j := (M.1 b0 4).toNatClampNeg) rfl g1 d_TB_append_47 (fun H locs hI => ?_)
    refine lv_aload_n hx hb d_TB_append_48 rfl (lv_at hl 1 rfl) ?_
    refine gw_get (v := .ref (ad (b0 + 44))) C hI hb0.1 i_TB rfl 3 (by decide) kw_1_37 rfl rfl d_TB_append_49 ?_
    refine lv_iload hx hb d_TB_append_52 (lv_at hl 0 rfl) ?_
    refine lv_iconst (v := (0 : Int32)) hx hb d_TB_append_54 (by decide) ?_
    refine gw_zast C hI hb0.2.2.2.2.2 (j := (M.1 b0 4).toNatClampNeg) rfl g1 d_TB_append_55 (fun H locs hI => ?_)
    refine lv_aload_n hx hb d_TB_append_56 rfl (lv_at hl 1 rfl) ?_
    refine lv_iload hx hb d_TB_append_57 (lv_at hl 0 rfl) ?_
    refine lv_iconst (v := (1 : Int32)) hx hb d_TB_append_59 (by decide) ?_
    refine lv_iadd hx hb d_TB_append_60 ?_
    refine gw_puti C hI hb0.1 i_TB rfl t_TB_ok n_TB 4 (by decide) kw_1_41 rfl rfl rfl rfl rfl d_TB_append_61 (fun H locs hI => ?_)
    refine lv_iload hx hb d_TB_append_64 (lv_at hl 0 rfl) ?_
    exact gr_i C hI h d_TB_append_66
  · have h := h.2 c2
    refine lv_bipush (v := (-2 : Int32)) hx hb d_TB_append_9 (by decide) ?_
    exact gr_i C hI h d_TB_append_11
set_option maxHeartbeats 4000000 in
set_option maxRecDepth 100000 in
theorem L_TB_heldRows_24 {p : Program} {l : Launch} {e : Env} {s : State} {m : MethodId} {args : Array Value} {below : List Frame} {meth : Method} {c : Code} {D : va_G} {cy : Nat → ClassId} {ad : Nat → Nat} (C : Cx p s m args meth c b_TB_heldRows 3 (some .int) "BoostForests$Table" D cy ad) {Q : Int32 → gM → Prop} {b0 : Nat} (hb0 : isTB b0) {x1 : Int32} {x2 : Int32} {k4 : Int32 → Int32 → gM → Prop} {M : gM} {H : Heap} {locs : List Loc} {ls : Array Slot} (K4 : ∀ (x1 : Int32) (x2 : Int32) (M : gM) (H : Heap) (locs : List Loc) (ls : Array Slot), k4 x1 x2 M → gI D cy ad s M H locs → lv_has ls 3 [(0, .ref (ad b0)), (1, .int x1), (2, .int x2)] → W p l e rm_TB_heldRows s m args below meth c H locs 0 0 (MQ below (va_Qi Q (gB D cy ad) (gA ad s.heap.size)) args s 0 0 (gA ad s.heap.size)) (F0 m 4 ls [])) (h : wp_TB_heldRows_24 Q b0 k4 x1 x2 M) (hI : gI D cy ad s M H locs) (hl : lv_has ls 3 [(0, .ref (ad b0)), (1, .int x1), (2, .int x2)]) : W p l e rm_TB_heldRows s m args below meth c H locs 0 0 (MQ below (va_Qi Q (gB D cy ad) (gA ad s.heap.size)) args s 0 0 (gA ad s.heap.size)) (F0 m 24 ls []) := by
  obtain ⟨hx, hb, hml, hown, hts, hr, hlk, hK, hja⟩ := id C
  refine lv_iinc (v := x2 + 1) (lv' := [(2, .int (x2 + 1)), (0, .ref (ad b0)), (1, .int x1)]) hx hb d_TB_heldRows_24 hl (k := 2) rfl rfl (by decide) rfl (fun ls hl => ?_)
  refine lv_goto (tgt := 4) hx hb d_TB_heldRows_27 (by decide) ?_
  exact K4 x1 (x2 + 1) M _ _ _ h hI (lv_sub hl [1, 2, 0] rfl)
set_option maxHeartbeats 4000000 in
set_option maxRecDepth 100000 in
theorem L_TB_heldRows_4 {p : Program} {l : Launch} {e : Env} {s : State} {m : MethodId} {args : Array Value} {below : List Frame} {meth : Method} {c : Code} {D : va_G} {cy : Nat → ClassId} {ad : Nat → Nat} (C : Cx p s m args meth c b_TB_heldRows 3 (some .int) "BoostForests$Table" D cy ad) {Q : Int32 → gM → Prop} {b0 : Nat} (hb0 : isTB b0) (n : Nat) : ∀ (x1 : Int32) (x2 : Int32) (M : gM) (H : Heap) (locs : List Loc) (ls : Array Slot), wp_TB_heldRows_4 Q b0 n x1 x2 M → gI D cy ad s M H locs → lv_has ls 3 [(0, .ref (ad b0)), (1, .int x1), (2, .int x2)] → W p l e rm_TB_heldRows s m args below meth c H locs 0 0 (MQ below (va_Qi Q (gB D cy ad) (gA ad s.heap.size)) args s 0 0 (gA ad s.heap.size)) (F0 m 4 ls []) := by
  obtain ⟨hx, hb, hml, hown, hts, hr, hlk, hK, hja⟩ := id C
  induction n with
  | zero => exact fun _ _ _ _ _ _ h _ _ => h.elim
  | succ n ih =>
    intro x1 x2 M H locs ls h hI hl
    have h := h
    refine lv_iload_n hx hb d_TB_heldRows_4 rfl (lv_at hl 2 rfl) ?_
    refine lv_aload_n hx hb d_TB_heldRows_5 rfl (lv_at hl 0 rfl) ?_
    refine gw_get (v := .int (M.1 b0 4)) C hI hb0.1 i_TB rfl 4 (by decide) kw_1_41 rfl rfl d_TB_heldRows_6 ?_
    refine lv_icmp_ge (tgt := 30) hx hb d_TB_heldRows_9 (by decide) (fun c3 => ?_) (fun c3 => ?_)
    · have h := h.1 c3
      refine lv_iload_n hx hb d_TB_heldRows_30 rfl (lv_at hl 1 rfl) ?_
      exact gr_i C hI h d_TB_heldRows_31
    · have h := h.2 c3
      refine lv_aload_n hx hb d_TB_heldRows_12 rfl (lv_at hl 0 rfl) ?_
      refine gw_get (v := .ref (ad (b0 + 44))) C hI hb0.1 i_TB rfl 3 (by decide) kw_1_37 rfl rfl d_TB_heldRows_13 ?_
      refine lv_iload_n hx hb d_TB_heldRows_16 rfl (lv_at hl 2 rfl) ?_
      obtain ⟨g1, h⟩ := h
      refine gw_zald C hI hb0.2.2.2.2.2 (j := x2.toNatClampNeg) rfl (v := M.1 (b0 + 44) x2.toNatClampNeg) rfl g1 d_TB_heldRows_17 ?_
      refine lv_if_eq (tgt := 24) hx hb d_TB_heldRows_18 (by decide) (fun c2 => ?_) (fun c2 => ?_)
      · have h := h.1 c2
        exact L_TB_heldRows_24 C hb0 ih h hI (lv_sub hl [0, 1, 2] rfl)
      · have h := h.2 c2
        refine lv_iinc (v := x1 + 1) (lv' := [(1, .int (x1 + 1)), (0, .ref (ad b0)), (2, .int x2)]) hx hb d_TB_heldRows_21 hl (k := 1) rfl rfl (by decide) rfl (fun ls hl => ?_)
        exact L_TB_heldRows_24 C hb0 ih h hI (lv_sub hl [1, 0, 2] rfl)
set_option maxHeartbeats 4000000 in
set_option maxRecDepth 100000 in
theorem c_TB_heldRows {l : Launch} {D : va_G} {cy : Nat → ClassId} {ad : Nat → Nat} (hj : gJ ad) {b0 : Nat} (hb0 : isTB b0) {M : gM} {Q : Int32 → gM → Prop} (h : wp_TB_heldRows Q b0 M) : Ci l y_TB_heldRows b_TB_heldRows 3 (some .int) rm_TB_heldRows D cy ad [.ref (ad b0)] M Q := by
  refine gm (by decide +kernel) hj (Nat.le_of_ble_eq_true rfl) (fun p e s m args below meth c ls C hl hI => ?_)
  have hl : lv_has ls 3 [(0, .ref (ad b0))] := hl
  obtain ⟨hx, hb, hml, hown, hts, hr, hlk, hK, hja⟩ := id C
  refine lv_iconst (v := (0 : Int32)) hx hb d_TB_heldRows_0 (by decide) ?_
  refine lv_istore_n (lv' := [(1, .int (0 : Int32)), (0, .ref (ad b0))]) hx hb d_TB_heldRows_1 rfl hl (by decide) rfl (fun ls hl => ?_)
  refine lv_iconst (v := (0 : Int32)) hx hb d_TB_heldRows_2 (by decide) ?_
  refine lv_istore_n (lv' := [(2, .int (0 : Int32)), (1, .int (0 : Int32)), (0, .ref (ad b0))]) hx hb d_TB_heldRows_3 rfl hl (by decide) rfl (fun ls hl => ?_)
  obtain ⟨n4, h⟩ := h
  exact L_TB_heldRows_4 C hb0 n4 (0 : Int32) (0 : Int32) M _ _ _ h hI (lv_sub hl [2, 1, 0] rfl)
set_option maxHeartbeats 4000000 in
set_option maxRecDepth 100000 in
theorem L_TB_copyFrom_7 {p : Program} {l : Launch} {e : Env} {s : State} {m : MethodId} {args : Array Value} {below : List Frame} {meth : Method} {c : Code} {D : va_G} {cy : Nat → ClassId} {ad : Nat → Nat} (C : Cx p s m args meth c b_TB_copyFrom 3 none "BoostForests$Table" D cy ad) {Q : gM → Prop} {b0 : Nat} {b1 : Nat} (hb0 : isTB b0) (hb1 : isTB b1) (n : Nat) : ∀ (x2 : Int32) (M : gM) (H : Heap) (locs : List Loc) (ls : Array Slot), wp_TB_copyFrom_7 Q b0 b1 n x2 M → gI D cy ad s M H locs → lv_has ls 3 [(0, .ref (ad b0)), (1, .ref (ad b1)), (2, .int x2)] → W p l e rm_TB_copyFrom s m args below meth c H locs 0 0 (MQ below (va_Qv Q (gB D cy ad) (gA ad s.heap.size)) args s 0 0 (gA ad s.heap.size)) (F0 m 7 ls []) := by
  obtain ⟨hx, hb, hml, hown, hts, hr, hlk, hK, hja⟩ := id C
  induction n with
  | zero => exact fun _ _ _ _ _ h _ _ => h.elim
  | succ n ih =>
    intro x2 M H locs ls h hI hl
    have h := h
    refine lv_iload_n hx hb d_TB_copyFrom_7 rfl (lv_at hl 2 rfl) ?_
    refine lv_aload_n hx hb d_TB_copyFrom_8 rfl (lv_at hl 1 rfl) ?_
    refine gw_get (v := .int (M.1 b1 4)) C hI hb1.1 i_TB rfl 4 (by decide) kw_1_41 rfl rfl d_TB_copyFrom_9 ?_
    refine lv_icmp_ge (tgt := 56) hx hb d_TB_copyFrom_12 (by decide) (fun c4 => ?_) (fun c4 => ?_)
    · have h := h.1 c4
      exact gr_v C hI h d_TB_copyFrom_56
    · have h := h.2 c4
      refine lv_aload_n hx hb d_TB_copyFrom_15 rfl (lv_at hl 0 rfl) ?_
      refine lv_aload_n hx hb d_TB_copyFrom_16 rfl (lv_at hl 1 rfl) ?_
      refine gw_get (v := .ref (ad (b1 + 1))) C hI hb1.1 i_TB rfl 0 (by decide) kw_1_28 rfl rfl d_TB_copyFrom_17 ?_
      refine lv_iload_n hx hb d_TB_copyFrom_20 rfl (lv_at hl 2 rfl) ?_
      obtain ⟨g1, h⟩ := h
      refine gw_aald C hI hb1.2.1 rfl rfl (j := x2.toNatClampNeg) rfl (k' := b1 + 2 + x2.toNatClampNeg) (by omega) g1 d_TB_copyFrom_21 ?_
      refine lv_aload_n hx hb d_TB_copyFrom_22 rfl (lv_at hl 1 rfl) ?_
      refine gw_get (v := .ref (ad (b1 + 42))) C hI hb1.1 i_TB rfl 1 (by decide) kw_1_31 rfl rfl d_TB_copyFrom_23 ?_
      refine lv_iload_n hx hb d_TB_copyFrom_26 rfl (lv_at hl 2 rfl) ?_
      refine gw_iald C hI hb1.2.2.2.1 (j := x2.toNatClampNeg) rfl (v := M.1 (b1 + 42) x2.toNatClampNeg) rfl g1 d_TB_copyFrom_27 ?_
      refine lv_aload_n hx hb d_TB_copyFrom_28 rfl (lv_at hl 1 rfl) ?_
      refine gw_get (v := .ref (ad (b1 + 43))) C hI hb1.1 i_TB rfl 2 (by decide) kw_1_34 rfl rfl d_TB_copyFrom_29 ?_
      refine lv_iload_n hx hb d_TB_copyFrom_32 rfl (lv_at hl 2 rfl) ?_
      refine gw_iald C hI hb1.2.2.2.2.1 (j := x2.toNatClampNeg) rfl (v := M.1 (b1 + 43) x2.toNatClampNeg) rfl g1 d_TB_copyFrom_33 ?_
      refine gw_Vi C hI hl.1 (As := [.ref (ad (b1 + 2 + x2.toNatClampNeg)), .int (M.1 (b1 + 42) x2.toNatClampNeg), .int (M.1 (b1 + 43) x2.toNatClampNeg)]) (rest := []) (c_TB_append hja hb0 (hb1.2.2.1 _ (vi_lt g1)) h) kV_TB_37 hb0.1 rfl rfl ⟨rfl, rfl⟩ ⟨Nat.le_of_ble_eq_true rfl, Nat.le_of_ble_eq_true rfl⟩ rfl (Nat.le_of_ble_eq_true rfl) ⟨Nat.zero_le _, Nat.zero_le _⟩ d_TB_copyFrom_34 (fun r2 M3 H locs h hI => ?_)
      refine lv_pop hx hb d_TB_copyFrom_37 rfl ?_
      refine lv_aload_n hx hb d_TB_copyFrom_38 rfl (lv_at hl 0 rfl) ?_
      refine gw_get (v := .ref (ad (b0 + 44))) C hI hb0.1 i_TB rfl 3 (by decide) kw_1_37 rfl rfl d_TB_copyFrom_39 ?_
      refine lv_iload_n hx hb d_TB_copyFrom_42 rfl (lv_at hl 2 rfl) ?_
      refine lv_aload_n hx hb d_TB_copyFrom_43 rfl (lv_at hl 1 rfl) ?_
      refine gw_get (v := .ref (ad (b1 + 44))) C hI hb1.1 i_TB rfl 3 (by decide) kw_1_37 rfl rfl d_TB_copyFrom_44 ?_
      refine lv_iload_n hx hb d_TB_copyFrom_47 rfl (lv_at hl 2 rfl) ?_
      refine gw_zald C hI hb1.2.2.2.2.2 (j := x2.toNatClampNeg) rfl (v := M3.1 (b1 + 44) x2.toNatClampNeg) rfl g1 d_TB_copyFrom_48 ?_
      refine gw_zast C hI hb0.2.2.2.2.2 (j := x2.toNatClampNeg) rfl g1 d_TB_copyFrom_49 (fun H locs hI => ?_)
      refine lv_iinc (v := x2 + 1) (lv' := [(2, .int (x2 + 1)), (0, .ref (ad b0)), (1, .ref (ad b1))]) hx hb d_TB_copyFrom_50 hl (k := 2) rfl rfl (by decide) rfl (fun ls hl => ?_)
      refine lv_goto (tgt := 7) hx hb d_TB_copyFrom_53 (by decide) ?_
      exact ih (x2 + 1) (wi M3 (b0 + 44) x2.toNatClampNeg (vp_nar .boolean (M3.1 (b1 + 44) x2.toNatClampNeg))) _ _ _ h hI (lv_sub hl [1, 2, 0] rfl)
set_option maxHeartbeats 4000000 in
set_option maxRecDepth 100000 in
theorem c_TB_copyFrom {l : Launch} {D : va_G} {cy : Nat → ClassId} {ad : Nat → Nat} (hj : gJ ad) {b0 : Nat} {b1 : Nat} (hb0 : isTB b0) (hb1 : isTB b1) {M : gM} {Q : gM → Prop} (h : wp_TB_copyFrom Q b0 b1 M) : Cv l y_TB_copyFrom b_TB_copyFrom 3 none rm_TB_copyFrom D cy ad [.ref (ad b0), .ref (ad b1)] M Q := by
  refine gm (by decide +kernel) hj (Nat.le_of_ble_eq_true rfl) (fun p e s m args below meth c ls C hl hI => ?_)
  have hl : lv_has ls 3 [(0, .ref (ad b0)), (1, .ref (ad b1))] := hl
  obtain ⟨hx, hb, hml, hown, hts, hr, hlk, hK, hja⟩ := id C
  refine lv_aload_n hx hb d_TB_copyFrom_0 rfl (lv_at hl 0 rfl) ?_
  refine lv_iconst (v := (0 : Int32)) hx hb d_TB_copyFrom_1 (by decide) ?_
  refine gw_puti C hI hb0.1 i_TB rfl t_TB_ok n_TB 4 (by decide) kw_1_41 rfl rfl rfl rfl rfl d_TB_copyFrom_2 (fun H locs hI => ?_)
  refine lv_iconst (v := (0 : Int32)) hx hb d_TB_copyFrom_5 (by decide) ?_
  refine lv_istore_n (lv' := [(2, .int (0 : Int32)), (0, .ref (ad b0)), (1, .ref (ad b1))]) hx hb d_TB_copyFrom_6 rfl hl (by decide) rfl (fun ls hl => ?_)
  obtain ⟨n5, h⟩ := h
  exact L_TB_copyFrom_7 C hb0 hb1 n5 (0 : Int32) (wi M b0 4 (0 : Int32)) _ _ _ h hI (lv_sub hl [1, 2, 0] rfl)

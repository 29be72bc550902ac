def rz_S : Room := { frames := 1, cells := 0, slots := 0, locals := 12 }
def rz_TB : Room := { frames := 1, cells := 44, slots := 320, locals := 12 }
def rz_TR : Room := { frames := 1, cells := 12, slots := 320, locals := 12 }
def rz_GR : Room := { frames := 2, cells := 60, slots := 1000, locals := 32 }
def rz_TG : Room := { frames := 3, cells := 224, slots := 6000, locals := 52 }
def rz_MD : Room := { frames := 1, cells := 25, slots := 7000, locals := 12 }
abbrev e_TB : List Value := [.null, .null, .null, .null, .int 0]
theorem h_TB : ∀ j, j < 5 → defaultValue (t_TB j) = vp_V e_TB j := by
  intro j hj
  have h : j = 0 ∨ j = 1 ∨ j = 2 ∨ j = 3 ∨ j = 4 := by omega
  rcases h with rfl | rfl | rfl | rfl | rfl <;> rfl
abbrev e_TR : List Value := [.null, .null, .int 0]
theorem h_TR : ∀ j, j < 3 → defaultValue (t_TR j) = vp_V e_TR j := by
  intro j hj
  have h : j = 0 ∨ j = 1 ∨ j = 2 := by omega
  rcases h with rfl | rfl | rfl <;> rfl
abbrev e_GR : List Value := [.null, .null, .null, .null, .null, .null, .null, .null, .null, .null, .null, .null]
theorem h_GR : ∀ j, j < 12 → defaultValue (t_GR j) = vp_V e_GR j := by
  intro j hj
  have h : j = 0 ∨ j = 1 ∨ j = 2 ∨ j = 3 ∨ j = 4 ∨ j = 5 ∨ j = 6 ∨ j = 7 ∨ j = 8 ∨ j = 9 ∨ j = 10 ∨ j = 11 := by omega
  rcases h with rfl | rfl | rfl | rfl | rfl | rfl | rfl | rfl | rfl | rfl | rfl | rfl <;> rfl
abbrev e_TG : List Value := [.null, .null, .null, .null, .null, .null, .null, .null, .int 0, .int 0]
theorem h_TG : ∀ j, j < 10 → defaultValue (t_TG j) = vp_V e_TG j := by
  intro j hj
  have h : j = 0 ∨ j = 1 ∨ j = 2 ∨ j = 3 ∨ j = 4 ∨ j = 5 ∨ j = 6 ∨ j = 7 ∨ j = 8 ∨ j = 9 := by omega
  rcases h with rfl | rfl | rfl | rfl | rfl | rfl | rfl | rfl | rfl | rfl <;> rfl
abbrev e_SM : List Value := [.int 0, .int 0, .long 0]
theorem h_SM : ∀ j, j < 3 → defaultValue (t_SM j) = vp_V e_SM j := by
  intro j hj
  have h : j = 0 ∨ j = 1 ∨ j = 2 := by omega
  rcases h with rfl | rfl | rfl <;> rfl
abbrev e_SP : List Value := [.int 0, .int 0, .int 0, .long 0]
theorem h_SP : ∀ j, j < 4 → defaultValue (t_SP j) = vp_V e_SP j := by
  intro j hj
  have h : j = 0 ∨ j = 1 ∨ j = 2 ∨ j = 3 := by omega
  rcases h with rfl | rfl | rfl | rfl <;> rfl
abbrev e_BF : List Value := [.null, .null, .null, .null]
theorem h_BF : ∀ j, j < 4 → defaultValue (t_BF j) = vp_V e_BF j := by
  intro j hj
  have h : j = 0 ∨ j = 1 ∨ j = 2 ∨ j = 3 := by omega
  rcases h with rfl | rfl | rfl | rfl <;> rfl
abbrev e_MD : List Value := [.int 0, .null, .null, .null, .null, .null, .int 0, .int 0, .null, .null, .null, .null, .null, .null, .int 0, .null, .null, .null, .null, .null, .null, .null, .null, .null, .null, .null, .null, .null, .null, .long 0, .int 0, .int 0]
theorem h_MD : ∀ j, j < 32 → defaultValue (t_MD j) = vp_V e_MD j := by
  intro j hj
  have h : j = 0 ∨ j = 1 ∨ j = 2 ∨ j = 3 ∨ j = 4 ∨ j = 5 ∨ j = 6 ∨ j = 7 ∨ j = 8 ∨ j = 9 ∨ j = 10 ∨ j = 11 ∨ j = 12 ∨ j = 13 ∨ j = 14 ∨ j = 15 ∨ j = 16 ∨ j = 17 ∨ j = 18 ∨ j = 19 ∨ j = 20 ∨ j = 21 ∨ j = 22 ∨ j = 23 ∨ j = 24 ∨ j = 25 ∨ j = 26 ∨ j = 27 ∨ j = 28 ∨ j = 29 ∨ j = 30 ∨ j = 31 := by omega
  rcases h with rfl | rfl | rfl | rfl | rfl | rfl | rfl | rfl | rfl | rfl | rfl | rfl | rfl | rfl | rfl | rfl | rfl | rfl | rfl | rfl | rfl | rfl | rfl | rfl | rfl | rfl | rfl | rfl | rfl | rfl | rfl | rfl <;> rfl
theorem cF_SM {cy : Nat → ClassId} {a0 b : Nat} (h : isSM b) (h1 : b ≠ 46) (h2 : b ≠ 278) : cF cy a0 b = .inr (4, e_SM) := by
  rw [cF_o h]
  show Sum.inr (4, [Value.int (M0.1 b 0), Value.int (M0.1 b 1), Value.long 0]) = _
  rw [M0_z h1 h2]
theorem cF_TB {cy : Nat → ClassId} {a0 b : Nat} (h : isTB b) (h1 : b ≠ 46) (h2 : b ≠ 278) : cF cy a0 b = .inr (1, [.ref (a0 + (b + 1)), .ref (a0 + (b + 42)), .ref (a0 + (b + 43)), .ref (a0 + (b + 44)), .int 0]) := by
  rw [cF_o h.1]
  show Sum.inr (1, [Value.ref (a0 + (b + 1)), Value.ref (a0 + (b + 42)), Value.ref (a0 + (b + 43)), Value.ref (a0 + (b + 44)), Value.int (M0.1 b 4)]) = _
  rw [M0_z h1 h2]
theorem cF_TR {cy : Nat → ClassId} {a0 b : Nat} (h : isTR b) (h1 : b ≠ 46) (h2 : b ≠ 278) : cF cy a0 b = .inr (6, [.ref (a0 + (b + 1)), .ref (a0 + (b + 9)), .int 0]) := by
  rw [cF_o h.1]
  show Sum.inr (6, [Value.ref (a0 + (b + 1)), Value.ref (a0 + (b + 9)), Value.int (M0.1 b 2)]) = _
  rw [M0_z h1 h2]
set_option maxHeartbeats 4000000 in
set_option maxRecDepth 100000 in
theorem c_SM_init {l : Launch} {D : va_G} {cy : Nat → ClassId} {a0 : Nat} {b : Nat} (hb0 : isSM b) (n1 : b ≠ 46) (n2 : b ≠ 278) : CI l y_SM_init b_SM_init 1 rz_S D cy a0 (cF cy a0) (fun _ => True) (.inr (4, e_SM)) b (b + 1) := by
  refine cz_met (by decide +kernel) rfl (Nat.le_of_ble_eq_true rfl) (fun p e s m args below meth c ls C hr hlk hnm hE hl hI => ?_)
  obtain ⟨hx, hb, hml, hown, hts, hK, hE9⟩ := id C
  refine lv_aload_n hx hb d_SM_init_0 rfl (lv_at hl 0 rfl) ?_
  refine cz_obj C hl.1 kw_1_87 (Nat.le_of_ble_eq_true rfl) (Nat.le_of_ble_eq_true rfl) d_SM_init_1 ?_
  have hI := cI_id hI (cF_SM hb0 n1 n2)
  exact cz_ret C hr hlk hI (Nat.le_of_ble_eq_true rfl) (Nat.le_of_ble_eq_true rfl) d_SM_init_4
set_option maxHeartbeats 4000000 in
set_option maxRecDepth 100000 in
theorem c_SP_init {l : Launch} {D : va_G} {cy : Nat → ClassId} {a0 : Nat} : CI l y_SP_init b_SP_init 1 rz_S D cy a0 (cF cy a0) (fun _ => True) (.inr (5, e_SP)) 108 109 := by
  refine cz_met (by decide +kernel) rfl (Nat.le_of_ble_eq_true rfl) (fun p e s m args below meth c ls C hr hlk hnm hE hl hI => ?_)
  obtain ⟨hx, hb, hml, hown, hts, hK, hE9⟩ := id C
  refine lv_aload_n hx hb d_SP_init_0 rfl (lv_at hl 0 rfl) ?_
  refine cz_obj C hl.1 kw_1_108 (Nat.le_of_ble_eq_true rfl) (Nat.le_of_ble_eq_true rfl) d_SP_init_1 ?_
  have hI := cI_id hI (cF_o lay_108)
  exact cz_ret C hr hlk hI (Nat.le_of_ble_eq_true rfl) (Nat.le_of_ble_eq_true rfl) d_SP_init_4
set_option maxHeartbeats 4000000 in
set_option maxRecDepth 100000 in
theorem c_TB_init {l : Launch} {D : va_G} {cy : Nat → ClassId} {a0 : Nat} {b : Nat} (hb0 : isTB b) (hne : ∀ o, o < 45 → b + o ≠ 46 ∧ b + o ≠ 278) : CI l y_TB_init b_TB_init 1 rz_TB D cy a0 (cF cy a0) (fun _ => True) (.inr (1, e_TB)) b (b + 45) := by
  refine cz_met (by decide +kernel) rfl (Nat.le_of_ble_eq_true rfl) (fun p e s m args below meth c ls C hr hlk hnm hE hl hI => ?_)
  obtain ⟨hx, hb, hml, hown, hts, hK, hE9⟩ := id C
  refine lv_aload_n hx hb d_TB_init_0 rfl (lv_at hl 0 rfl) ?_
  refine cz_obj C hl.1 kw_1_25 (Nat.le_of_ble_eq_true rfl) (Nat.le_of_ble_eq_true rfl) d_TB_init_1 ?_
  refine lv_aload_n hx hb d_TB_init_4 rfl (lv_at hl 0 rfl) ?_
  refine lv_bipush (v := (40 : Int32)) hx hb d_TB_init_5 (by decide) ?_
  refine lv_iconst (v := (4 : Int32)) hx hb d_TB_init_7 (by decide) ?_
  refine cz_gridI (hi2 := b + 42) C hI kw_1_26 (by rw [upF_n (by omega)]; exact cF_g (t := 1) hb0.2.1) (fun j hj => by rw [upF_n (by omega)]; exact cF_i (hb0.2.2.1 j hj) (by have := hne (2 + j) (by omega); omega) (by have := hne (2 + j) (by omega); omega)) (by decide) (by decide) (by decide) (by decide) (by decide) (by decide) (by decide) rfl (Nat.le_of_ble_eq_true rfl) (Nat.le_of_ble_eq_true rfl) d_TB_init_8 (fun H hI => ?_)
  refine cz_putT C hnm hI (by omega) i_TB rfl t_TB_ok n_TB 0 (by decide) kw_1_28 rfl rfl rfl (Nat.le_of_ble_eq_true rfl) [.ref (a0 + (b + 1)), .null, .null, .null, .int 0] rfl d_TB_init_12 (fun H locs hI => ?_)
  refine lv_aload_n hx hb d_TB_init_15 rfl (lv_at hl 0 rfl) ?_
  refine lv_bipush (v := (40 : Int32)) hx hb d_TB_init_16 (by decide) ?_
  refine cz_int (hi2 := b + 43) C hI (by rw [upF_n (by omega)]; exact cF_i hb0.2.2.2.1 (hne 42 (by decide)).1 (hne 42 (by decide)).2) (by decide) (by decide) (by decide) rfl (Nat.le_of_ble_eq_true rfl) (Nat.le_of_ble_eq_true rfl) d_TB_init_18 (fun H hI => ?_)
  refine cz_putT C hnm hI (by omega) i_TB rfl t_TB_ok n_TB 1 (by decide) kw_1_31 rfl rfl rfl (Nat.le_of_ble_eq_true rfl) [.ref (a0 + (b + 1)), .ref (a0 + (b + 42)), .null, .null, .int 0] rfl d_TB_init_20 (fun H locs hI => ?_)
  refine lv_aload_n hx hb d_TB_init_23 rfl (lv_at hl 0 rfl) ?_
  refine lv_bipush (v := (40 : Int32)) hx hb d_TB_init_24 (by decide) ?_
  refine cz_int (hi2 := b + 44) C hI (by rw [upF_n (by omega)]; exact cF_i hb0.2.2.2.2.1 (hne 43 (by decide)).1 (hne 43 (by decide)).2) (by decide) (by decide) (by decide) rfl (Nat.le_of_ble_eq_true rfl) (Nat.le_of_ble_eq_true rfl) d_TB_init_26 (fun H hI => ?_)
  refine cz_putT C hnm hI (by omega) i_TB rfl t_TB_ok n_TB 2 (by decide) kw_1_34 rfl rfl rfl (Nat.le_of_ble_eq_true rfl) [.ref (a0 + (b + 1)), .ref (a0 + (b + 42)), .ref (a0 + (b + 43)), .null, .int 0] rfl d_TB_init_28 (fun H locs hI => ?_)
  refine lv_aload_n hx hb d_TB_init_31 rfl (lv_at hl 0 rfl) ?_
  refine lv_bipush (v := (40 : Int32)) hx hb d_TB_init_32 (by decide) ?_
  refine cz_bool (hi2 := b + 45) C hI (by rw [upF_n (by omega)]; exact cF_b hb0.2.2.2.2.2 (hne 44 (by decide)).1 (hne 44 (by decide)).2) (by decide) (by decide) (by decide) rfl (Nat.le_of_ble_eq_true rfl) (Nat.le_of_ble_eq_true rfl) d_TB_init_34 (fun H hI => ?_)
  refine cz_putT C hnm hI (by omega) i_TB rfl t_TB_ok n_TB 3 (by decide) kw_1_37 rfl rfl rfl (Nat.le_of_ble_eq_true rfl) [.ref (a0 + (b + 1)), .ref (a0 + (b + 42)), .ref (a0 + (b + 43)), .ref (a0 + (b + 44)), .int 0] rfl d_TB_init_36 (fun H locs hI => ?_)
  have hI := cI_id hI (cF_TB hb0 (hne 0 (by decide)).1 (hne 0 (by decide)).2)
  exact cz_ret C hr hlk hI (Nat.le_of_ble_eq_true rfl) (Nat.le_of_ble_eq_true rfl) d_TB_init_39
set_option maxHeartbeats 4000000 in
set_option maxRecDepth 100000 in
theorem c_TR_init {l : Launch} {D : va_G} {cy : Nat → ClassId} {a0 : Nat} {b : Nat} (hb0 : isTR b) (hne : ∀ o, o < 13 → b + o ≠ 46 ∧ b + o ≠ 278) : CI l y_TR_init b_TR_init 1 rz_TR D cy a0 (cF cy a0) (fun _ => True) (.inr (6, e_TR)) b (b + 13) := by
  refine cz_met (by decide +kernel) rfl (Nat.le_of_ble_eq_true rfl) (fun p e s m args below meth c ls C hr hlk hnm hE hl hI => ?_)
  obtain ⟨hx, hb, hml, hown, hts, hK, hE9⟩ := id C
  refine lv_aload_n hx hb d_TR_init_0 rfl (lv_at hl 0 rfl) ?_
  refine cz_obj C hl.1 kw_1_175 (Nat.le_of_ble_eq_true rfl) (Nat.le_of_ble_eq_true rfl) d_TR_init_1 ?_
  refine lv_aload_n hx hb d_TR_init_4 rfl (lv_at hl 0 rfl) ?_
  refine lv_bipush (v := (7 : Int32)) hx hb d_TR_init_5 (by decide) ?_
  refine lv_bipush (v := (31 : Int32)) hx hb d_TR_init_7 (by decide) ?_
  refine cz_gridI (hi2 := b + 9) C hI kw_1_176 (by rw [upF_n (by omega)]; exact cF_g (t := 1) hb0.2.1) (fun j hj => by rw [upF_n (by omega)]; exact cF_i (hb0.2.2.1 j hj) (by have := hne (2 + j) (by omega); omega) (by have := hne (2 + j) (by omega); omega)) (by decide) (by decide) (by decide) (by decide) (by decide) (by decide) (by decide) rfl (Nat.le_of_ble_eq_true rfl) (Nat.le_of_ble_eq_true rfl) d_TR_init_9 (fun H hI => ?_)
  refine cz_putT C hnm hI (by omega) i_TR rfl t_TR_ok n_TR 0 (by decide) kw_1_178 rfl rfl rfl (Nat.le_of_ble_eq_true rfl) [.ref (a0 + (b + 1)), .null, .int 0] rfl d_TR_init_13 (fun H locs hI => ?_)
  refine lv_aload_n hx hb d_TR_init_16 rfl (lv_at hl 0 rfl) ?_
  refine lv_iconst (v := (3 : Int32)) hx hb d_TR_init_17 (by decide) ?_
  refine lv_bipush (v := (31 : Int32)) hx hb d_TR_init_18 (by decide) ?_
  refine cz_gridL (hi2 := b + 13) C hI kw_1_177 (by rw [upF_n (by omega)]; exact cF_g (t := 2) hb0.2.2.2.1) (fun j hj => by rw [upF_n (by omega)]; exact cF_l (hb0.2.2.2.2 j hj)) (by decide) (by decide) (by decide) (by decide) (by decide) (by decide) (by decide) rfl (Nat.le_of_ble_eq_true rfl) (Nat.le_of_ble_eq_true rfl) d_TR_init_20 (fun H hI => ?_)
  refine cz_putT C hnm hI (by omega) i_TR rfl t_TR_ok n_TR 1 (by decide) kw_1_181 rfl rfl rfl (Nat.le_of_ble_eq_true rfl) [.ref (a0 + (b + 1)), .ref (a0 + (b + 9)), .int 0] rfl d_TR_init_24 (fun H locs hI => ?_)
  have hI := cI_id hI (cF_TR hb0 (hne 0 (by decide)).1 (hne 0 (by decide)).2)
  exact cz_ret C hr hlk hI (Nat.le_of_ble_eq_true rfl) (Nat.le_of_ble_eq_true rfl) d_TR_init_27


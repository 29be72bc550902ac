set_option maxHeartbeats 4000000 in
set_option maxRecDepth 100000 in
theorem c_GR_init {l : Launch} {D : va_G} {cy : Nat → ClassId} {a0 : Nat} : CI l y_GR_init b_GR_init 1 rz_GR D cy a0 (cF cy a0) (fun _ => True) (.inr (3, e_GR)) 48 109 := by
  refine cz_met (by decide +kernel) rfl (Nat.le_of_ble_eq_true rfl) (fun p e s m args below meth c ls C hr hlk hnm hE hl hI => ?_)
  obtain ⟨hx, hb, hml, hown, hts, hK, hE9⟩ := id C
  refine lv_aload_n hx hb d_GR_init_0 rfl (lv_at hl 0 rfl) ?_
  refine cz_obj C hl.1 kw_1_78 (Nat.le_of_ble_eq_true rfl) (Nat.le_of_ble_eq_true rfl) d_GR_init_1 ?_
  refine lv_aload_n hx hb d_GR_init_4 rfl (lv_at hl 0 rfl) ?_
  refine cz_new (ci := 1) (hi2 := 50) C hI i_TB rfl t_TB_ok kw_1_79 kw_1_21 kw_1_2 e_TB h_TB rfl (Nat.le_of_ble_eq_true rfl) (Nat.le_of_ble_eq_true rfl) d_GR_init_5 (fun H hI => ?_)
  refine lv_dup hx hb d_GR_init_8 rfl ?_
  refine cz_call (hi := 49) (hi2 := 94) C (c_TB_init isTB_49 (fun o ho => by omega)) hI (by omega) hl.1 kw_1_24 kw_1_2 kw_1_23 rfl (by decide +kernel) ⟨(Nat.le_of_ble_eq_true rfl), (Nat.le_of_ble_eq_true rfl)⟩ (Or.inl hE9.2.2.1) (fun _ _ _ _ h => h) (fun _ _ _ => trivial) (fun k h1 h2 => upF_n (by omega)) (Nat.le_of_ble_eq_true rfl) (Nat.le_of_ble_eq_true rfl) (Nat.le_of_ble_eq_true rfl) d_GR_init_9 (fun H locs hI => ?_)
  refine cz_putT C hnm hI (by omega) i_GR rfl t_GR_ok n_GR 0 (by decide) kw_1_128 rfl rfl rfl (Nat.le_of_ble_eq_true rfl) [.ref (a0 + 49), .null, .null, .null, .null, .null, .null, .null, .null, .null, .null, .null] rfl d_GR_init_12 (fun H locs hI => ?_)
  refine lv_aload_n hx hb d_GR_init_15 rfl (lv_at hl 0 rfl) ?_
  refine lv_bipush (v := (15 : Int32)) hx hb d_GR_init_16 (by decide) ?_
  refine cz_int (hi2 := 95) C hI (by rw [upF_n (by decide)]; exact cF_i lay_94 (by decide) (by decide)) (by decide) (by decide) (by decide) rfl (Nat.le_of_ble_eq_true rfl) (Nat.le_of_ble_eq_true rfl) d_GR_init_18 (fun H hI => ?_)
  refine cz_putT C hnm hI (by omega) i_GR rfl t_GR_ok n_GR 1 (by decide) kw_1_130 rfl rfl rfl (Nat.le_of_ble_eq_true rfl) [.ref (a0 + 49), .ref (a0 + 94), .null, .null, .null, .null, .null, .null, .null, .null, .null, .null] rfl d_GR_init_20 (fun H locs hI => ?_)
  refine lv_aload_n hx hb d_GR_init_23 rfl (lv_at hl 0 rfl) ?_
  refine lv_iconst (v := (4 : Int32)) hx hb d_GR_init_24 (by decide) ?_
  refine lv_bipush (v := (40 : Int32)) hx hb d_GR_init_25 (by decide) ?_
  refine cz_gridI (hi2 := 100) C hI kw_1_81 (by rw [upF_n (by decide)]; exact cF_g (t := 1) lay_95) (fun j hj => by rw [upF_n (by omega)]; exact cF_i (lay_order j hj) (by omega) (by omega)) (by decide) (by decide) (by decide) (by decide) (by decide) (by decide) (by decide) rfl (Nat.le_of_ble_eq_true rfl) (Nat.le_of_ble_eq_true rfl) d_GR_init_27 (fun H hI => ?_)
  refine cz_putT C hnm hI (by omega) i_GR rfl t_GR_ok n_GR 2 (by decide) kw_1_132 rfl rfl rfl (Nat.le_of_ble_eq_true rfl) [.ref (a0 + 49), .ref (a0 + 94), .ref (a0 + 95), .null, .null, .null, .null, .null, .null, .null, .null, .null] rfl d_GR_init_31 (fun H locs hI => ?_)
  refine lv_aload_n hx hb d_GR_init_34 rfl (lv_at hl 0 rfl) ?_
  refine lv_bipush (v := (40 : Int32)) hx hb d_GR_init_35 (by decide) ?_
  refine cz_int (hi2 := 101) C hI (by rw [upF_n (by decide)]; exact cF_i lay_100 (by decide) (by decide)) (by decide) (by decide) (by decide) rfl (Nat.le_of_ble_eq_true rfl) (Nat.le_of_ble_eq_true rfl) d_GR_init_37 (fun H hI => ?_)
  refine cz_putT C hnm hI (by omega) i_GR rfl t_GR_ok n_GR 3 (by decide) kw_1_133 rfl rfl rfl (Nat.le_of_ble_eq_true rfl) [.ref (a0 + 49), .ref (a0 + 94), .ref (a0 + 95), .ref (a0 + 100), .null, .null, .null, .null, .null, .null, .null, .null] rfl d_GR_init_39 (fun H locs hI => ?_)
  refine lv_aload_n hx hb d_GR_init_42 rfl (lv_at hl 0 rfl) ?_
  refine lv_bipush (v := (40 : Int32)) hx hb d_GR_init_43 (by decide) ?_
  refine cz_long (hi2 := 102) C hI (by rw [upF_n (by decide)]; exact cF_l lay_101) (by decide) (by decide) (by decide) rfl (Nat.le_of_ble_eq_true rfl) (Nat.le_of_ble_eq_true rfl) d_GR_init_45 (fun H hI => ?_)
  refine cz_putT C hnm hI (by omega) i_GR rfl t_GR_ok n_GR 4 (by decide) kw_1_134 rfl rfl rfl (Nat.le_of_ble_eq_true rfl) [.ref (a0 + 49), .ref (a0 + 94), .ref (a0 + 95), .ref (a0 + 100), .ref (a0 + 101), .null, .null, .null, .null, .null, .null, .null] rfl d_GR_init_47 (fun H locs hI => ?_)
  refine lv_aload_n hx hb d_GR_init_50 rfl (lv_at hl 0 rfl) ?_
  refine cz_new (ci := 4) (hi2 := 103) C hI i_SM rfl t_SM_ok kw_1_82 kw_1_83 kw_1_5 e_SM h_SM rfl (Nat.le_of_ble_eq_true rfl) (Nat.le_of_ble_eq_true rfl) d_GR_init_51 (fun H hI => ?_)
  refine lv_dup hx hb d_GR_init_54 rfl ?_
  refine cz_call (hi := 102) (hi2 := 103) C (c_SM_init isSM_102 (by decide) (by decide)) hI (by omega) hl.1 kw_1_86 kw_1_5 kw_1_85 rfl (by decide +kernel) ⟨(Nat.le_of_ble_eq_true rfl), (Nat.le_of_ble_eq_true rfl)⟩ (Or.inl hE9.2.2.2.1) (fun _ _ _ _ h => h) (fun _ _ _ => trivial) (fun k h1 h2 => upF_n (by omega)) (Nat.le_of_ble_eq_true rfl) (Nat.le_of_ble_eq_true rfl) (Nat.le_of_ble_eq_true rfl) d_GR_init_55 (fun H locs hI => ?_)
  refine cz_putT C hnm hI (by omega) i_GR rfl t_GR_ok n_GR 5 (by decide) kw_1_135 rfl rfl rfl (Nat.le_of_ble_eq_true rfl) [.ref (a0 + 49), .ref (a0 + 94), .ref (a0 + 95), .ref (a0 + 100), .ref (a0 + 101), .ref (a0 + 102), .null, .null, .null, .null, .null, .null] rfl d_GR_init_58 (fun H locs hI => ?_)
  refine lv_aload_n hx hb d_GR_init_61 rfl (lv_at hl 0 rfl) ?_
  refine cz_new (ci := 4) (hi2 := 104) C hI i_SM rfl t_SM_ok kw_1_82 kw_1_83 kw_1_5 e_SM h_SM rfl (Nat.le_of_ble_eq_true rfl) (Nat.le_of_ble_eq_true rfl) d_GR_init_62 (fun H hI => ?_)
  refine lv_dup hx hb d_GR_init_65 rfl ?_
  refine cz_call (hi := 103) (hi2 := 104) C (c_SM_init isSM_103 (by decide) (by decide)) hI (by omega) hl.1 kw_1_86 kw_1_5 kw_1_85 rfl (by decide +kernel) ⟨(Nat.le_of_ble_eq_true rfl), (Nat.le_of_ble_eq_true rfl)⟩ (Or.inl hE9.2.2.2.1) (fun _ _ _ _ h => h) (fun _ _ _ => trivial) (fun k h1 h2 => upF_n (by omega)) (Nat.le_of_ble_eq_true rfl) (Nat.le_of_ble_eq_true rfl) (Nat.le_of_ble_eq_true rfl) d_GR_init_66 (fun H locs hI => ?_)
  refine cz_putT C hnm hI (by omega) i_GR rfl t_GR_ok n_GR 6 (by decide) kw_1_136 rfl rfl rfl (Nat.le_of_ble_eq_true rfl) [.ref (a0 + 49), .ref (a0 + 94), .ref (a0 + 95), .ref (a0 + 100), .ref (a0 + 101), .ref (a0 + 102), .ref (a0 + 103), .null, .null, .null, .null, .null] rfl d_GR_init_69 (fun H locs hI => ?_)
  refine lv_aload_n hx hb d_GR_init_72 rfl (lv_at hl 0 rfl) ?_
  refine cz_new (ci := 4) (hi2 := 105) C hI i_SM rfl t_SM_ok kw_1_82 kw_1_83 kw_1_5 e_SM h_SM rfl (Nat.le_of_ble_eq_true rfl) (Nat.le_of_ble_eq_true rfl) d_GR_init_73 (fun H hI => ?_)
  refine lv_dup hx hb d_GR_init_76 rfl ?_
  refine cz_call (hi := 104) (hi2 := 105) C (c_SM_init isSM_104 (by decide) (by decide)) hI (by omega) hl.1 kw_1_86 kw_1_5 kw_1_85 rfl (by decide +kernel) ⟨(Nat.le_of_ble_eq_true rfl), (Nat.le_of_ble_eq_true rfl)⟩ (Or.inl hE9.2.2.2.1) (fun _ _ _ _ h => h) (fun _ _ _ => trivial) (fun k h1 h2 => upF_n (by omega)) (Nat.le_of_ble_eq_true rfl) (Nat.le_of_ble_eq_true rfl) (Nat.le_of_ble_eq_true rfl) d_GR_init_77 (fun H locs hI => ?_)
  refine cz_putT C hnm hI (by omega) i_GR rfl t_GR_ok n_GR 7 (by decide) kw_1_137 rfl rfl rfl (Nat.le_of_ble_eq_true rfl) [.ref (a0 + 49), .ref (a0 + 94), .ref (a0 + 95), .ref (a0 + 100), .ref (a0 + 101), .ref (a0 + 102), .ref (a0 + 103), .ref (a0 + 104), .null, .null, .null, .null] rfl d_GR_init_80 (fun H locs hI => ?_)
  refine lv_aload_n hx hb d_GR_init_83 rfl (lv_at hl 0 rfl) ?_
  refine cz_new (ci := 4) (hi2 := 106) C hI i_SM rfl t_SM_ok kw_1_82 kw_1_83 kw_1_5 e_SM h_SM rfl (Nat.le_of_ble_eq_true rfl) (Nat.le_of_ble_eq_true rfl) d_GR_init_84 (fun H hI => ?_)
  refine lv_dup hx hb d_GR_init_87 rfl ?_
  refine cz_call (hi := 105) (hi2 := 106) C (c_SM_init isSM_105 (by decide) (by decide)) hI (by omega) hl.1 kw_1_86 kw_1_5 kw_1_85 rfl (by decide +kernel) ⟨(Nat.le_of_ble_eq_true rfl), (Nat.le_of_ble_eq_true rfl)⟩ (Or.inl hE9.2.2.2.1) (fun _ _ _ _ h => h) (fun _ _ _ => trivial) (fun k h1 h2 => upF_n (by omega)) (Nat.le_of_ble_eq_true rfl) (Nat.le_of_ble_eq_true rfl) (Nat.le_of_ble_eq_true rfl) d_GR_init_88 (fun H locs hI => ?_)
  refine cz_putT C hnm hI (by omega) i_GR rfl t_GR_ok n_GR 8 (by decide) kw_1_138 rfl rfl rfl (Nat.le_of_ble_eq_true rfl) [.ref (a0 + 49), .ref (a0 + 94), .ref (a0 + 95), .ref (a0 + 100), .ref (a0 + 101), .ref (a0 + 102), .ref (a0 + 103), .ref (a0 + 104), .ref (a0 + 105), .null, .null, .null] rfl d_GR_init_91 (fun H locs hI => ?_)
  refine lv_aload_n hx hb d_GR_init_94 rfl (lv_at hl 0 rfl) ?_
  refine cz_new (ci := 4) (hi2 := 107) C hI i_SM rfl t_SM_ok kw_1_82 kw_1_83 kw_1_5 e_SM h_SM rfl (Nat.le_of_ble_eq_true rfl) (Nat.le_of_ble_eq_true rfl) d_GR_init_95 (fun H hI => ?_)
  refine lv_dup hx hb d_GR_init_98 rfl ?_
  refine cz_call (hi := 106) (hi2 := 107) C (c_SM_init isSM_106 (by decide) (by decide)) hI (by omega) hl.1 kw_1_86 kw_1_5 kw_1_85 rfl (by decide +kernel) ⟨(Nat.le_of_ble_eq_true rfl), (Nat.le_of_ble_eq_true rfl)⟩ (Or.inl hE9.2.2.2.1) (fun _ _ _ _ h => h) (fun _ _ _ => trivial) (fun k h1 h2 => upF_n (by omega)) (Nat.le_of_ble_eq_true rfl) (Nat.le_of_ble_eq_true rfl) (Nat.le_of_ble_eq_true rfl) d_GR_init_99 (fun H locs hI => ?_)
  refine cz_putT C hnm hI (by omega) i_GR rfl t_GR_ok n_GR 9 (by decide) kw_1_139 rfl rfl rfl (Nat.le_of_ble_eq_true rfl) [.ref (a0 + 49), .ref (a0 + 94), .ref (a0 + 95), .ref (a0 + 100), .ref (a0 + 101), .ref (a0 + 102), .ref (a0 + 103), .ref (a0 + 104), .ref (a0 + 105), .ref (a0 + 106), .null, .null] rfl d_GR_init_102 (fun H locs hI => ?_)
  refine lv_aload_n hx hb d_GR_init_105 rfl (lv_at hl 0 rfl) ?_
  refine cz_new (ci := 4) (hi2 := 108) C hI i_SM rfl t_SM_ok kw_1_82 kw_1_83 kw_1_5 e_SM h_SM rfl (Nat.le_of_ble_eq_true rfl) (Nat.le_of_ble_eq_true rfl) d_GR_init_106 (fun H hI => ?_)
  refine lv_dup hx hb d_GR_init_109 rfl ?_
  refine cz_call (hi := 107) (hi2 := 108) C (c_SM_init isSM_107 (by decide) (by decide)) hI (by omega) hl.1 kw_1_86 kw_1_5 kw_1_85 rfl (by decide +kernel) ⟨(Nat.le_of_ble_eq_true rfl), (Nat.le_of_ble_eq_true rfl)⟩ (Or.inl hE9.2.2.2.1) (fun _ _ _ _ h => h) (fun _ _ _ => trivial) (fun k h1 h2 => upF_n (by omega)) (Nat.le_of_ble_eq_true rfl) (Nat.le_of_ble_eq_true rfl) (Nat.le_of_ble_eq_true rfl) d_GR_init_110 (fun H locs hI => ?_)
  refine cz_putT C hnm hI (by omega) i_GR rfl t_GR_ok n_GR 10 (by decide) kw_1_140 rfl rfl rfl (Nat.le_of_ble_eq_true rfl) [.ref (a0 + 49), .ref (a0 + 94), .ref (a0 + 95), .ref (a0 + 100), .ref (a0 + 101), .ref (a0 + 102), .ref (a0 + 103), .ref (a0 + 104), .ref (a0 + 105), .ref (a0 + 106), .ref (a0 + 107), .null] rfl d_GR_init_113 (fun H locs hI => ?_)
  refine lv_aload_n hx hb d_GR_init_116 rfl (lv_at hl 0 rfl) ?_
  refine cz_new (ci := 5) (hi2 := 109) C hI i_SP rfl t_SP_ok kw_1_103 kw_1_104 kw_1_6 e_SP h_SP rfl (Nat.le_of_ble_eq_true rfl) (Nat.le_of_ble_eq_true rfl) d_GR_init_117 (fun H hI => ?_)
  refine lv_dup hx hb d_GR_init_120 rfl ?_
  refine cz_call (hi := 108) (hi2 := 109) C c_SP_init hI (by omega) hl.1 kw_1_107 kw_1_6 kw_1_106 rfl (by decide +kernel) ⟨(Nat.le_of_ble_eq_true rfl), (Nat.le_of_ble_eq_true rfl)⟩ (Or.inl hE9.2.2.2.2.1) (fun _ _ _ _ h => h) (fun _ _ _ => trivial) (fun k h1 h2 => upF_n (by omega)) (Nat.le_of_ble_eq_true rfl) (Nat.le_of_ble_eq_true rfl) (Nat.le_of_ble_eq_true rfl) d_GR_init_121 (fun H locs hI => ?_)
  refine cz_putT C hnm hI (by omega) i_GR rfl t_GR_ok n_GR 11 (by decide) kw_1_141 rfl rfl rfl (Nat.le_of_ble_eq_true rfl) [.ref (a0 + 49), .ref (a0 + 94), .ref (a0 + 95), .ref (a0 + 100), .ref (a0 + 101), .ref (a0 + 102), .ref (a0 + 103), .ref (a0 + 104), .ref (a0 + 105), .ref (a0 + 106), .ref (a0 + 107), .ref (a0 + 108)] rfl d_GR_init_124 (fun H locs hI => ?_)
  have hI := cI_id hI (cF_o lay_48)
  exact cz_ret C hr hlk hI (Nat.le_of_ble_eq_true rfl) (Nat.le_of_ble_eq_true rfl) d_GR_init_127


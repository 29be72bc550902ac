def eS (cy : Nat → ClassId) (g : Nat → Int32) : va_E := .inl (cy 0, 15, .inl g)
theorem e_first {cy : Nat → ClassId} {a0 : Nat} : (.inl (cy 0, 15, .inl (upd (upd (upd (upd (upd (upd (upd (fun _ => 0) 0 3) 1 1) 2 1) 3 256) 4 4) 6 256) 7 256)) : va_E) = cF cy a0 278 := by
  unfold cF
  rw [lay_278]
  show _ = Sum.inl (cy 0, 15, Sum.inl (M0.1 278))
  refine congrArg (fun g : Nat → Int32 => (.inl (cy 0, 15, .inl g) : va_E)) (funext fun j => ?_)
  rw [M0_278]
  by_cases h : j < 15
  · have h2 : j = 0 ∨ j = 1 ∨ j = 2 ∨ j = 3 ∨ j = 4 ∨ j = 5 ∨ j = 6 ∨ j = 7 ∨ j = 8 ∨ j = 9 ∨ j = 10 ∨ j = 11 ∨ j = 12 ∨ j = 13 ∨ j = 14 := by omega
    rcases h2 with rfl | rfl | rfl | rfl | rfl | rfl | rfl | rfl | rfl | rfl | rfl | rfl | rfl | rfl | rfl <;> decide
  · have e1 : c_FIRST j = 0 := by
      unfold c_FIRST
      rw [List.getD_eq_getElem?_getD, List.getElem?_eq_none (by simp; omega)]
      rfl
    rw [e1]
    simp only [upd]
    repeat rw [if_neg (by omega)]
set_option maxHeartbeats 4000000 in
set_option maxRecDepth 100000 in
theorem c_MD_init {l : Launch} {D : va_G} {cy : Nat → ClassId} {a0 : Nat} : CI l y_MD_init b_MD_init 1 rz_MD D cy a0 (cF cy a0) (fun _ => True) (.inr (7, e_MD)) 273 299 := by
  refine cz_met (by decide +kernel) rfl (Nat.le_of_ble_eq_true rfl) (fun p e s m args below meth c ls C hr hlk hnm hE hl hI => ?_)
  obtain ⟨hx, hb, hml, hown, hts, hK, hE9⟩ := id C
  refine lv_aload_n hx hb d_MD_init_0 rfl (lv_at hl 0 rfl) ?_
  refine cz_obj C hl.1 kw_3_70 (Nat.le_of_ble_eq_true rfl) (Nat.le_of_ble_eq_true rfl) d_MD_init_1 ?_
  have hI := cI_eq (g := upF (upF (cF cy a0) 278 (eS cy (fun _ => 0))) 273 (.inr (7, e_MD))) hI (fun k h1 h2 => by have hk : k = 273 := (by omega); subst hk; rw [upF_s, upF_s])
  refine lv_aload_n hx hb d_MD_init_4 rfl (lv_at hl 0 rfl) ?_
  refine lv_sipush (v := (160 : Int32)) hx hb d_MD_init_5 (by decide) ?_
  refine cz_int (hi2 := 275) C hI (by rw [upF_n (by decide), upF_n (by decide)]; exact cF_i lay_274 (by decide) (by decide)) (by decide) (by decide) (by decide) rfl (Nat.le_of_ble_eq_true rfl) (Nat.le_of_ble_eq_true rfl) d_MD_init_8 (fun H hI => ?_)
  refine cz_putT C hnm hI (by omega) i_MD rfl t_MD_ok n_MD 1 (by decide) kw_3_72 rfl rfl rfl (Nat.le_of_ble_eq_true rfl) [.int 0, .ref (a0 + 274), .null, .null, .null, .null, .int 0, .int 0, .null, .null, .null, .null, .null, .null, .int 0, .null, .null, .null, .null, .null, .null, .null, .null, .null, .null, .null, .null, .null, .null, .long 0, .int 0, .int 0] rfl d_MD_init_10 (fun H locs hI => ?_)
  refine lv_aload_n hx hb d_MD_init_13 rfl (lv_at hl 0 rfl) ?_
  refine lv_bipush (v := (40 : Int32)) hx hb d_MD_init_14 (by decide) ?_
  refine cz_int (hi2 := 276) C hI (by rw [upF_n (by decide), upF_n (by decide)]; exact cF_i lay_275 (by decide) (by decide)) (by decide) (by decide) (by decide) rfl (Nat.le_of_ble_eq_true rfl) (Nat.le_of_ble_eq_true rfl) d_MD_init_16 (fun H hI => ?_)
  refine cz_putT C hnm hI (by omega) i_MD rfl t_MD_ok n_MD 2 (by decide) kw_3_73 rfl rfl rfl (Nat.le_of_ble_eq_true rfl) [.int 0, .ref (a0 + 274), .ref (a0 + 275), .null, .null, .null, .int 0, .int 0, .null, .null, .null, .null, .null, .null, .int 0, .null, .null, .null, .null, .null, .null, .null, .null, .null, .null, .null, .null, .null, .null, .long 0, .int 0, .int 0] rfl d_MD_init_18 (fun H locs hI => ?_)
  refine lv_aload_n hx hb d_MD_init_21 rfl (lv_at hl 0 rfl) ?_
  refine lv_bipush (v := (40 : Int32)) hx hb d_MD_init_22 (by decide) ?_
  refine cz_int (hi2 := 277) C hI (by rw [upF_n (by decide), upF_n (by decide)]; exact cF_i lay_276 (by decide) (by decide)) (by decide) (by decide) (by decide) rfl (Nat.le_of_ble_eq_true rfl) (Nat.le_of_ble_eq_true rfl) d_MD_init_24 (fun H hI => ?_)
  refine cz_putT C hnm hI (by omega) i_MD rfl t_MD_ok n_MD 3 (by decide) kw_3_74 rfl rfl rfl (Nat.le_of_ble_eq_true rfl) [.int 0, .ref (a0 + 274), .ref (a0 + 275), .ref (a0 + 276), .null, .null, .int 0, .int 0, .null, .null, .null, .null, .null, .null, .int 0, .null, .null, .null, .null, .null, .null, .null, .null, .null, .null, .null, .null, .null, .null, .long 0, .int 0, .int 0] rfl d_MD_init_26 (fun H locs hI => ?_)
  refine lv_aload_n hx hb d_MD_init_29 rfl (lv_at hl 0 rfl) ?_
  refine lv_bipush (v := (40 : Int32)) hx hb d_MD_init_30 (by decide) ?_
  refine cz_bool (hi2 := 278) C hI (by rw [upF_n (by decide), upF_n (by decide)]; exact cF_b lay_277 (by decide) (by decide)) (by decide) (by decide) (by decide) rfl (Nat.le_of_ble_eq_true rfl) (Nat.le_of_ble_eq_true rfl) d_MD_init_32 (fun H hI => ?_)
  refine cz_putT C hnm hI (by omega) i_MD rfl t_MD_ok n_MD 4 (by decide) kw_3_75 rfl rfl rfl (Nat.le_of_ble_eq_true rfl) [.int 0, .ref (a0 + 274), .ref (a0 + 275), .ref (a0 + 276), .ref (a0 + 277), .null, .int 0, .int 0, .null, .null, .null, .null, .null, .null, .int 0, .null, .null, .null, .null, .null, .null, .null, .null, .null, .null, .null, .null, .null, .null, .long 0, .int 0, .int 0] rfl d_MD_init_34 (fun H locs hI => ?_)
  refine lv_aload_n hx hb d_MD_init_37 rfl (lv_at hl 0 rfl) ?_
  refine lv_bipush (v := (15 : Int32)) hx hb d_MD_init_38 (by decide) ?_
  refine cz_int (hi2 := 279) C hI (by rw [upF_n (by decide), upF_s]; rfl) (by decide) (by decide) (by decide) rfl (Nat.le_of_ble_eq_true rfl) (Nat.le_of_ble_eq_true rfl) d_MD_init_40 (fun H hI => ?_)
  refine cz_putT C hnm hI (by omega) i_MD rfl t_MD_ok n_MD 5 (by decide) kw_3_76 rfl rfl rfl (Nat.le_of_ble_eq_true rfl) [.int 0, .ref (a0 + 274), .ref (a0 + 275), .ref (a0 + 276), .ref (a0 + 277), .ref (a0 + 278), .int 0, .int 0, .null, .null, .null, .null, .null, .null, .int 0, .null, .null, .null, .null, .null, .null, .null, .null, .null, .null, .null, .null, .null, .null, .long 0, .int 0, .int 0] rfl d_MD_init_42 (fun H locs hI => ?_)
  refine lv_aload_n hx hb d_MD_init_45 rfl (lv_at hl 0 rfl) ?_
  refine lv_sipush (v := (160 : Int32)) hx hb d_MD_init_46 (by decide) ?_
  refine cz_int (hi2 := 280) C hI (by rw [upF_n (by decide), upF_n (by decide)]; exact cF_i lay_279 (by decide) (by decide)) (by decide) (by decide) (by decide) rfl (Nat.le_of_ble_eq_true rfl) (Nat.le_of_ble_eq_true rfl) d_MD_init_49 (fun H hI => ?_)
  refine cz_putT C hnm hI (by omega) i_MD rfl t_MD_ok n_MD 8 (by decide) kw_3_79 rfl rfl rfl (Nat.le_of_ble_eq_true rfl) [.int 0, .ref (a0 + 274), .ref (a0 + 275), .ref (a0 + 276), .ref (a0 + 277), .ref (a0 + 278), .int 0, .int 0, .ref (a0 + 279), .null, .null, .null, .null, .null, .int 0, .null, .null, .null, .null, .null, .null, .null, .null, .null, .null, .null, .null, .null, .null, .long 0, .int 0, .int 0] rfl d_MD_init_51 (fun H locs hI => ?_)
  refine lv_aload_n hx hb d_MD_init_54 rfl (lv_at hl 0 rfl) ?_
  refine lv_bipush (v := (40 : Int32)) hx hb d_MD_init_55 (by decide) ?_
  refine cz_int (hi2 := 281) C hI (by rw [upF_n (by decide), upF_n (by decide)]; exact cF_i lay_280 (by decide) (by decide)) (by decide) (by decide) (by decide) rfl (Nat.le_of_ble_eq_true rfl) (Nat.le_of_ble_eq_true rfl) d_MD_init_57 (fun H hI => ?_)
  refine cz_putT C hnm hI (by omega) i_MD rfl t_MD_ok n_MD 9 (by decide) kw_3_80 rfl rfl rfl (Nat.le_of_ble_eq_true rfl) [.int 0, .ref (a0 + 274), .ref (a0 + 275), .ref (a0 + 276), .ref (a0 + 277), .ref (a0 + 278), .int 0, .int 0, .ref (a0 + 279), .ref (a0 + 280), .null, .null, .null, .null, .int 0, .null, .null, .null, .null, .null, .null, .null, .null, .null, .null, .null, .null, .null, .null, .long 0, .int 0, .int 0] rfl d_MD_init_59 (fun H locs hI => ?_)
  refine lv_aload_n hx hb d_MD_init_62 rfl (lv_at hl 0 rfl) ?_
  refine lv_bipush (v := (40 : Int32)) hx hb d_MD_init_63 (by decide) ?_
  refine cz_int (hi2 := 282) C hI (by rw [upF_n (by decide), upF_n (by decide)]; exact cF_i lay_281 (by decide) (by decide)) (by decide) (by decide) (by decide) rfl (Nat.le_of_ble_eq_true rfl) (Nat.le_of_ble_eq_true rfl) d_MD_init_65 (fun H hI => ?_)
  refine cz_putT C hnm hI (by omega) i_MD rfl t_MD_ok n_MD 10 (by decide) kw_3_81 rfl rfl rfl (Nat.le_of_ble_eq_true rfl) [.int 0, .ref (a0 + 274), .ref (a0 + 275), .ref (a0 + 276), .ref (a0 + 277), .ref (a0 + 278), .int 0, .int 0, .ref (a0 + 279), .ref (a0 + 280), .ref (a0 + 281), .null, .null, .null, .int 0, .null, .null, .null, .null, .null, .null, .null, .null, .null, .null, .null, .null, .null, .null, .long 0, .int 0, .int 0] rfl d_MD_init_67 (fun H locs hI => ?_)
  refine lv_aload_n hx hb d_MD_init_70 rfl (lv_at hl 0 rfl) ?_
  refine lv_bipush (v := (40 : Int32)) hx hb d_MD_init_71 (by decide) ?_
  refine cz_bool (hi2 := 283) C hI (by rw [upF_n (by decide), upF_n (by decide)]; exact cF_b lay_282 (by decide) (by decide)) (by decide) (by decide) (by decide) rfl (Nat.le_of_ble_eq_true rfl) (Nat.le_of_ble_eq_true rfl) d_MD_init_73 (fun H hI => ?_)
  refine cz_putT C hnm hI (by omega) i_MD rfl t_MD_ok n_MD 11 (by decide) kw_3_82 rfl rfl rfl (Nat.le_of_ble_eq_true rfl) [.int 0, .ref (a0 + 274), .ref (a0 + 275), .ref (a0 + 276), .ref (a0 + 277), .ref (a0 + 278), .int 0, .int 0, .ref (a0 + 279), .ref (a0 + 280), .ref (a0 + 281), .ref (a0 + 282), .null, .null, .int 0, .null, .null, .null, .null, .null, .null, .null, .null, .null, .null, .null, .null, .null, .null, .long 0, .int 0, .int 0] rfl d_MD_init_75 (fun H locs hI => ?_)
  refine lv_aload_n hx hb d_MD_init_78 rfl (lv_at hl 0 rfl) ?_
  refine lv_bipush (v := (15 : Int32)) hx hb d_MD_init_79 (by decide) ?_
  refine cz_int (hi2 := 284) C hI (by rw [upF_n (by decide), upF_n (by decide)]; exact cF_i lay_283 (by decide) (by decide)) (by decide) (by decide) (by decide) rfl (Nat.le_of_ble_eq_true rfl) (Nat.le_of_ble_eq_true rfl) d_MD_init_81 (fun H hI => ?_)
  refine cz_putT C hnm hI (by omega) i_MD rfl t_MD_ok n_MD 12 (by decide) kw_3_83 rfl rfl rfl (Nat.le_of_ble_eq_true rfl) [.int 0, .ref (a0 + 274), .ref (a0 + 275), .ref (a0 + 276), .ref (a0 + 277), .ref (a0 + 278), .int 0, .int 0, .ref (a0 + 279), .ref (a0 + 280), .ref (a0 + 281), .ref (a0 + 282), .ref (a0 + 283), .null, .int 0, .null, .null, .null, .null, .null, .null, .null, .null, .null, .null, .null, .null, .null, .null, .long 0, .int 0, .int 0] rfl d_MD_init_83 (fun H locs hI => ?_)
  refine lv_aload_n hx hb d_MD_init_86 rfl (lv_at hl 0 rfl) ?_
  refine lv_bipush (v := (40 : Int32)) hx hb d_MD_init_87 (by decide) ?_
  refine cz_long (hi2 := 285) C hI (by rw [upF_n (by decide), upF_n (by decide)]; exact cF_l lay_284) (by decide) (by decide) (by decide) rfl (Nat.le_of_ble_eq_true rfl) (Nat.le_of_ble_eq_true rfl) d_MD_init_89 (fun H hI => ?_)
  refine cz_putT C hnm hI (by omega) i_MD rfl t_MD_ok n_MD 13 (by decide) kw_3_84 rfl rfl rfl (Nat.le_of_ble_eq_true rfl) [.int 0, .ref (a0 + 274), .ref (a0 + 275), .ref (a0 + 276), .ref (a0 + 277), .ref (a0 + 278), .int 0, .int 0, .ref (a0 + 279), .ref (a0 + 280), .ref (a0 + 281), .ref (a0 + 282), .ref (a0 + 283), .ref (a0 + 284), .int 0, .null, .null, .null, .null, .null, .null, .null, .null, .null, .null, .null, .null, .null, .null, .long 0, .int 0, .int 0] rfl d_MD_init_91 (fun H locs hI => ?_)
  refine lv_aload_n hx hb d_MD_init_94 rfl (lv_at hl 0 rfl) ?_
  refine lv_bipush (v := (26 : Int32)) hx hb d_MD_init_95 (by decide) ?_
  refine cz_long (hi2 := 286) C hI (by rw [upF_n (by decide), upF_n (by decide)]; exact cF_l lay_285) (by decide) (by decide) (by decide) rfl (Nat.le_of_ble_eq_true rfl) (Nat.le_of_ble_eq_true rfl) d_MD_init_97 (fun H hI => ?_)
  refine cz_putT C hnm hI (by omega) i_MD rfl t_MD_ok n_MD 15 (by decide) kw_3_86 rfl rfl rfl (Nat.le_of_ble_eq_true rfl) [.int 0, .ref (a0 + 274), .ref (a0 + 275), .ref (a0 + 276), .ref (a0 + 277), .ref (a0 + 278), .int 0, .int 0, .ref (a0 + 279), .ref (a0 + 280), .ref (a0 + 281), .ref (a0 + 282), .ref (a0 + 283), .ref (a0 + 284), .int 0, .ref (a0 + 285), .null, .null, .null, .null, .null, .null, .null, .null, .null, .null, .null, .null, .null, .long 0, .int 0, .int 0] rfl d_MD_init_99 (fun H locs hI => ?_)
  refine lv_aload_n hx hb d_MD_init_102 rfl (lv_at hl 0 rfl) ?_
  refine lv_sipush (v := (480 : Int32)) hx hb d_MD_init_103 (by decide) ?_
  refine cz_bool (hi2 := 287) C hI (by rw [upF_n (by decide), upF_n (by decide)]; exact cF_b lay_286 (by decide) (by decide)) (by decide) (by decide) (by decide) rfl (Nat.le_of_ble_eq_true rfl) (Nat.le_of_ble_eq_true rfl) d_MD_init_106 (fun H hI => ?_)
  refine cz_putT C hnm hI (by omega) i_MD rfl t_MD_ok n_MD 16 (by decide) kw_3_87 rfl rfl rfl (Nat.le_of_ble_eq_true rfl) [.int 0, .ref (a0 + 274), .ref (a0 + 275), .ref (a0 + 276), .ref (a0 + 277), .ref (a0 + 278), .int 0, .int 0, .ref (a0 + 279), .ref (a0 + 280), .ref (a0 + 281), .ref (a0 + 282), .ref (a0 + 283), .ref (a0 + 284), .int 0, .ref (a0 + 285), .ref (a0 + 286), .null, .null, .null, .null, .null, .null, .null, .null, .null, .null, .null, .null, .long 0, .int 0, .int 0] rfl d_MD_init_108 (fun H locs hI => ?_)
  refine lv_aload_n hx hb d_MD_init_111 rfl (lv_at hl 0 rfl) ?_
  refine lv_bipush (v := (12 : Int32)) hx hb d_MD_init_112 (by decide) ?_
  refine cz_int (hi2 := 288) C hI (by rw [upF_n (by decide), upF_n (by decide)]; exact cF_i lay_287 (by decide) (by decide)) (by decide) (by decide) (by decide) rfl (Nat.le_of_ble_eq_true rfl) (Nat.le_of_ble_eq_true rfl) d_MD_init_114 (fun H hI => ?_)
  refine cz_putT C hnm hI (by omega) i_MD rfl t_MD_ok n_MD 17 (by decide) kw_3_88 rfl rfl rfl (Nat.le_of_ble_eq_true rfl) [.int 0, .ref (a0 + 274), .ref (a0 + 275), .ref (a0 + 276), .ref (a0 + 277), .ref (a0 + 278), .int 0, .int 0, .ref (a0 + 279), .ref (a0 + 280), .ref (a0 + 281), .ref (a0 + 282), .ref (a0 + 283), .ref (a0 + 284), .int 0, .ref (a0 + 285), .ref (a0 + 286), .ref (a0 + 287), .null, .null, .null, .null, .null, .null, .null, .null, .null, .null, .null, .long 0, .int 0, .int 0] rfl d_MD_init_116 (fun H locs hI => ?_)
  refine lv_aload_n hx hb d_MD_init_119 rfl (lv_at hl 0 rfl) ?_
  refine lv_sipush (v := (384 : Int32)) hx hb d_MD_init_120 (by decide) ?_
  refine cz_int (hi2 := 289) C hI (by rw [upF_n (by decide), upF_n (by decide)]; exact cF_i lay_288 (by decide) (by decide)) (by decide) (by decide) (by decide) rfl (Nat.le_of_ble_eq_true rfl) (Nat.le_of_ble_eq_true rfl) d_MD_init_123 (fun H hI => ?_)
  refine cz_putT C hnm hI (by omega) i_MD rfl t_MD_ok n_MD 18 (by decide) kw_3_89 rfl rfl rfl (Nat.le_of_ble_eq_true rfl) [.int 0, .ref (a0 + 274), .ref (a0 + 275), .ref (a0 + 276), .ref (a0 + 277), .ref (a0 + 278), .int 0, .int 0, .ref (a0 + 279), .ref (a0 + 280), .ref (a0 + 281), .ref (a0 + 282), .ref (a0 + 283), .ref (a0 + 284), .int 0, .ref (a0 + 285), .ref (a0 + 286), .ref (a0 + 287), .ref (a0 + 288), .null, .null, .null, .null, .null, .null, .null, .null, .null, .null, .long 0, .int 0, .int 0] rfl d_MD_init_125 (fun H locs hI => ?_)
  refine lv_aload_n hx hb d_MD_init_128 rfl (lv_at hl 0 rfl) ?_
  refine lv_sipush (v := (384 : Int32)) hx hb d_MD_init_129 (by decide) ?_
  refine cz_int (hi2 := 290) C hI (by rw [upF_n (by decide), upF_n (by decide)]; exact cF_i lay_289 (by decide) (by decide)) (by decide) (by decide) (by decide) rfl (Nat.le_of_ble_eq_true rfl) (Nat.le_of_ble_eq_true rfl) d_MD_init_132 (fun H hI => ?_)
  refine cz_putT C hnm hI (by omega) i_MD rfl t_MD_ok n_MD 19 (by decide) kw_3_90 rfl rfl rfl (Nat.le_of_ble_eq_true rfl) [.int 0, .ref (a0 + 274), .ref (a0 + 275), .ref (a0 + 276), .ref (a0 + 277), .ref (a0 + 278), .int 0, .int 0, .ref (a0 + 279), .ref (a0 + 280), .ref (a0 + 281), .ref (a0 + 282), .ref (a0 + 283), .ref (a0 + 284), .int 0, .ref (a0 + 285), .ref (a0 + 286), .ref (a0 + 287), .ref (a0 + 288), .ref (a0 + 289), .null, .null, .null, .null, .null, .null, .null, .null, .null, .long 0, .int 0, .int 0] rfl d_MD_init_134 (fun H locs hI => ?_)
  refine lv_aload_n hx hb d_MD_init_137 rfl (lv_at hl 0 rfl) ?_
  refine lv_sipush (v := (384 : Int32)) hx hb d_MD_init_138 (by decide) ?_
  refine cz_int (hi2 := 291) C hI (by rw [upF_n (by decide), upF_n (by decide)]; exact cF_i lay_290 (by decide) (by decide)) (by decide) (by decide) (by decide) rfl (Nat.le_of_ble_eq_true rfl) (Nat.le_of_ble_eq_true rfl) d_MD_init_141 (fun H hI => ?_)
  refine cz_putT C hnm hI (by omega) i_MD rfl t_MD_ok n_MD 20 (by decide) kw_3_91 rfl rfl rfl (Nat.le_of_ble_eq_true rfl) [.int 0, .ref (a0 + 274), .ref (a0 + 275), .ref (a0 + 276), .ref (a0 + 277), .ref (a0 + 278), .int 0, .int 0, .ref (a0 + 279), .ref (a0 + 280), .ref (a0 + 281), .ref (a0 + 282), .ref (a0 + 283), .ref (a0 + 284), .int 0, .ref (a0 + 285), .ref (a0 + 286), .ref (a0 + 287), .ref (a0 + 288), .ref (a0 + 289), .ref (a0 + 290), .null, .null, .null, .null, .null, .null, .null, .null, .long 0, .int 0, .int 0] rfl d_MD_init_143 (fun H locs hI => ?_)
  refine lv_aload_n hx hb d_MD_init_146 rfl (lv_at hl 0 rfl) ?_
  refine lv_sipush (v := (384 : Int32)) hx hb d_MD_init_147 (by decide) ?_
  refine cz_int (hi2 := 292) C hI (by rw [upF_n (by decide), upF_n (by decide)]; exact cF_i lay_291 (by decide) (by decide)) (by decide) (by decide) (by decide) rfl (Nat.le_of_ble_eq_true rfl) (Nat.le_of_ble_eq_true rfl) d_MD_init_150 (fun H hI => ?_)
  refine cz_putT C hnm hI (by omega) i_MD rfl t_MD_ok n_MD 21 (by decide) kw_3_92 rfl rfl rfl (Nat.le_of_ble_eq_true rfl) [.int 0, .ref (a0 + 274), .ref (a0 + 275), .ref (a0 + 276), .ref (a0 + 277), .ref (a0 + 278), .int 0, .int 0, .ref (a0 + 279), .ref (a0 + 280), .ref (a0 + 281), .ref (a0 + 282), .ref (a0 + 283), .ref (a0 + 284), .int 0, .ref (a0 + 285), .ref (a0 + 286), .ref (a0 + 287), .ref (a0 + 288), .ref (a0 + 289), .ref (a0 + 290), .ref (a0 + 291), .null, .null, .null, .null, .null, .null, .null, .long 0, .int 0, .int 0] rfl d_MD_init_152 (fun H locs hI => ?_)
  refine lv_aload_n hx hb d_MD_init_155 rfl (lv_at hl 0 rfl) ?_
  refine lv_sipush (v := (384 : Int32)) hx hb d_MD_init_156 (by decide) ?_
  refine cz_int (hi2 := 293) C hI (by rw [upF_n (by decide), upF_n (by decide)]; exact cF_i lay_292 (by decide) (by decide)) (by decide) (by decide) (by decide) rfl (Nat.le_of_ble_eq_true rfl) (Nat.le_of_ble_eq_true rfl) d_MD_init_159 (fun H hI => ?_)
  refine cz_putT C hnm hI (by omega) i_MD rfl t_MD_ok n_MD 22 (by decide) kw_3_93 rfl rfl rfl (Nat.le_of_ble_eq_true rfl) [.int 0, .ref (a0 + 274), .ref (a0 + 275), .ref (a0 + 276), .ref (a0 + 277), .ref (a0 + 278), .int 0, .int 0, .ref (a0 + 279), .ref (a0 + 280), .ref (a0 + 281), .ref (a0 + 282), .ref (a0 + 283), .ref (a0 + 284), .int 0, .ref (a0 + 285), .ref (a0 + 286), .ref (a0 + 287), .ref (a0 + 288), .ref (a0 + 289), .ref (a0 + 290), .ref (a0 + 291), .ref (a0 + 292), .null, .null, .null, .null, .null, .null, .long 0, .int 0, .int 0] rfl d_MD_init_161 (fun H locs hI => ?_)
  refine lv_aload_n hx hb d_MD_init_164 rfl (lv_at hl 0 rfl) ?_
  refine lv_sipush (v := (384 : Int32)) hx hb d_MD_init_165 (by decide) ?_
  refine cz_int (hi2 := 294) C hI (by rw [upF_n (by decide), upF_n (by decide)]; exact cF_i lay_293 (by decide) (by decide)) (by decide) (by decide) (by decide) rfl (Nat.le_of_ble_eq_true rfl) (Nat.le_of_ble_eq_true rfl) d_MD_init_168 (fun H hI => ?_)
  refine cz_putT C hnm hI (by omega) i_MD rfl t_MD_ok n_MD 23 (by decide) kw_3_94 rfl rfl rfl (Nat.le_of_ble_eq_true rfl) [.int 0, .ref (a0 + 274), .ref (a0 + 275), .ref (a0 + 276), .ref (a0 + 277), .ref (a0 + 278), .int 0, .int 0, .ref (a0 + 279), .ref (a0 + 280), .ref (a0 + 281), .ref (a0 + 282), .ref (a0 + 283), .ref (a0 + 284), .int 0, .ref (a0 + 285), .ref (a0 + 286), .ref (a0 + 287), .ref (a0 + 288), .ref (a0 + 289), .ref (a0 + 290), .ref (a0 + 291), .ref (a0 + 292), .ref (a0 + 293), .null, .null, .null, .null, .null, .long 0, .int 0, .int 0] rfl d_MD_init_170 (fun H locs hI => ?_)
  refine lv_aload_n hx hb d_MD_init_173 rfl (lv_at hl 0 rfl) ?_
  refine lv_sipush (v := (384 : Int32)) hx hb d_MD_init_174 (by decide) ?_
  refine cz_int (hi2 := 295) C hI (by rw [upF_n (by decide), upF_n (by decide)]; exact cF_i lay_294 (by decide) (by decide)) (by decide) (by decide) (by decide) rfl (Nat.le_of_ble_eq_true rfl) (Nat.le_of_ble_eq_true rfl) d_MD_init_177 (fun H hI => ?_)
  refine cz_putT C hnm hI (by omega) i_MD rfl t_MD_ok n_MD 24 (by decide) kw_3_95 rfl rfl rfl (Nat.le_of_ble_eq_true rfl) [.int 0, .ref (a0 + 274), .ref (a0 + 275), .ref (a0 + 276), .ref (a0 + 277), .ref (a0 + 278), .int 0, .int 0, .ref (a0 + 279), .ref (a0 + 280), .ref (a0 + 281), .ref (a0 + 282), .ref (a0 + 283), .ref (a0 + 284), .int 0, .ref (a0 + 285), .ref (a0 + 286), .ref (a0 + 287), .ref (a0 + 288), .ref (a0 + 289), .ref (a0 + 290), .ref (a0 + 291), .ref (a0 + 292), .ref (a0 + 293), .ref (a0 + 294), .null, .null, .null, .null, .long 0, .int 0, .int 0] rfl d_MD_init_179 (fun H locs hI => ?_)
  refine lv_aload_n hx hb d_MD_init_182 rfl (lv_at hl 0 rfl) ?_
  refine lv_sipush (v := (384 : Int32)) hx hb d_MD_init_183 (by decide) ?_
  refine cz_long (hi2 := 296) C hI (by rw [upF_n (by decide), upF_n (by decide)]; exact cF_l lay_295) (by decide) (by decide) (by decide) rfl (Nat.le_of_ble_eq_true rfl) (Nat.le_of_ble_eq_true rfl) d_MD_init_186 (fun H hI => ?_)
  refine cz_putT C hnm hI (by omega) i_MD rfl t_MD_ok n_MD 25 (by decide) kw_3_96 rfl rfl rfl (Nat.le_of_ble_eq_true rfl) [.int 0, .ref (a0 + 274), .ref (a0 + 275), .ref (a0 + 276), .ref (a0 + 277), .ref (a0 + 278), .int 0, .int 0, .ref (a0 + 279), .ref (a0 + 280), .ref (a0 + 281), .ref (a0 + 282), .ref (a0 + 283), .ref (a0 + 284), .int 0, .ref (a0 + 285), .ref (a0 + 286), .ref (a0 + 287), .ref (a0 + 288), .ref (a0 + 289), .ref (a0 + 290), .ref (a0 + 291), .ref (a0 + 292), .ref (a0 + 293), .ref (a0 + 294), .ref (a0 + 295), .null, .null, .null, .long 0, .int 0, .int 0] rfl d_MD_init_188 (fun H locs hI => ?_)
  refine lv_aload_n hx hb d_MD_init_191 rfl (lv_at hl 0 rfl) ?_
  refine lv_sipush (v := (384 : Int32)) hx hb d_MD_init_192 (by decide) ?_
  refine cz_long (hi2 := 297) C hI (by rw [upF_n (by decide), upF_n (by decide)]; exact cF_l lay_296) (by decide) (by decide) (by decide) rfl (Nat.le_of_ble_eq_true rfl) (Nat.le_of_ble_eq_true rfl) d_MD_init_195 (fun H hI => ?_)
  refine cz_putT C hnm hI (by omega) i_MD rfl t_MD_ok n_MD 26 (by decide) kw_3_97 rfl rfl rfl (Nat.le_of_ble_eq_true rfl) [.int 0, .ref (a0 + 274), .ref (a0 + 275), .ref (a0 + 276), .ref (a0 + 277), .ref (a0 + 278), .int 0, .int 0, .ref (a0 + 279), .ref (a0 + 280), .ref (a0 + 281), .ref (a0 + 282), .ref (a0 + 283), .ref (a0 + 284), .int 0, .ref (a0 + 285), .ref (a0 + 286), .ref (a0 + 287), .ref (a0 + 288), .ref (a0 + 289), .ref (a0 + 290), .ref (a0 + 291), .ref (a0 + 292), .ref (a0 + 293), .ref (a0 + 294), .ref (a0 + 295), .ref (a0 + 296), .null, .null, .long 0, .int 0, .int 0] rfl d_MD_init_197 (fun H locs hI => ?_)
  refine lv_aload_n hx hb d_MD_init_200 rfl (lv_at hl 0 rfl) ?_
  refine lv_bipush (v := (40 : Int32)) hx hb d_MD_init_201 (by decide) ?_
  refine cz_int (hi2 := 298) C hI (by rw [upF_n (by decide), upF_n (by decide)]; exact cF_i lay_297 (by decide) (by decide)) (by decide) (by decide) (by decide) rfl (Nat.le_of_ble_eq_true rfl) (Nat.le_of_ble_eq_true rfl) d_MD_init_203 (fun H hI => ?_)
  refine cz_putT C hnm hI (by omega) i_MD rfl t_MD_ok n_MD 27 (by decide) kw_3_98 rfl rfl rfl (Nat.le_of_ble_eq_true rfl) [.int 0, .ref (a0 + 274), .ref (a0 + 275), .ref (a0 + 276), .ref (a0 + 277), .ref (a0 + 278), .int 0, .int 0, .ref (a0 + 279), .ref (a0 + 280), .ref (a0 + 281), .ref (a0 + 282), .ref (a0 + 283), .ref (a0 + 284), .int 0, .ref (a0 + 285), .ref (a0 + 286), .ref (a0 + 287), .ref (a0 + 288), .ref (a0 + 289), .ref (a0 + 290), .ref (a0 + 291), .ref (a0 + 292), .ref (a0 + 293), .ref (a0 + 294), .ref (a0 + 295), .ref (a0 + 296), .ref (a0 + 297), .null, .long 0, .int 0, .int 0] rfl d_MD_init_205 (fun H locs hI => ?_)
  refine lv_aload_n hx hb d_MD_init_208 rfl (lv_at hl 0 rfl) ?_
  refine lv_bipush (v := (32 : Int32)) hx hb d_MD_init_209 (by decide) ?_
  refine cz_long (hi2 := 299) C hI (by rw [upF_n (by decide), upF_n (by decide)]; exact cF_l lay_298) (by decide) (by decide) (by decide) rfl (Nat.le_of_ble_eq_true rfl) (Nat.le_of_ble_eq_true rfl) d_MD_init_211 (fun H hI => ?_)
  refine cz_putT C hnm hI (by omega) i_MD rfl t_MD_ok n_MD 28 (by decide) kw_3_99 rfl rfl rfl (Nat.le_of_ble_eq_true rfl) [.int 0, .ref (a0 + 274), .ref (a0 + 275), .ref (a0 + 276), .ref (a0 + 277), .ref (a0 + 278), .int 0, .int 0, .ref (a0 + 279), .ref (a0 + 280), .ref (a0 + 281), .ref (a0 + 282), .ref (a0 + 283), .ref (a0 + 284), .int 0, .ref (a0 + 285), .ref (a0 + 286), .ref (a0 + 287), .ref (a0 + 288), .ref (a0 + 289), .ref (a0 + 290), .ref (a0 + 291), .ref (a0 + 292), .ref (a0 + 293), .ref (a0 + 294), .ref (a0 + 295), .ref (a0 + 296), .ref (a0 + 297), .ref (a0 + 298), .long 0, .int 0, .int 0] rfl d_MD_init_213 (fun H locs hI => ?_)
  have hI := cI_id hI (by rw [upF_n (by decide)]; exact cF_o lay_273)
  refine lv_aload_n hx hb d_MD_init_216 rfl (lv_at hl 0 rfl) ?_
  refine cz_get (v := .ref (a0 + 278)) C hI (k0 := 273) (by omega) (by omega) (by rw [upF_n (by decide)]; exact cF_o lay_273) i_MD rfl 5 (by decide) kw_3_76 rfl d_MD_init_217 ?_
  refine lv_iconst (v := (0 : Int32)) hx hb d_MD_init_220 (by decide) ?_
  refine lv_iconst (v := (3 : Int32)) hx hb d_MD_init_221 (by decide) ?_
  refine cz_iast (k0 := 278) (j := 0) C hI (by omega) (by omega) upF_s (by decide) (vi_lit _ _ (by decide)) d_MD_init_222 (fun H locs hI => ?_)
  rw [upF_up] at hI
  refine lv_aload_n hx hb d_MD_init_223 rfl (lv_at hl 0 rfl) ?_
  refine cz_get (v := .ref (a0 + 278)) C hI (k0 := 273) (by omega) (by omega) (by rw [upF_n (by decide)]; exact cF_o lay_273) i_MD rfl 5 (by decide) kw_3_76 rfl d_MD_init_224 ?_
  refine lv_iconst (v := (1 : Int32)) hx hb d_MD_init_227 (by decide) ?_
  refine lv_iconst (v := (1 : Int32)) hx hb d_MD_init_228 (by decide) ?_
  refine cz_iast (k0 := 278) (j := 1) C hI (by omega) (by omega) upF_s (by decide) (vi_lit _ _ (by decide)) d_MD_init_229 (fun H locs hI => ?_)
  rw [upF_up] at hI
  refine lv_aload_n hx hb d_MD_init_230 rfl (lv_at hl 0 rfl) ?_
  refine cz_get (v := .ref (a0 + 278)) C hI (k0 := 273) (by omega) (by omega) (by rw [upF_n (by decide)]; exact cF_o lay_273) i_MD rfl 5 (by decide) kw_3_76 rfl d_MD_init_231 ?_
  refine lv_iconst (v := (2 : Int32)) hx hb d_MD_init_234 (by decide) ?_
  refine lv_iconst (v := (1 : Int32)) hx hb d_MD_init_235 (by decide) ?_
  refine cz_iast (k0 := 278) (j := 2) C hI (by omega) (by omega) upF_s (by decide) (vi_lit _ _ (by decide)) d_MD_init_236 (fun H locs hI => ?_)
  rw [upF_up] at hI
  refine lv_aload_n hx hb d_MD_init_237 rfl (lv_at hl 0 rfl) ?_
  refine cz_get (v := .ref (a0 + 278)) C hI (k0 := 273) (by omega) (by omega) (by rw [upF_n (by decide)]; exact cF_o lay_273) i_MD rfl 5 (by decide) kw_3_76 rfl d_MD_init_238 ?_
  refine lv_iconst (v := (3 : Int32)) hx hb d_MD_init_241 (by decide) ?_
  refine lv_sipush (v := (256 : Int32)) hx hb d_MD_init_242 (by decide) ?_
  refine cz_iast (k0 := 278) (j := 3) C hI (by omega) (by omega) upF_s (by decide) (vi_lit _ _ (by decide)) d_MD_init_245 (fun H locs hI => ?_)
  rw [upF_up] at hI
  refine lv_aload_n hx hb d_MD_init_246 rfl (lv_at hl 0 rfl) ?_
  refine cz_get (v := .ref (a0 + 278)) C hI (k0 := 273) (by omega) (by omega) (by rw [upF_n (by decide)]; exact cF_o lay_273) i_MD rfl 5 (by decide) kw_3_76 rfl d_MD_init_247 ?_
  refine lv_iconst (v := (4 : Int32)) hx hb d_MD_init_250 (by decide) ?_
  refine lv_iconst (v := (4 : Int32)) hx hb d_MD_init_251 (by decide) ?_
  refine cz_iast (k0 := 278) (j := 4) C hI (by omega) (by omega) upF_s (by decide) (vi_lit _ _ (by decide)) d_MD_init_252 (fun H locs hI => ?_)
  rw [upF_up] at hI
  refine lv_aload_n hx hb d_MD_init_253 rfl (lv_at hl 0 rfl) ?_
  refine cz_get (v := .ref (a0 + 278)) C hI (k0 := 273) (by omega) (by omega) (by rw [upF_n (by decide)]; exact cF_o lay_273) i_MD rfl 5 (by decide) kw_3_76 rfl d_MD_init_254 ?_
  refine lv_bipush (v := (6 : Int32)) hx hb d_MD_init_257 (by decide) ?_
  refine lv_sipush (v := (256 : Int32)) hx hb d_MD_init_259 (by decide) ?_
  refine cz_iast (k0 := 278) (j := 6) C hI (by omega) (by omega) upF_s (by decide) (vi_lit _ _ (by decide)) d_MD_init_262 (fun H locs hI => ?_)
  rw [upF_up] at hI
  refine lv_aload_n hx hb d_MD_init_263 rfl (lv_at hl 0 rfl) ?_
  refine cz_get (v := .ref (a0 + 278)) C hI (k0 := 273) (by omega) (by omega) (by rw [upF_n (by decide)]; exact cF_o lay_273) i_MD rfl 5 (by decide) kw_3_76 rfl d_MD_init_264 ?_
  refine lv_bipush (v := (7 : Int32)) hx hb d_MD_init_267 (by decide) ?_
  refine lv_sipush (v := (256 : Int32)) hx hb d_MD_init_269 (by decide) ?_
  refine cz_iast (k0 := 278) (j := 7) C hI (by omega) (by omega) upF_s (by decide) (vi_lit _ _ (by decide)) d_MD_init_272 (fun H locs hI => ?_)
  rw [upF_up] at hI
  have hI := cI_id hI e_first.symm
  exact cz_ret C hr hlk hI (Nat.le_of_ble_eq_true rfl) (Nat.le_of_ble_eq_true rfl) d_MD_init_273


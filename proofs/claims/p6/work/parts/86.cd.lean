def E3 (cy : Nat → ClassId) (a0 t : Nat) : va_E := .inl (cy 3, 12, .inr (.inr (.inr (.inr (fun j => if j < t then some (a0 + (116 + 13 * j)) else none)))))
theorem E3_up {cy : Nat → ClassId} {a0 t : Nat} : (.inl (cy 3, 12, .inr (.inr (.inr (.inr (va_up (fun j => if j < t then some (a0 + (116 + 13 * j)) else none) t (some (a0 + (116 + 13 * t)))))))) : va_E) = E3 cy a0 (t + 1) := by
  refine congrArg (fun g : Nat → Option Nat => (.inl (cy 3, 12, .inr (.inr (.inr (.inr g)))) : va_E)) (funext fun j => ?_)
  by_cases h : j = t
  · subst h
    rw [va_up_self, if_pos (Nat.lt_succ_self _)]
  · rw [va_up_ne _ _ h]
    by_cases h2 : j < t
    · rw [if_pos h2, if_pos (by omega)]
    · rw [if_neg h2, if_neg (by omega)]
theorem E3_0 {cy : Nat → ClassId} {a0 : Nat} : E3 cy a0 0 = .inl (cy 3, 12, .inr (.inr (.inr (.inr (fun _ => none))))) :=
  congrArg (fun g : Nat → Option Nat => (.inl (cy 3, 12, .inr (.inr (.inr (.inr g)))) : va_E)) (funext fun j => if_neg (Nat.not_lt_zero j))
set_option maxHeartbeats 4000000 in
set_option maxRecDepth 100000 in
theorem L_TG_init {p : Program} {l : Launch} {e : Env} {s : State} {m : MethodId} {args : Array Value} {below : List Frame} {meth : Method} {c : Code} {D : va_G} {cy : Nat → ClassId} {a0 : Nat} (C : Cz p s m args c b_TG_init 2 "BoostForests$Training" D cy) (hr : meth.sig.returnType = none) (hlk : meth.locks = false) : ∀ (n t : Nat) (ls : Array Slot) (H : Heap) (locs : List Loc), t + n = 12 → lv_has ls 2 [(1, .int (nI t)), (0, .ref (a0 + 47))] → cI D a0 s (upF (cF cy a0) 109 (E3 cy a0 t)) 47 (116 + 13 * t) H locs → W p l e rz_TG s m args below meth c H locs (68 + 13 * t) (1500 + 323 * t) (cQ below args s rz_TG D (cF cy a0) a0 47 272) (F0 m 83 ls []) := by
  intro n
  induction n with
  | zero =>
    intro t ls H locs ht hl hI
    obtain rfl : t = 12 := by omega
    obtain ⟨hx, hb, hml, hown, hts, hK, hE9⟩ := id C
    refine lv_iload_n hx hb d_TG_init_83 rfl (lv_at hl 0 rfl) ?_
    refine lv_bipush (v := (12 : Int32)) hx hb d_TG_init_84 (by decide) ?_
    refine lv_icmp_ge (tgt := 108) hx hb d_TG_init_86 (by decide) (fun _ => ?_) (fun h => absurd (show (12 : Int32) ≤ nI 12 by decide +kernel) h)
    have hI := cI_id hI (cF_g (t := 0) lay_109)
    exact cz_ret C hr hlk hI (Nat.le_of_ble_eq_true rfl) (Nat.le_of_ble_eq_true rfl) d_TG_init_108
  | succ n ih =>
    intro t ls H locs ht hl hI
    have ht12 : t < 12 := by omega
    have hin : vp_in (nI t) 12 := nI_in ht12 (by decide)
    have hcl : (nI t).toNatClampNeg = t := nI_clamp (by omega)
    obtain ⟨hx, hb, hml, hown, hts, hK, hE9⟩ := id C
    refine lv_iload_n hx hb d_TG_init_83 rfl (lv_at hl 0 rfl) ?_
    refine lv_bipush (v := (12 : Int32)) hx hb d_TG_init_84 (by decide) ?_
    refine lv_icmp_ge (tgt := 108) hx hb d_TG_init_86 (by decide) (fun h => absurd h (nI_ge (b := 12) ht12 (by decide))) (fun _ => ?_)
    refine lv_aload_n hx hb d_TG_init_89 rfl (lv_at hl 1 rfl) ?_
    refine cz_get (v := .ref (a0 + 109)) C hI (k0 := 47) (by omega) (by omega) (by rw [upF_n (by decide)]; exact cF_o lay_47) i_TG rfl 3 (by decide) kw_1_199 rfl d_TG_init_90 ?_
    refine lv_iload_n hx hb d_TG_init_93 rfl (lv_at hl 0 rfl) ?_
    refine cz_new (ci := 6) (hi2 := 116 + 13 * t + 1) C hI i_TR rfl t_TR_ok kw_1_167 kw_1_171 kw_1_7 e_TR h_TR rfl (by show 68 + 13 * t + 1 ≤ 224; omega) (by show 1500 + 323 * t + 3 ≤ 6000; omega) d_TG_init_94 (fun H hI => ?_)
    refine lv_dup hx hb d_TG_init_97 rfl ?_
    refine cz_call (hi := 116 + 13 * t) (hi2 := 116 + 13 * t + 13) C (c_TR_init (isTR_at t ht12) (fun o ho => by omega)) hI (by omega) hl.1 kw_1_174 kw_1_7 kw_1_173 rfl (by decide +kernel) ⟨(Nat.le_of_ble_eq_true rfl), (Nat.le_of_ble_eq_true rfl)⟩ (Or.inl hE9.2.2.2.2.2.1) (fun _ _ _ _ h => h) (fun _ _ _ => trivial) (fun k h1 h2 => upF_n (by omega)) (Nat.le_of_ble_eq_true rfl) (by show 68 + 13 * t + 1 + 12 ≤ 224; omega) (by show 1500 + 323 * t + 3 + 320 ≤ 6000; omega) d_TG_init_98 (fun H locs hI => ?_)
    refine cz_aast (k0 := 109) (k1 := 116 + 13 * t) C hI (by omega) (by omega) (by omega) (by omega) upF_s (by rw [upF_n (by omega)]; exact cF_o (isTR_at t ht12).1) hcl hin d_TG_init_101 (fun H locs hI => ?_)
    rw [upF_up, E3_up] at hI
    refine lv_iinc (k := 0) (v := nI (t + 1)) hx hb d_TG_init_102 hl rfl (nI_succ t).symm (by decide) rfl (fun ls hl => ?_)
    refine lv_goto (tgt := 83) hx hb d_TG_init_105 (by decide) ?_
    refine W.widen (k := 68 + 13 * (t + 1)) (n := 1500 + 323 * (t + 1)) (by show 68 + 13 * t + 1 + 12 ≤ _; omega) (by show 1500 + 323 * t + 3 + 320 ≤ _; omega) ?_
    exact ih (t + 1) ls H locs (by omega) hl (by rw [show 116 + 13 * (t + 1) = 116 + 13 * t + 13 by omega]; exact hI)
set_option maxHeartbeats 4000000 in
set_option maxRecDepth 100000 in
theorem c_TG_init {l : Launch} {D : va_G} {cy : Nat → ClassId} {a0 : Nat} : CI l y_TG_init b_TG_init 2 rz_TG D cy a0 (cF cy a0) (fun _ => True) (.inr (2, e_TG)) 47 272 := by
  refine cz_met (by decide +kernel) rfl (Nat.le_of_ble_eq_true rfl) (fun p e s m args below meth c ls C hr hlk hnm hE hl hI => ?_)
  obtain ⟨hx, hb, hml, hown, hts, hK, hE9⟩ := id C
  refine lv_aload_n hx hb d_TG_init_0 rfl (lv_at hl 0 rfl) ?_
  refine cz_obj C hl.1 kw_1_72 (Nat.le_of_ble_eq_true rfl) (Nat.le_of_ble_eq_true rfl) d_TG_init_1 ?_
  have hI := cI_eq (g := upF (upF (cF cy a0) 109 (E3 cy a0 0)) 47 (.inr (2, e_TG))) hI (fun k h1 h2 => by have hk : k = 47 := (by omega); subst hk; rw [upF_s, upF_s])
  refine lv_aload_n hx hb d_TG_init_4 rfl (lv_at hl 0 rfl) ?_
  refine cz_new (ci := 3) (hi2 := 49) C hI i_GR rfl t_GR_ok kw_1_73 kw_1_74 kw_1_4 e_GR h_GR rfl (Nat.le_of_ble_eq_true rfl) (Nat.le_of_ble_eq_true rfl) d_TG_init_5 (fun H hI => ?_)
  refine lv_dup hx hb d_TG_init_8 rfl ?_
  refine cz_call (hi := 48) (hi2 := 109) C c_GR_init hI (by omega) hl.1 kw_1_77 kw_1_4 kw_1_76 rfl (by decide +kernel) ⟨(Nat.le_of_ble_eq_true rfl), (Nat.le_of_ble_eq_true rfl)⟩ (Or.inl hE9.2.1) (fun _ _ _ _ h => h) (fun _ _ _ => trivial) (fun k h1 h2 => by rw [upF_n (by omega), upF_n (by omega)]) (Nat.le_of_ble_eq_true rfl) (Nat.le_of_ble_eq_true rfl) (Nat.le_of_ble_eq_true rfl) d_TG_init_9 (fun H locs hI => ?_)
  refine cz_putT C hnm hI (by omega) i_TG rfl t_TG_ok n_TG 0 (by decide) kw_1_195 rfl rfl rfl (Nat.le_of_ble_eq_true rfl) [.ref (a0 + 48), .null, .null, .null, .null, .null, .null, .null, .int 0, .int 0] rfl d_TG_init_12 (fun H locs hI => ?_)
  refine lv_aload_n hx hb d_TG_init_15 rfl (lv_at hl 0 rfl) ?_
  refine lv_aload_n hx hb d_TG_init_16 rfl (lv_at hl 0 rfl) ?_
  refine cz_get (v := .ref (a0 + 48)) C hI (k0 := 47) (by omega) (by omega) upF_s i_TG rfl 0 (by decide) kw_1_195 rfl d_TG_init_17 ?_
  refine cz_get (v := .ref (a0 + 49)) C hI (k0 := 48) (by omega) (by omega) (by rw [upF_n (by decide), upF_n (by decide)]; exact cF_o lay_48) i_GR rfl 0 (by decide) kw_1_129 rfl d_TG_init_20 ?_
  refine cz_putT C hnm hI (by omega) i_TG rfl t_TG_ok n_TG 1 (by decide) kw_1_196 rfl rfl rfl (Nat.le_of_ble_eq_true rfl) [.ref (a0 + 48), .ref (a0 + 49), .null, .null, .null, .null, .null, .null, .int 0, .int 0] rfl d_TG_init_23 (fun H locs hI => ?_)
  refine lv_aload_n hx hb d_TG_init_26 rfl (lv_at hl 0 rfl) ?_
  refine lv_aload_n hx hb d_TG_init_27 rfl (lv_at hl 0 rfl) ?_
  refine cz_get (v := .ref (a0 + 48)) C hI (k0 := 47) (by omega) (by omega) upF_s i_TG rfl 0 (by decide) kw_1_195 rfl d_TG_init_28 ?_
  refine cz_get (v := .ref (a0 + 94)) C hI (k0 := 48) (by omega) (by omega) (by rw [upF_n (by decide), upF_n (by decide)]; exact cF_o lay_48) i_GR rfl 1 (by decide) kw_1_131 rfl d_TG_init_31 ?_
  refine cz_putT C hnm hI (by omega) i_TG rfl t_TG_ok n_TG 2 (by decide) kw_1_198 rfl rfl rfl (Nat.le_of_ble_eq_true rfl) [.ref (a0 + 48), .ref (a0 + 49), .ref (a0 + 94), .null, .null, .null, .null, .null, .int 0, .int 0] rfl d_TG_init_34 (fun H locs hI => ?_)
  refine lv_aload_n hx hb d_TG_init_37 rfl (lv_at hl 0 rfl) ?_
  refine lv_bipush (v := (12 : Int32)) hx hb d_TG_init_38 (by decide) ?_
  refine cz_anew (hi2 := 110) (N' := 12) C hI kw_1_167 (by rw [upF_n (by decide), upF_s]; exact E3_0) (by decide) (by decide) (by decide) rfl (Nat.le_of_ble_eq_true rfl) (Nat.le_of_ble_eq_true rfl) d_TG_init_40 (fun H hI => ?_)
  refine cz_putT C hnm hI (by omega) i_TG rfl t_TG_ok n_TG 3 (by decide) kw_1_199 rfl rfl rfl (Nat.le_of_ble_eq_true rfl) [.ref (a0 + 48), .ref (a0 + 49), .ref (a0 + 94), .ref (a0 + 109), .null, .null, .null, .null, .int 0, .int 0] rfl d_TG_init_43 (fun H locs hI => ?_)
  refine lv_aload_n hx hb d_TG_init_46 rfl (lv_at hl 0 rfl) ?_
  refine lv_bipush (v := (40 : Int32)) hx hb d_TG_init_47 (by decide) ?_
  refine cz_long (hi2 := 111) C hI (by rw [upF_n (by decide), upF_n (by decide)]; exact cF_l lay_110) (by decide) (by decide) (by decide) rfl (Nat.le_of_ble_eq_true rfl) (Nat.le_of_ble_eq_true rfl) d_TG_init_49 (fun H hI => ?_)
  refine cz_putT C hnm hI (by omega) i_TG rfl t_TG_ok n_TG 4 (by decide) kw_1_201 rfl rfl rfl (Nat.le_of_ble_eq_true rfl) [.ref (a0 + 48), .ref (a0 + 49), .ref (a0 + 94), .ref (a0 + 109), .ref (a0 + 110), .null, .null, .null, .int 0, .int 0] rfl d_TG_init_51 (fun H locs hI => ?_)
  refine lv_aload_n hx hb d_TG_init_54 rfl (lv_at hl 0 rfl) ?_
  refine lv_bipush (v := (40 : Int32)) hx hb d_TG_init_55 (by decide) ?_
  refine cz_int (hi2 := 112) C hI (by rw [upF_n (by decide), upF_n (by decide)]; exact cF_i lay_111 (by decide) (by decide)) (by decide) (by decide) (by decide) rfl (Nat.le_of_ble_eq_true rfl) (Nat.le_of_ble_eq_true rfl) d_TG_init_57 (fun H hI => ?_)
  refine cz_putT C hnm hI (by omega) i_TG rfl t_TG_ok n_TG 5 (by decide) kw_1_202 rfl rfl rfl (Nat.le_of_ble_eq_true rfl) [.ref (a0 + 48), .ref (a0 + 49), .ref (a0 + 94), .ref (a0 + 109), .ref (a0 + 110), .ref (a0 + 111), .null, .null, .int 0, .int 0] rfl d_TG_init_59 (fun H locs hI => ?_)
  refine lv_aload_n hx hb d_TG_init_62 rfl (lv_at hl 0 rfl) ?_
  refine lv_iconst (v := (2 : Int32)) hx hb d_TG_init_63 (by decide) ?_
  refine lv_bipush (v := (13 : Int32)) hx hb d_TG_init_64 (by decide) ?_
  refine cz_gridL (hi2 := 115) C hI kw_1_169 (by rw [upF_n (by decide), upF_n (by decide)]; exact cF_g (t := 2) lay_112) (fun j hj => by rw [upF_n (by omega), upF_n (by omega)]; exact cF_l (lay_losses j hj)) (by decide) (by decide) (by decide) (by decide) (by decide) (by decide) (by decide) rfl (Nat.le_of_ble_eq_true rfl) (Nat.le_of_ble_eq_true rfl) d_TG_init_66 (fun H hI => ?_)
  refine cz_putT C hnm hI (by omega) i_TG rfl t_TG_ok n_TG 6 (by decide) kw_1_204 rfl rfl rfl (Nat.le_of_ble_eq_true rfl) [.ref (a0 + 48), .ref (a0 + 49), .ref (a0 + 94), .ref (a0 + 109), .ref (a0 + 110), .ref (a0 + 111), .ref (a0 + 112), .null, .int 0, .int 0] rfl d_TG_init_70 (fun H locs hI => ?_)
  refine lv_aload_n hx hb d_TG_init_73 rfl (lv_at hl 0 rfl) ?_
  refine lv_bipush (v := (31 : Int32)) hx hb d_TG_init_74 (by decide) ?_
  refine cz_long (hi2 := 116) C hI (by rw [upF_n (by decide), upF_n (by decide)]; exact cF_l lay_115) (by decide) (by decide) (by decide) rfl (Nat.le_of_ble_eq_true rfl) (Nat.le_of_ble_eq_true rfl) d_TG_init_76 (fun H hI => ?_)
  refine cz_putT C hnm hI (by omega) i_TG rfl t_TG_ok n_TG 7 (by decide) kw_1_206 rfl rfl rfl (Nat.le_of_ble_eq_true rfl) [.ref (a0 + 48), .ref (a0 + 49), .ref (a0 + 94), .ref (a0 + 109), .ref (a0 + 110), .ref (a0 + 111), .ref (a0 + 112), .ref (a0 + 115), .int 0, .int 0] rfl d_TG_init_78 (fun H locs hI => ?_)
  have hI := cI_id hI (by rw [upF_n (by decide)]; exact cF_o lay_47)
  refine lv_iconst (v := (0 : Int32)) hx hb d_TG_init_81 (by decide) ?_
  refine lv_istore_n hx hb d_TG_init_82 rfl hl (by decide) rfl (fun ls hl => ?_)
  refine W.widen (k := 68 + 13 * 0) (n := 1500 + 323 * 0) (Nat.le_of_ble_eq_true rfl) (Nat.le_of_ble_eq_true rfl) ?_
  exact L_TG_init C hr hlk 12 0 ls H locs rfl hl hI


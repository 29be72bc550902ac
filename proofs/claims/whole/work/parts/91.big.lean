def FB (cy : Nat → ClassId) (a0 : Nat) : Nat → va_E := upF (cF cy a0) 46 (.inl (cy 0, 4294967311, .inl c_FIRST))
def rz_BB : Room := { frames := 4, cells := 272, slots := 7000 + 4294967311, locals := 73 }
set_option maxHeartbeats 4000000 in
set_option maxRecDepth 100000 in
theorem c_BF_big {l : Launch} {D : va_G} {cy : Nat → ClassId} {a0 : Nat} {ta : Nat} : CI l y_BF_init b_BF_init 1 rz_BB D cy a0 (FB cy a0) (cB cy a0 ta 4294967311) (.inr (0, e_BF)) 0 273 := by
  refine cz_met (by decide +kernel) rfl (Nat.le_of_ble_eq_true rfl) (fun p e s m args below meth c ls C hr hlk hnm hE hl hI => ?_)
  obtain ⟨hx, hb, hml, hown, hts, hK, hE9⟩ := id C
  refine lv_aload_n hx hb d_BF_init_0 rfl (lv_at hl 0 rfl) ?_
  refine cz_obj C hl.1 kw_1_17 (Nat.le_of_ble_eq_true rfl) (Nat.le_of_ble_eq_true rfl) d_BF_init_1 ?_
  refine lv_aload_n hx hb d_BF_init_4 rfl (lv_at hl 0 rfl) ?_
  refine cz_new (ci := 1) (hi2 := 2) C hI i_TB rfl t_TB_ok kw_1_20 kw_1_21 kw_1_2 e_TB h_TB rfl (Nat.le_of_ble_eq_true rfl) (Nat.le_of_ble_eq_true rfl) d_BF_init_5 (fun H hI => ?_)
  refine lv_dup hx hb d_BF_init_8 rfl ?_
  refine cz_call (hi := 1) (hi2 := 46) C (c_TB_init isTB_1 (fun o ho => by omega)) hI (by omega) hl.1 kw_1_24 kw_1_2 kw_1_23 rfl (by decide +kernel) ⟨(Nat.le_of_ble_eq_true rfl), (Nat.le_of_ble_eq_true rfl)⟩ (Or.inl hE9.1) (fun _ _ _ _ h => h) (fun _ _ _ => trivial) (fun k h1 h2 => by rw [upF_n (by omega)]; exact upF_n (by omega)) (Nat.le_of_ble_eq_true rfl) (Nat.le_of_ble_eq_true rfl) (Nat.le_of_ble_eq_true rfl) d_BF_init_9 (fun H locs hI => ?_)
  refine cz_putT C hnm hI (by omega) i_BF rfl t_BF_ok n_BF 0 (by decide) kw_1_232 rfl rfl rfl (Nat.le_of_ble_eq_true rfl) [.ref (a0 + 1), .null, .null, .null] rfl d_BF_init_12 (fun H locs hI => ?_)
  refine lv_aload_n hx hb d_BF_init_15 rfl (lv_at hl 0 rfl) ?_
  refine va_gets hx hb hE.1 hI.2.2 hown (hts _ kw_1_58) (fun _ h => h) d_BF_init_16 ?_
  refine cz_clone (n := 4294967311) (g := c_FIRST) (hi2 := 47) C hl.1 hI kw_1_60 hE.2.2.2.2 hE.2.2.2.1 ((hI.2.2.2.1 _ (Array.getElem?_eq_some_iff.mp hE.2.1).1 (by have := hE.2.2.1; omega)).trans hE.2.1) (by rw [upF_n (by decide)]; exact upF_s) rfl (Nat.le_of_ble_eq_true rfl) (Nat.le_of_ble_eq_true rfl) (Nat.le_of_ble_eq_true rfl) (Nat.le_of_ble_eq_true rfl) d_BF_init_19 (fun H hI => ?_)
  refine va_castA (cA := cy 0) (x := (4294967311, .inl c_FIRST)) (nm := "[I") hx hb hown (hts _ kw_1_66) (cz_one (k0 := 46) hI (by omega) (by omega) (by rw [upF_n (by decide)]; exact upF_s)) 0 rfl (va_nm_int (hK.2 0 _ rfl).2) d_BF_init_22 ?_
  refine cz_putT C hnm hI (by omega) i_BF rfl t_BF_ok n_BF 1 (by decide) kw_1_233 rfl rfl rfl (Nat.le_of_ble_eq_true rfl) [.ref (a0 + 1), .ref (a0 + 46), .null, .null] rfl d_BF_init_25 (fun H locs hI => ?_)
  refine lv_aload_n hx hb d_BF_init_28 rfl (lv_at hl 0 rfl) ?_
  refine cz_new (ci := 2) (hi2 := 48) C hI i_TG rfl t_TG_ok kw_1_67 kw_1_68 kw_1_3 e_TG h_TG rfl (Nat.le_of_ble_eq_true rfl) (Nat.le_of_ble_eq_true rfl) d_BF_init_29 (fun H hI => ?_)
  refine lv_dup hx hb d_BF_init_32 rfl ?_
  refine cz_call (hi := 47) (hi2 := 272) C c_TG_init hI (by omega) hl.1 kw_1_71 kw_1_3 kw_1_70 rfl (by decide +kernel) ⟨(Nat.le_of_ble_eq_true rfl), (Nat.le_of_ble_eq_true rfl)⟩ (Or.inr kw_1_69) (fun _ _ _ _ h => h) (fun _ _ _ => trivial) (fun k h1 h2 => by rw [upF_n (by omega)]; exact upF_n (by omega)) (Nat.le_of_ble_eq_true rfl) (Nat.le_of_ble_eq_true rfl) (Nat.le_of_ble_eq_true rfl) d_BF_init_33 (fun H locs hI => ?_)
  refine cz_putT C hnm hI (by omega) i_BF rfl t_BF_ok n_BF 2 (by decide) kw_1_234 rfl rfl rfl (Nat.le_of_ble_eq_true rfl) [.ref (a0 + 1), .ref (a0 + 46), .ref (a0 + 47), .null] rfl d_BF_init_36 (fun H locs hI => ?_)
  refine lv_aload_n hx hb d_BF_init_39 rfl (lv_at hl 0 rfl) ?_
  refine lv_iconst (v := (4 : Int32)) hx hb d_BF_init_40 (by decide) ?_
  refine cz_int (hi2 := 273) C hI (by rw [upF_n (by decide)]; show upF _ _ _ _ = _; rw [upF_n (by decide)]; exact cF_i lay_272 (by decide) (by decide)) (by decide) (by decide) (by decide) rfl (Nat.le_of_ble_eq_true rfl) (Nat.le_of_ble_eq_true rfl) d_BF_init_41 (fun H hI => ?_)
  refine cz_putT C hnm hI (by omega) i_BF rfl t_BF_ok n_BF 3 (by decide) kw_1_235 rfl rfl rfl (Nat.le_of_ble_eq_true rfl) [.ref (a0 + 1), .ref (a0 + 46), .ref (a0 + 47), .ref (a0 + 272)] rfl d_BF_init_43 (fun H locs hI => ?_)
  have hI := cI_id hI (by show upF _ _ _ _ = _; rw [upF_n (by decide)]; exact cF_o lay_0)
  exact cz_ret C hr hlk hI (Nat.le_of_ble_eq_true rfl) (Nat.le_of_ble_eq_true rfl) d_BF_init_46
theorem vp_size_i (c : ClassId) (n : Nat) (f : Nat → Int32) : (vp_cell c (n, .inl f)).slots.size = n := arrV_size _ _ _
def rz_LB : Room := { frames := 9, cells := 600000, slots := 20000 + 4294967311, locals := 346 }
def bigIs (args : Array Value) (s : State) : Prop := ∃ (ta : Nat) (cA : ClassId), (Term.static "BoostForests" "AT_FIRST" "[I").eval args s none [] s = some (.ref ta) ∧ s.vm.findClass "[I" = some cA ∧ s.heap[ta]? = some (vp_cell cA (4294967311, .inl c_FIRST))
/-- the end, and a new cell of so many slots -/
def bigEnd (below : List Frame) (s : State) : State → Prop := fun t => ∃ oc : Outcome, t.status = .running ∧ Ended t below oc ∧ ∃ k9 : Cell, t.heap[s.heap.size + 46]? = some k9 ∧ k9.slots.size = 4294967311
theorem big_ret {p : Program} {l : Launch} {e : Env} {R : Room} {s : State} {m : MethodId} {below : List Frame} {meth : Method} {c : Code} {b : Nat} (hx : p.tables.exec = Jvm.exec) (hb : c.code = code) (hr : meth.sig.returnType = ret) (hlocks : meth.locks = false) {pc cells slots : Nat} {H : Heap} {locs : List Loc} {ls : Array Slot} (hdg : decode code pc = .ok (.ireturn, 1)) (hH : ∃ k9 : Cell, H[s.heap.size + 46]? = some k9 ∧ k9.slots.size = 4294967311) : W p l e R s m #[Value.ref b] below meth c H locs cells slots (bigEnd below s) (F0 m pc ls [.int 1]) := by
  intro T hT X
  obtain ⟨fs, hret, hrun, hended, hW, hframe⟩ := X.leave (v := some (.int 1)) (hlocks := hlocks) (fun h => by rw [hr] at h; cases h)
  have hmeth' : T.vm.method? m = some meth := X.method'
  refine ⟨T.setFrames fs, ?_, .returned (some (.int 1)), hrun, hended, by show ∃ k9 : Cell, T.heap[s.heap.size + 46]? = some k9 ∧ _; rw [hT]; exact hH⟩
  jvm_step X.here [X.here.top, hx, hb, hdg, hmeth', hr, ret, narrow_b1]
  (try refine ⟨rfl, ?_⟩); (try refine ⟨rfl, ?_⟩)
  first | (intro acts; rw [hret _ acts rfl rfl rfl]) | rw [hret _ _ rfl rfl rfl]
  exact Steps.refl _
set_option maxHeartbeats 4000000 in
set_option maxRecDepth 100000 in
theorem big_law {p : Program} {e : Env} {s : State} {m : MethodId} {below : List Frame} {meth : Method} {c : Code} (l : Launch) {b : Nat} {xs : Nat → Int32} (C0 : lw_At p s m meth c b 0 xs) (hF : bigIs #[Value.ref b] s) : W p l e rz_LB s m #[Value.ref b] below meth c s.heap [] 0 0 (bigEnd below s) (entryFrame m ([Value.ref b] : List Value).toArray 4) := by
  obtain ⟨hx, hb, hr, hml, hown, hlw, hX, hbl, hlk, hgv⟩ := C0
  obtain ⟨D, cy, hK⟩ := start_K hlw
  have hts : ∀ w ∈ gw_tbl, w.before #[Value.ref b] s = true := fun w h => hlw w (gw_in w h)
  have hE : cE s := ⟨va_Nw.of rfl (hlw _ kl_1_22), va_Nw.of rfl (hlw _ kl_1_75), va_Nw.of rfl (hlw _ kl_1_80), va_Nw.of rfl (hlw _ kl_1_84), va_Nw.of rfl (hlw _ kl_1_105), va_Nw.of rfl (hlw _ kl_1_172), va_AO.of (hlw _ kl_1_168), cAA.of (hlw _ kl_1_27), cAA.of (hlw _ kl_1_170)⟩
  have C : Cz p s m #[Value.ref b] c code 4 "BoostForestsLaw" D cy := ⟨hx, hb, hml, hown, hts, hK, hE⟩
  generalize ha0 : s.heap.size = a0
  obtain ⟨ta, cA, g1, g2, g3⟩ := hF
  have ecA : cA = cy 0 := Option.some.inj (g2.symm.trans (va_nm_int (hK.2 0 _ rfl).2))
  subst ecA
  have hta : ta < a0 := by rw [← ha0]; exact (Array.getElem?_eq_some_iff.mp g3).1
  have hB : cB cy a0 ta 4294967311 s := ⟨va_Zof (hlw _ kl_1_59) (hts _ kw_1_1) g1 (fun a h => by omega), g3, hta, va_Nw.of rfl (hlw _ kl_1_65), hlw _ kl_1_61⟩
  have hl := lv_entry ([.ref b]) (n := 4) (Nat.le_of_ble_eq_true rfl)
  rw [lg_entry_eq]
  generalize (lg_sl ([.ref b]) ++ List.replicate (4 - (lg_sl ([.ref b])).length) Slot.unset).toArray = ls at hl ⊢
  have hl : lv_has ls 4 [(0, .ref b)] := hl
  have hI : cI D a0 s (FB cy a0) 0 0 s.heap [] := ⟨ha0, fun k h1 h2 => absurd h2 (Nat.not_lt_zero k), va_S.rf⟩
  refine cz_new (ci := 0) (hi2 := 1) C hI i_BF rfl t_BF_ok kw_1_12 kw_1_13 kw_1_1 e_BF h_BF rfl (Nat.le_of_ble_eq_true rfl) (Nat.le_of_ble_eq_true rfl) d_LW_law_0 (fun H hI => ?_)
  refine lv_dup hx hb d_LW_law_3 rfl ?_
  refine cz_call (hi := 0) (hi2 := 273) C (c_BF_big (ta := ta)) hI (Nat.le_refl 0) hl.1 kw_1_16 kw_1_1 kw_1_15 rfl (by decide +kernel) ⟨(Nat.le_of_ble_eq_true rfl), (Nat.le_of_ble_eq_true rfl)⟩ (Or.inr kw_1_14) (fun _ _ _ _ h => cB_call h) (fun U hU hW => cB_warm hW (fun q q1 q2 => by rw [hU]; exact hI.2.2.2.1 q q1 q2) hB) (fun _ _ _ => rfl) (Nat.le_of_ble_eq_true rfl) (Nat.le_of_ble_eq_true rfl) (Nat.le_of_ble_eq_true rfl) d_LW_law_4 (fun H locs hI => ?_)
  refine lv_astore_n hx hb d_LW_law_7 rfl hl (by decide) rfl (fun ls hl => ?_)
  refine cz_new (ci := 7) (hi2 := 274) C hI i_MD rfl t_MD_ok kw_3_65 kw_3_66 kw_1_8 e_MD h_MD rfl (Nat.le_of_ble_eq_true rfl) (Nat.le_of_ble_eq_true rfl) d_LW_law_8 (fun H hI => ?_)
  refine lv_dup hx hb d_LW_law_11 rfl ?_
  refine cz_call (hi := 273) (hi2 := 299) C c_MD_init hI (Nat.zero_le _) hl.1 kw_3_69 kw_1_8 kw_3_68 rfl (by decide +kernel) ⟨(Nat.le_of_ble_eq_true rfl), (Nat.le_of_ble_eq_true rfl)⟩ (Or.inr kw_3_67) (fun _ _ _ _ h => h) (fun _ _ _ => trivial) (fun k h1 h2 => upF_n (by omega)) (Nat.le_of_ble_eq_true rfl) (Nat.le_of_ble_eq_true rfl) (Nat.le_of_ble_eq_true rfl) d_LW_law_12 (fun H locs hI => ?_)
  refine lv_astore_n hx hb d_LW_law_15 rfl hl (by decide) rfl (fun ls hl => ?_)
  refine lv_iconst (v := (0 : Int32)) hx hb d_LW_law_16 (by decide) ?_
  refine lv_istore_n hx hb d_LW_law_17 rfl hl (by decide) rfl (fun ls hl => ?_)
  have hl := lv_sub hl [3, 2, 1, 0] rfl
  refine lv_iload_n hx hb d_LW_law_18 rfl (lv_at hl 3 rfl) ?_
  refine lv_aload_n hx hb d_LW_law_19 rfl (lv_at hl 0 rfl) ?_
  refine va_slen hx hb hX hbl (A := fun q => a0 + 0 ≤ q) (by show ¬ a0 + 0 ≤ b; omega) hI.2.2 d_LW_law_20 ?_
  refine lv_bipush (v := (7 : Int32)) hx hb d_LW_law_21 (by decide) ?_
  refine lv_isub hx hb d_LW_law_23 ?_
  refine lv_icmp_gt (tgt := 799) hx hb d_LW_law_24 (by decide) (fun _ => ?_) (fun h => absurd (by decide +kernel) h)
  refine lv_iconst (v := (1 : Int32)) hx hb d_LW_law_799 (by decide) ?_
  refine big_ret hx hb hr hlk d_LW_law_800 ?_
  have h46 := hI.2.1 46 (by omega) (by omega)
  have h46 : H[a0 + 46]? = some (vp_cell (cy 0) (4294967311, .inl c_FIRST)) := by
    have e9 : FB cy a0 46 = .inl (cy 0, 4294967311, .inl c_FIRST) := upF_s
    rw [e9] at h46
    exact h46
  rw [ha0]
  exact ⟨_, h46, vp_size_i _ _ _⟩

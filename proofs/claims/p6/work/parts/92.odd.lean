def kcode : ByteArray := ⟨#[0x10, 0x74, 0x10, 0x10, 0x78, 0xbc, 0x0a, 0xb0]⟩
def y_K : MethodName := ⟨"[K", "clone", "()Ljava/lang/Object;"⟩
abbrev x_K : MethodName := ⟨"[I", "clone", "()Ljava/lang/Object;"⟩
theorem dK_0 : decode kcode 0 = .ok (.bipush 116, 2) := by decide +kernel
theorem dK_2 : decode kcode 2 = .ok (.bipush 16, 2) := by decide +kernel
theorem dK_4 : decode kcode 4 = .ok (.ishl, 1) := by decide +kernel
theorem dK_5 : decode kcode 5 = .ok (.newarray .int, 2) := by decide +kernel
theorem dK_7 : decode kcode 7 = .ok (.areturn, 1) := by decide +kernel
def rz_K : Room := { frames := 0, cells := 1, slots := 7602176, locals := 0 }
def eK (cy : Nat → ClassId) : va_E := .inl (cy 0, 7602176, .inl (fun _ => 0))
def FB (cy : Nat → ClassId) (a0 : Nat) : Nat → va_E := upF (cF cy a0) 46 (eK cy)
theorem FB_46 {cy : Nat → ClassId} {a0 : Nat} : FB cy a0 46 = eK cy := upF_s
def rz_BB : Room := { frames := 4, cells := 272, slots := 7000 + 7602176, locals := 73 }
def rz_LB : Room := { frames := 9, cells := 600000, slots := 20000 + 7602176, locals := 346 }
theorem vp_size_i (c : ClassId) (n : Nat) (f : Nat → Int32) : (vp_cell c (n, .inl f)).slots.size = n := arrV_size _ _ _
set_option maxHeartbeats 4000000 in
set_option maxRecDepth 100000 in
theorem c_K {l : Launch} {D : va_G} {cy : Nat → ClassId} {a0 ta : Nat} : Met l y_K (Cond.code y_K kcode 1 (some (.object "java/lang/Object")) :: gw_tbl) rz_K (va_Pc [.ref ta] (fun U => U.heap.size = a0 + 46 ∧ va_K D vCl (gT cy) U ∧ cE U)) (va_Qr (fun _ : Unit => True) (fun _ a t => a = a0 + 46 ∧ t.heap.size = a0 + 47 ∧ va_at D vCl (a0 + 46, FB cy a0 46) t.heap) (fun q => a0 + 46 ≤ q)) 1 7602176 (fun q => a0 + 46 ≤ q) := by
  refine Met.ofW (cc := kcode) (maxL := 1) (ret := (some (.object "java/lang/Object"))) (by decide +kernel) rfl ?_
  intro p e s m args below meth c s₁ B hml hv
  obtain ⟨rfl, hsz, hK, hE⟩ := hv
  have hts := atoms_spec (ws := Cond.code y_K kcode 1 (some (.object "java/lang/Object")) :: gw_tbl) B.pre
  have hlk := B.notSynchronized
  have C : Cz p s m ([.ref ta] : List Value).toArray c kcode 1 "[K" D cy := ⟨B.exec, B.bytes, hml, findClass_of_methodNamed B.named, fun w hw => hts w (List.mem_cons_of_mem _ hw), hK, hE⟩
  obtain ⟨hx, hb, -, hown, hts, hK, hE9⟩ := id C
  rw [lg_entry_eq]
  generalize (lg_sl ([.ref ta]) ++ List.replicate (1 - (lg_sl ([.ref ta])).length) Slot.unset).toArray = ls
  have hI : cI D a0 s (FB cy a0) 46 46 s.heap [] := ⟨hsz, fun k h1 h2 => absurd h2 (by omega), va_S.rf⟩
  refine lv_bipush (v := (116 : Int32)) hx hb dK_0 (by decide) ?_
  refine lv_bipush (v := (16 : Int32)) hx hb dK_2 (by decide) ?_
  refine lv_ishl hx hb dK_4 ?_
  refine cz_int (hi2 := 47) (N' := 7602176) C hI FB_46 (by decide +kernel) (by decide +kernel) (by decide +kernel) rfl (Nat.le_of_ble_eq_true rfl) (Nat.le_of_ble_eq_true rfl) dK_5 (fun H hI => ?_)
  exact W.aret (hlocks := hlk) hx hb B.returns (Or.inl ⟨_, rfl⟩) (Or.inr ⟨_, rfl⟩) (fun t ht hW => ⟨⟨(), a0 + 46, rfl, trivial, rfl, by rw [ht]; exact hI.1, by rw [ht]; exact hI.2.1 46 (Nat.le_refl _) (by omega)⟩, hI.2.2.F ht⟩) hI.2.2.2.2 dK_7
def cBK (cy : Nat → ClassId) (a0 ta : Nat) (U : State) : Prop := va_Z "BoostForests" "AT_FIRST" "[I" (.ref ta) (fun q => a0 ≤ q) U U.heap ∧ (∃ cell : Cell, U.heap[ta]? = some cell ∧ cell.vm.isStatics = false ∧ U.vm.findClass "[K" = some cell.cls) ∧ ta < a0 ∧ va_Nw (.sameMethod "[I" "java/lang/Object" "clone" "()Ljava/lang/Object;") U ∧ va_Nw (.selects "[K" x_K y_K) U ∧ va_Nw (.instanceMethod y_K) U ∧ va_Nw (.initialized "[K") U ∧ va_Nw (.code y_K kcode 1 (some (.object "java/lang/Object"))) U
theorem cBK_call {cy : Nat → ClassId} {a0 ta : Nat} {U : State} {g : JFrame} {mk : MethodId} {a : Array Value} (h : cBK cy a0 ta U) : cBK cy a0 ta (U.calling g mk a) := ⟨va_Z.moved (u := U) (U := U.calling g mk a) (Vm.Alike.refl U.vm) h.1, h.2.1, h.2.2.1, h.2.2.2.1, va_Nw.same rfl rfl h.2.2.2.2.1, va_Nw.same rfl rfl h.2.2.2.2.2.1, va_Nw.same rfl rfl h.2.2.2.2.2.2.1, va_Nw.same rfl rfl h.2.2.2.2.2.2.2⟩
theorem cBK_warm {cy : Nat → ClassId} {a0 ta : Nat} {s U : State} (hW : s.WarmedH U.vm) (hk : ∀ q : Nat, q < s.heap.size → ¬ a0 ≤ q → U.heap[q]? = s.heap[q]?) (h : cBK cy a0 ta s) : cBK cy a0 ta U := by
  obtain ⟨h1, ⟨cell, g1, g2, g3⟩, h3, h4, h5, h6, h7, h8⟩ := h
  exact ⟨va_Z.moved hW.alike (va_Z.kept h1 hk), ⟨cell, (hk ta (Array.getElem?_eq_some_iff.mp g1).1 (by omega)).trans g1, g2, by rw [hW.alike.findClass]; exact g3⟩, h3, Cond.sameMethod_setVm (args := #[]) hW.alike (by decide) h4, word_at hW (Or.inl rfl) h5, word_at hW (Or.inl rfl) h6, word_at hW (Or.inl rfl) h7, word_at hW (Or.inl rfl) h8⟩
theorem decl_clone {args : Array Value} {s : State} (hi : (Cond.instanceMethod ⟨"java/lang/Object", "clone", "()Ljava/lang/Object;"⟩).before args s = true) (hn : (Cond.native ⟨"java/lang/Object", "clone", "()Ljava/lang/Object;"⟩).before args s = true) : va_Decl s ⟨"java/lang/Object", "clone", "()Ljava/lang/Object;"⟩ := by
  obtain ⟨r0, r, h1, h2, h3, -⟩ := Cond.instanceMethod_spec hi
  refine ⟨r0, r, h1, h2, h3, ?_⟩
  simp [Cond.before, Cond.holds, Cond.value, h1, h2] at hn
  exact hn.2
set_option maxHeartbeats 4000000 in
set_option maxRecDepth 100000 in
theorem c_BF_odd {l : Launch} {D : va_G} {cy : Nat → ClassId} {a0 : Nat} {ta : Nat} : CI l y_BF_init b_BF_init 1 rz_BB D cy a0 (FB cy a0) (cBK cy a0 ta) (.inr (0, e_BF)) 0 273 := by
  refine cz_met (by decide +kernel) rfl (Nat.le_of_ble_eq_true rfl) (fun p e s m args below meth c ls C hr hlk hnm hE hl hI => ?_)
  obtain ⟨hx, hb, hml, hown, hts, hK, hE9⟩ := id C
  refine lv_aload_n hx hb d_BF_init_0 rfl (lv_at hl 0 rfl) ?_
  refine cz_obj C hl.1 kw_1_17 (Nat.le_of_ble_eq_true rfl) (Nat.le_of_ble_eq_true rfl) d_BF_init_1 ?_
  refine lv_aload_n hx hb d_BF_init_4 rfl (lv_at hl 0 rfl) ?_
  refine cz_new (ci := 1) (hi2 := 2) C hI i_TB rfl t_TB_ok kw_1_20 kw_1_21 kw_1_2 e_TB h_TB rfl (Nat.le_of_ble_eq_true rfl) (Nat.le_of_ble_eq_true rfl) d_BF_init_5 (fun H hI => ?_)
  refine lv_dup hx hb d_BF_init_8 rfl ?_
  refine cz_call (hi := 1) (hi2 := 46) C (c_TB_init isTB_1 (fun o ho => by omega)) hI (by omega) hl.1 kw_1_24 kw_1_2 kw_1_23 rfl (by decide +kernel) ⟨(Nat.le_of_ble_eq_true rfl), (Nat.le_of_ble_eq_true rfl)⟩ (Or.inl hE9.1) (fun _ _ _ _ h => h) (fun _ _ _ => trivial) (fun k h1 h2 => by rw [upF_n (by omega)]; exact upF_n (by omega)) (Nat.le_of_ble_eq_true rfl) (Nat.le_of_ble_eq_true rfl) (Nat.le_of_ble_eq_true rfl) d_BF_init_9 (fun H locs hI => ?_)
  refine cz_putT C hnm hI (by omega) i_BF rfl t_BF_ok n_BF 0 (by decide) kw_1_232 rfl rfl rfl (Nat.le_of_ble_eq_true rfl) [.ref (a0 + 1), .null, .null, .null] rfl d_BF_init_12 (fun H locs hI => ?_)
  refine lv_aload_n hx hb d_BF_init_15 rfl (lv_at hl 0 rfl) ?_
  refine va_gets hx hb hE.1 hI.2.2 hown (hts _ kw_1_58) (fun _ h => h) d_BF_init_16 ?_
  obtain ⟨z1, ⟨cell, z2, z3, z4⟩, z5, z6, z7, z8, z9, z10⟩ := id hE
  have hta : H[ta]? = some cell := (hI.2.2.2.1 _ (Array.getElem?_eq_some_iff.mp z2).1 (by omega)).trans z2
  have hwarm : ∀ w ∈ Cond.code y_K kcode 1 (some (.object "java/lang/Object")) :: gw_tbl, ∀ (a9 : Array Value) (U : State), s.WarmedH U.vm → w.before a9 U = true := by
    intro w hw a9 U hW
    rcases List.mem_cons.mp hw with h | h
    · rw [h]; exact word_at hW (Or.inl rfl) z10
    · exact pay_in hts (gGood kw_1_16) w (List.mem_cons_of_mem _ h) a9 U hW
  have hrun := va_runU (l := l) (e := e) (R := rz_BB) (meth := meth) (below := below) (locs := locs) (cells := 0 + 1 + rz_TB.cells) (slots := 0 + 5 + rz_TB.slots) (x := x_K) (y := y_K) (bytes := kcode) (maxL := 1) (ret := (some (.object "java/lang/Object"))) (n := 0) (index := 20) (owner := "java/lang/Object") (C := "[K") (b := ta) (As := []) (rest := [.ref (a0 + 0)]) (Ts := gw_tbl) (g := F0 m (16 + 3) ls [.ref ta, .ref (a0 + 0)]) ⟨hx, hb, hml, hown, hts⟩ (c_K (l := l) (D := D) (cy := cy) (a0 := a0) (ta := ta))
    ⟨⟨rfl, rfl, (Nat.le_of_ble_eq_true rfl), (Nat.le_of_ble_eq_true rfl), hwarm, List.mem_cons_self⟩, va_Nw.use rfl z10, va_Nw.use rfl z9, ⟨by decide, by decide⟩, fun sig h => (by have h2 : (parseMethodDescriptor "()Ljava/lang/Object;").map (fun d => d.parameters.length) = some 0 := (by decide +kernel); rw [h] at h2; exact (Option.some.inj h2).symm), hts _ kw_1_60, z6, decl_clone (hts _ kw_1_63) (hts _ kw_1_62), va_Nw.use rfl z7, va_Nw.use rfl z8⟩
    ⟨fun a U g mk q => ⟨q.1, q.2.1, va_K.moved (u := U) (U := U.calling g mk a) (Vm.Alike.refl U.vm) q.2.2.1, cE_call q.2.2.2⟩, ⟨cell, hta, z3, z4⟩, fun U hU hW => ⟨rfl, by rw [hU]; exact hI.1, va_K.moved hW.alike hK, cE_warm hW hE9⟩⟩ rfl rfl hl.1 rfl (lv_room (Nat.le_of_ble_eq_true rfl)) d_BF_init_19 ⟨(Nat.le_of_ble_eq_true rfl), (Nat.le_of_ble_eq_true rfl)⟩
  refine va_callr hrun hI.2.2 (fun q _ h => by show a0 + 0 ≤ q; have h : a0 + 46 ≤ q := h; omega) (fun q h => by show a0 + 0 ≤ q; have h : a0 + 46 ≤ q := h; omega) (fun u ra t H1 locs1 ht hvm _ hB hz hk hS => ?_)
  obtain ⟨rfl, b1, b2⟩ := hB
  rw [ht] at b1 b2
  have hI : cI D a0 s (upF (FB cy a0) 0 (.inr (0, [.ref (a0 + 1), .null, .null, .null]))) 0 47 H1 locs1 := by
    refine ⟨b1, fun k g0 g1 => ?_, hS⟩
    by_cases hk6 : k = 46
    · subst hk6; rw [upF_n (by decide)]; exact b2
    · exact (hI.2.1 k g0 (by omega)).kept (hk _ (by rw [hI.1]; show a0 + k < _; omega) (by show ¬ a0 + 46 ≤ a0 + k; omega))
  refine va_castA (cA := cy 0) (x := (7602176, .inl (fun _ => 0))) (nm := "[I") hx hb hown (hts _ kw_1_66) (cz_one (k0 := 46) hI (by omega) (by omega) (by rw [upF_n (by decide)]; exact FB_46)) 0 rfl (va_nm_int (hK.2 0 _ rfl).2) d_BF_init_22 ?_
  refine cz_putT C hnm hI (by omega) i_BF rfl t_BF_ok n_BF 1 (by decide) kw_1_233 rfl rfl rfl (Nat.le_of_ble_eq_true rfl) [.ref (a0 + 1), .ref (a0 + 46), .null, .null] rfl d_BF_init_25 (fun H locs hI => ?_)
  refine lv_aload_n hx hb d_BF_init_28 rfl (lv_at hl 0 rfl) ?_
  refine cz_new (ci := 2) (hi2 := 48) C hI i_TG rfl t_TG_ok kw_1_67 kw_1_68 kw_1_3 e_TG h_TG rfl (Nat.le_of_ble_eq_true rfl) (Nat.le_of_ble_eq_true rfl) d_BF_init_29 (fun H hI => ?_)
  refine lv_dup hx hb d_BF_init_32 rfl ?_
  refine cz_call (hi := 47) (hi2 := 272) C c_TG_init hI (by omega) hl.1 kw_1_71 kw_1_3 kw_1_70 rfl (by decide +kernel) ⟨(Nat.le_of_ble_eq_true rfl), (Nat.le_of_ble_eq_true rfl)⟩ (Or.inr kw_1_69) (fun _ _ _ _ h => h) (fun _ _ _ => trivial) (fun k h1 h2 => by rw [upF_n (by omega)]; exact upF_n (by omega)) (Nat.le_of_ble_eq_true rfl) (Nat.le_of_ble_eq_true rfl) (Nat.le_of_ble_eq_true rfl) d_BF_init_33 (fun H locs hI => ?_)
  refine cz_putT C hnm hI (by omega) i_BF rfl t_BF_ok n_BF 2 (by decide) kw_1_234 rfl rfl rfl (Nat.le_of_ble_eq_true rfl) [.ref (a0 + 1), .ref (a0 + 46), .ref (a0 + 47), .null] rfl d_BF_init_36 (fun H locs hI => ?_)
  refine lv_aload_n hx hb d_BF_init_39 rfl (lv_at hl 0 rfl) ?_
  refine lv_iconst (v := (4 : Int32)) hx hb d_BF_init_40 (by decide) ?_
  refine cz_int (hi2 := 273) C hI (by rw [upF_n (by decide)]; show upF _ _ _ _ = _; rw [upF_n (by decide)]; exact cF_i lay_272 (by decide) (by decide)) (by decide) (by decide) (by decide) rfl (Nat.le_of_ble_eq_true rfl) (Nat.le_of_ble_eq_true rfl) d_BF_init_41 (fun H hI => ?_)
  refine cz_putT C hnm hI (by omega) i_BF rfl t_BF_ok n_BF 3 (by decide) kw_1_235 rfl rfl rfl (Nat.le_of_ble_eq_true rfl) [.ref (a0 + 1), .ref (a0 + 46), .ref (a0 + 47), .ref (a0 + 272)] rfl d_BF_init_43 (fun H locs hI => ?_)
  have hI := cI_id hI (by show upF _ _ _ _ = _; rw [upF_n (by decide)]; exact cF_o lay_0)
  exact cz_ret C hr hlk hI (Nat.le_of_ble_eq_true rfl) (Nat.le_of_ble_eq_true rfl) d_BF_init_46
def oddIs (args : Array Value) (s : State) : Prop := ∃ ta : Nat, (Term.static "BoostForests" "AT_FIRST" "[I").eval args s none [] s = some (.ref ta) ∧ (∃ cell : Cell, s.heap[ta]? = some cell ∧ cell.vm.isStatics = false ∧ s.vm.findClass "[K" = some cell.cls) ∧ va_Nw (.selects "[K" x_K y_K) s ∧ va_Nw (.instanceMethod y_K) s ∧ va_Nw (.initialized "[K") s ∧ va_Nw (.code y_K kcode 1 (some (.object "java/lang/Object"))) s
def bigEnd (below : List Frame) (s : State) : State → Prop := fun t => ∃ oc : Outcome, t.status = .running ∧ Ended t below oc ∧ ∃ k9 : Cell, t.heap[s.heap.size + 46]? = some k9 ∧ k9.slots.size = 7602176
theorem big_ret {p : Program} {l : Launch} {e : Env} {R : Room} {s : State} {m : MethodId} {below : List Frame} {meth : Method} {c : Code} {b : Nat} (hx : p.tables.exec = Jvm.exec) (hb : c.code = code) (hr : meth.sig.returnType = ret) (hlocks : meth.locks = false) {pc cells slots : Nat} {H : Heap} {locs : List Loc} {ls : Array Slot} (hdg : decode code pc = .ok (.ireturn, 1)) (hH : ∃ k9 : Cell, H[s.heap.size + 46]? = some k9 ∧ k9.slots.size = 7602176) : W p l e R s m #[Value.ref b] below meth c H locs cells slots (bigEnd below s) (F0 m pc ls [.int 1]) := by
  intro T hT X
  obtain ⟨fs, hret, hrun, hended, hW, hframe⟩ := X.leave (v := some (.int 1)) (hlocks := hlocks) (fun h => by rw [hr] at h; cases h)
  have hmeth' : T.vm.method? m = some meth := X.method'
  refine ⟨T.setFrames fs, ?_, .returned (some (.int 1)), hrun, hended, by show ∃ k9 : Cell, T.heap[s.heap.size + 46]? = some k9 ∧ _; rw [hT]; exact hH⟩
  jvm_step X.here [X.here.top, hx, hb, hdg, hmeth', hr, ret, narrow_b1]
  (try refine ⟨rfl, ?_⟩); (try refine ⟨rfl, ?_⟩)
  first | (intro acts; rw [hret _ acts rfl rfl rfl]) | rw [hret _ _ rfl rfl rfl]
  exact Steps.refl _
set_option maxHeartbeats 4000000 in
set_option maxRecDepth 100000 in
theorem odd_law {p : Program} {e : Env} {s : State} {m : MethodId} {below : List Frame} {meth : Method} {c : Code} (l : Launch) {b : Nat} {xs : Nat → Int32} (C0 : lw_At p s m meth c b 0 xs) (hF : oddIs #[Value.ref b] s) : W p l e rz_LB s m #[Value.ref b] below meth c s.heap [] 0 0 (bigEnd below s) (entryFrame m ([Value.ref b] : List Value).toArray 4) := by
  obtain ⟨hx, hb, hr, hml, hown, hlw, hX, hbl, hlk, hgv⟩ := C0
  obtain ⟨D, cy, hK⟩ := start_K hlw
  have hts : ∀ w ∈ gw_tbl, w.before #[Value.ref b] s = true := fun w h => hlw w (gw_in w h)
  have hE : cE s := ⟨va_Nw.of rfl (hlw _ kl_1_22), va_Nw.of rfl (hlw _ kl_1_75), va_Nw.of rfl (hlw _ kl_1_80), va_Nw.of rfl (hlw _ kl_1_84), va_Nw.of rfl (hlw _ kl_1_105), va_Nw.of rfl (hlw _ kl_1_172), va_AO.of (hlw _ kl_1_168), cAA.of (hlw _ kl_1_27), cAA.of (hlw _ kl_1_170)⟩
  have C : Cz p s m #[Value.ref b] c code 4 "BoostForestsLaw" D cy := ⟨hx, hb, hml, hown, hts, hK, hE⟩
  generalize ha0 : s.heap.size = a0
  obtain ⟨ta, g1, ⟨cell, g2, g3, g4⟩, g5, g6, g7, g8⟩ := hF
  have hta : ta < a0 := by rw [← ha0]; exact (Array.getElem?_eq_some_iff.mp g2).1
  have hB : cBK cy a0 ta s := ⟨va_Zof (hlw _ kl_1_59) (hts _ kw_1_1) g1 (fun a h => by omega), ⟨cell, g2, g3, g4⟩, hta, hlw _ kl_1_61, g5, g6, g7, g8⟩
  have hl := lv_entry ([.ref b]) (n := 4) (Nat.le_of_ble_eq_true rfl)
  rw [lg_entry_eq]
  generalize (lg_sl ([.ref b]) ++ List.replicate (4 - (lg_sl ([.ref b])).length) Slot.unset).toArray = ls at hl ⊢
  have hl : lv_has ls 4 [(0, .ref b)] := hl
  have hI : cI D a0 s (FB cy a0) 0 0 s.heap [] := ⟨ha0, fun k h1 h2 => absurd h2 (Nat.not_lt_zero k), va_S.rf⟩
  refine cz_new (ci := 0) (hi2 := 1) C hI i_BF rfl t_BF_ok kw_1_12 kw_1_13 kw_1_1 e_BF h_BF rfl (Nat.le_of_ble_eq_true rfl) (Nat.le_of_ble_eq_true rfl) d_LW_law_0 (fun H hI => ?_)
  refine lv_dup hx hb d_LW_law_3 rfl ?_
  refine cz_call (hi := 0) (hi2 := 273) C (c_BF_odd (ta := ta)) hI (Nat.le_refl 0) hl.1 kw_1_16 kw_1_1 kw_1_15 rfl (by decide +kernel) ⟨(Nat.le_of_ble_eq_true rfl), (Nat.le_of_ble_eq_true rfl)⟩ (Or.inr kw_1_14) (fun _ _ _ _ h => cBK_call h) (fun U hU hW => cBK_warm hW (fun q q1 q2 => by rw [hU]; exact hI.2.2.2.1 q q1 q2) hB) (fun _ _ _ => rfl) (Nat.le_of_ble_eq_true rfl) (Nat.le_of_ble_eq_true rfl) (Nat.le_of_ble_eq_true rfl) d_LW_law_4 (fun H locs hI => ?_)
  refine lv_astore_n hx hb d_LW_law_7 rfl hl (by decide) rfl (fun ls hl => ?_)
  refine cz_new (ci := 7) (hi2 := 274) C hI i_MD rfl t_MD_ok kw_3_65 kw_3_66 kw_1_8 e_MD h_MD rfl (Nat.le_of_ble_eq_true rfl) (Nat.le_of_ble_eq_true rfl) d_LW_law_8 (fun H hI => ?_)
  refine lv_dup hx hb d_LW_law_11 rfl ?_
  refine cz_call (hi := 273) (hi2 := 299) C c_MD_init hI (Nat.zero_le _) hl.1 kw_3_69 kw_1_8 kw_3_68 rfl (by decide +kernel) ⟨(Nat.le_of_ble_eq_true rfl), (Nat.le_of_ble_eq_true rfl)⟩ (Or.inr kw_3_67) (fun _ _ _ _ h => h) (fun _ _ _ => trivial) (fun k h1 h2 => upF_n (by omega)) (Nat.le_of_ble_eq_true rfl) (Nat.le_of_ble_eq_true rfl) (Nat.le_of_ble_eq_true rfl) d_LW_law_12 (fun H locs hI => ?_)
  refine lv_astore_n hx hb d_LW_law_15 rfl hl (by decide) rfl (fun ls hl => ?_)
  refine lv_iconst (v := (0 : Int32)) hx hb d_LW_law_16 (by decide) ?_
  refine lv_istore_n hx hb d_LW_law_17 rfl hl (by decide) rfl (fun ls hl => ?_)
  have hl := lv_sub hl [3, 2, 1, 0] rfl
  refine lv_iload_n hx hb d_LW_law_18 rfl (lv_at hl 3 rfl) ?_
  refine lv_aload_n hx hb d_LW_law_19 rfl (lv_at hl 0 rfl) ?_
  refine va_slen hx hb hX hbl (A := fun q => a0 + 0 ≤ q) (by show ¬ a0 + 0 ≤ b; omega) hI.2.2 d_LW_law_20 ?_
  refine lv_bipush (v := (7 : Int32)) hx hb d_LW_law_21 (by decide) ?_
  refine lv_isub hx hb d_LW_law_23 ?_
  refine lv_icmp_gt (tgt := 792) hx hb d_LW_law_24 (by decide) (fun _ => ?_) (fun h => absurd (by decide +kernel) h)
  refine lv_iconst (v := (1 : Int32)) hx hb d_LW_law_792 (by decide) ?_
  refine big_ret hx hb hr hlk d_LW_law_793 ?_
  have h46 := hI.2.1 46 (by omega) (by omega)
  rw [FB_46] at h46
  have h46 : H[a0 + 46]? = some (vp_cell (cy 0) (7602176, .inl (fun _ => 0))) := h46
  rw [ha0]
  exact ⟨_, h46, vp_size_i _ _ _⟩


/-! BoostForests' own constructor, of a start at which the static AT_FIRST holds an array of the class "[I" of n slots (cB) -/
def isRow (cy : Nat → ClassId) (n : Nat) (g : Nat → Int32) (cell : Cell) : Prop := cell.cls = cy 0 ∧ (∀ k, cell.vm ≠ .statics k) ∧ cell.vm ≠ .unknown ∧ cell.slots.size = n ∧ ∀ j, j < n → cell.slots[j]? = some (.int (g j))
def cB (cy : Nat → ClassId) (a0 ta n : Nat) (U : State) : Prop := va_Z "BoostForests" "AT_FIRST" "[I" (.ref ta) (fun q => a0 ≤ q) U U.heap ∧ (∃ cell : Cell, U.heap[ta]? = some cell ∧ isRow cy n c_FIRST cell) ∧ ta < a0 ∧ va_Nw (.castable "[I" "java/lang/Cloneable") U ∧ va_Nw (.sameMethod "[I" "java/lang/Object" "clone" "()Ljava/lang/Object;") U
theorem cB_call {cy : Nat → ClassId} {a0 ta n : Nat} {U : State} {g : JFrame} {mk : MethodId} {a : Array Value} (h : cB cy a0 ta n U) : cB cy a0 ta n (U.calling g mk a) := ⟨va_Z.moved (u := U) (U := U.calling g mk a) (Vm.Alike.refl U.vm) h.1, h.2.1, h.2.2.1, va_Nw.same rfl rfl h.2.2.2.1, h.2.2.2.2⟩
theorem cB_warm {cy : Nat → ClassId} {a0 ta n : Nat} {s U : State} (hW : s.WarmedH U.vm) (hk : ∀ q : Nat, q < s.heap.size → ¬ a0 ≤ q → U.heap[q]? = s.heap[q]?) (h : cB cy a0 ta n s) : cB cy a0 ta n U := by
  obtain ⟨h1, ⟨cell, g1, g2⟩, h3, h4, h5⟩ := h
  exact ⟨va_Z.moved hW.alike (va_Z.kept h1 hk), ⟨cell, (hk ta (Array.getElem?_eq_some_iff.mp g1).1 (by omega)).trans g1, g2⟩, h3, va_Nw.warmC hW h4, Cond.sameMethod_setVm (args := #[]) hW.alike (by decide) h5⟩
theorem row_eq {cy : Nat → ClassId} {n : Nat} {g : Nat → Int32} {cell : Cell} (h : isRow cy n g cell) : ({ cls := cell.cls, slots := cell.slots } : Cell) = vp_cell (cy 0) (n, .inl g) := by
  obtain ⟨h1, -, -, h4, h5⟩ := h
  rw [h1, vp_cell_i]
  show _ = ({ cls := cy 0, slots := Array.ofFn (n := n) fun j => Value.int (g j.val), vm := .none } : Cell)
  have hs : cell.slots = Array.ofFn (n := n) fun j => Value.int (g j.val) := by
    apply Array.ext
    · rw [h4, Array.size_ofFn]
    · intro i i1 i2
      have h6 := h5 i (by rw [← h4]; exact i1)
      rw [Array.getElem?_eq_getElem i1] at h6
      rw [Array.getElem_ofFn]
      exact Option.some.inj h6
  rw [hs]
section CZ3
variable {p : Program} {l : Launch} {e : Env} {R : Room} {s : State} {m : MethodId} {args : Array Value} {below : List Frame} {meth : Method} {c : Code} {H : Heap} {locs : List Loc} {cells slots : Nat} {Q : State → Prop}
variable {cc : ByteArray} {pc nL : Nat} {ls : Array Slot} {rest : List Value} {D : va_G} {cy : Nat → ClassId} {own : String} {a0 lo hi : Nat} {f : Nat → va_E}
theorem cz_clone (C : Cz p s m args c cc nL own D cy) (hl : ls.size = nL) (hI : cI D a0 s f lo hi H locs) {index ta : Nat} (h1 : Cond.methodLink own index ⟨"[I", "clone", "()Ljava/lang/Object;"⟩ ∈ gw_tbl) (hsame : va_Nw (.sameMethod "[I" "java/lang/Object" "clone" "()Ljava/lang/Object;") s) (hcl : va_Nw (.castable "[I" "java/lang/Cloneable") s) {n : Nat} {g : Nat → Int32} {cell : Cell} (hta : H[ta]? = some cell) (hrow : isRow cy n g cell) (he : f hi = .inl (cy 0, n, .inl g)) {hi2 : Nat} (hh : hi + 1 = hi2) (hframes : 1 ≤ R.frames) (hlocals : (rest.map fun v => v.category).sum + 14 ≤ R.locals) (hcells : cells + 1 ≤ R.cells) (hslots : slots + n ≤ R.slots) (hdg : decode cc pc = .ok (.invokevirtual index, 3))
    (kk : ∀ H1 : Heap, cI D a0 s f lo hi2 H1 locs → W p l e R s m args below meth c H1 locs (cells + 1) (slots + n) Q (F0 m (pc + 3) ls (.ref (a0 + hi) :: rest))) : W p l e R s m args below meth c H locs cells slots Q (F0 m pc ls (.ref ta :: rest)) := by
  obtain ⟨hx, hb, hml, hown, hts, hK, hE⟩ := C
  obtain ⟨c0, t0', f1, f2, f3⟩ := Cond.castable_spec (va_Nw.use (A := args) rfl hcl)
  have hnm : s.vm.findClass "[I" = some (cy 0) := va_nm_int (hK.2 0 _ rfl).2
  have hc0 : c0 = cy 0 := Option.some.inj (f1.symm.trans hnm)
  subst hc0
  intro T hT X
  have hcellT : T.heap[ta]? = some cell := by rw [hT]; exact hta
  have hE9 := row_eq hrow
  obtain ⟨r1, r2, r3, r4, r5⟩ := hrow
  obtain ⟨-, kA, hkA, comp, hkind⟩ := State.isArrayOf_alike X.warmed.alike ((hK.2 0 _ rfl).1 0 (fun _ => .null))
  obtain ⟨-, kS, hkS, compS, hkindS⟩ := (hK.2 0 _ rfl).1 0 (fun _ => .null)
  obtain ⟨vm', X', st⟩ := X.cloneArray hx hown (hts _ h1) hsame (hts _ kw_1_62) (hts _ kw_1_63) (hts _ kw_1_64) (a := ta) (cell := cell) hcellT r2 r3 (by rw [r1]; exact hnm) f2 (by rw [r1]; exact f3)
    (fun i v hv => by
      have hk' : T.vm.classes[cy 0]? = some kA := hkA
      have hi9 : i < n := by rw [← r4]; exact (Array.getElem?_eq_some_iff.mp hv).1
      have hfv : fits .int v = true := by
        rw [r5 i hi9] at hv
        cases hv
        rfl
      rw [r1]
      show T.fitsSlot (cy 0) .none i v = true
      simpa [State.fitsSlot, State.slotType?, hk', hkind] using hfv)
    (g := F0 m pc ls (.ref ta :: rest)) rfl (hl.trans hml.symm) rfl (by rw [hb]; exact hdg) hframes (by show 2 * 0 + _ + 14 ≤ _; omega) hcells (by rw [r4]; exact hslots) (hloader := by rw [r1]; exact Vm.clonesLoader_of_array hkS hkindS)
  rw [hE9, r4] at X'
  rw [hE9] at st
  generalize hH1 : H.push (vp_cell (cy 0) (n, .inl g)) = H1
  have z1 : H1.size = a0 + hi + 1 := by rw [← hH1, Array.size_push, hI.1]
  have e1 : H1[a0 + hi]? = some (vp_cell (cy 0) (n, .inl g)) := by rw [← hH1, ← hI.1, Array.getElem?_push_size]
  have o1 : ∀ q : Nat, q < a0 + hi → H1[q]? = H[q]? := fun q hq => by rw [← hH1, Array.getElem?_push, if_neg (Nat.ne_of_lt (by rw [hI.1]; exact hq))]
  obtain ⟨t, b1, b2⟩ := kk H1 (cI_push hI hh z1 o1 (by rw [he]; exact e1)) ((T.setVm vm').pushCell (vp_cell (cy 0) (n, .inl g))) (by rw [← hH1, ← hT]; rfl) X'
  refine ⟨t, st t ?_, b2⟩
  rw [hT, hI.1]
  exact b1
end CZ3
set_option maxHeartbeats 4000000 in
set_option maxRecDepth 100000 in
theorem c_BF_init {l : Launch} {D : va_G} {cy : Nat → ClassId} {a0 : Nat} {ta : Nat} : CI l y_BF_init b_BF_init 1 rz_BF D cy a0 (cF cy a0) (cB cy a0 ta 15) (.inr (0, e_BF)) 0 273 := by
  refine cz_met (by decide +kernel) rfl (Nat.le_of_ble_eq_true rfl) (fun p e s m args below meth c ls C hr hlk hnm hE hl hI => ?_)
  obtain ⟨hx, hb, hml, hown, hts, hK, hE9⟩ := id C
  refine lv_aload_n hx hb d_BF_init_0 rfl (lv_at hl 0 rfl) ?_
  refine cz_obj C hl.1 kw_1_17 (Nat.le_of_ble_eq_true rfl) (Nat.le_of_ble_eq_true rfl) d_BF_init_1 ?_
  refine lv_aload_n hx hb d_BF_init_4 rfl (lv_at hl 0 rfl) ?_
  refine cz_new (ci := 1) (hi2 := 2) C hI i_TB rfl t_TB_ok kw_1_20 kw_1_21 kw_1_2 e_TB h_TB rfl (Nat.le_of_ble_eq_true rfl) (Nat.le_of_ble_eq_true rfl) d_BF_init_5 (fun H hI => ?_)
  refine lv_dup hx hb d_BF_init_8 rfl ?_
  refine cz_call (hi := 1) (hi2 := 46) C (c_TB_init isTB_1 (fun o ho => by omega)) hI (by omega) hl.1 kw_1_24 kw_1_2 kw_1_23 rfl (by decide +kernel) ⟨(Nat.le_of_ble_eq_true rfl), (Nat.le_of_ble_eq_true rfl)⟩ (Or.inl hE9.1) (fun _ _ _ _ h => h) (fun _ _ _ => trivial) (fun k h1 h2 => upF_n (by omega)) (Nat.le_of_ble_eq_true rfl) (Nat.le_of_ble_eq_true rfl) (Nat.le_of_ble_eq_true rfl) d_BF_init_9 (fun H locs hI => ?_)
  refine cz_putT C hnm hI (by omega) i_BF rfl t_BF_ok n_BF 0 (by decide) kw_1_232 rfl rfl rfl (Nat.le_of_ble_eq_true rfl) [.ref (a0 + 1), .null, .null, .null] rfl d_BF_init_12 (fun H locs hI => ?_)
  refine lv_aload_n hx hb d_BF_init_15 rfl (lv_at hl 0 rfl) ?_
  refine va_gets hx hb hE.1 hI.2.2 hown (hts _ kw_1_58) (fun _ h => h) d_BF_init_16 ?_
  obtain ⟨z1, ⟨cell, z2, z3⟩, z6, z4, z5⟩ := id hE
  refine cz_clone (n := 15) (g := c_FIRST) (hi2 := 47) C hl.1 hI kw_1_60 z5 z4 ((hI.2.2.2.1 _ (Array.getElem?_eq_some_iff.mp z2).1 (by omega)).trans z2) z3 (by rw [upF_n (by decide)]; rfl) rfl (Nat.le_of_ble_eq_true rfl) (Nat.le_of_ble_eq_true rfl) (Nat.le_of_ble_eq_true rfl) (Nat.le_of_ble_eq_true rfl) d_BF_init_19 (fun H hI => ?_)
  refine va_castA (cA := cy 0) (x := (15, .inl c_FIRST)) (nm := "[I") hx hb hown (hts _ kw_1_66) (cz_one (k0 := 46) hI (by omega) (by omega) (by rw [upF_n (by decide)]; rfl)) 0 rfl (va_nm_int (hK.2 0 _ rfl).2) d_BF_init_22 ?_
  refine cz_putT C hnm hI (by omega) i_BF rfl t_BF_ok n_BF 1 (by decide) kw_1_233 rfl rfl rfl (Nat.le_of_ble_eq_true rfl) [.ref (a0 + 1), .ref (a0 + 46), .null, .null] rfl d_BF_init_25 (fun H locs hI => ?_)
  refine lv_aload_n hx hb d_BF_init_28 rfl (lv_at hl 0 rfl) ?_
  refine cz_new (ci := 2) (hi2 := 48) C hI i_TG rfl t_TG_ok kw_1_67 kw_1_68 kw_1_3 e_TG h_TG rfl (Nat.le_of_ble_eq_true rfl) (Nat.le_of_ble_eq_true rfl) d_BF_init_29 (fun H hI => ?_)
  refine lv_dup hx hb d_BF_init_32 rfl ?_
  refine cz_call (hi := 47) (hi2 := 272) C c_TG_init hI (by omega) hl.1 kw_1_71 kw_1_3 kw_1_70 rfl (by decide +kernel) ⟨(Nat.le_of_ble_eq_true rfl), (Nat.le_of_ble_eq_true rfl)⟩ (Or.inr kw_1_69) (fun _ _ _ _ h => h) (fun _ _ _ => trivial) (fun k h1 h2 => upF_n (by omega)) (Nat.le_of_ble_eq_true rfl) (Nat.le_of_ble_eq_true rfl) (Nat.le_of_ble_eq_true rfl) d_BF_init_33 (fun H locs hI => ?_)
  refine cz_putT C hnm hI (by omega) i_BF rfl t_BF_ok n_BF 2 (by decide) kw_1_234 rfl rfl rfl (Nat.le_of_ble_eq_true rfl) [.ref (a0 + 1), .ref (a0 + 46), .ref (a0 + 47), .null] rfl d_BF_init_36 (fun H locs hI => ?_)
  refine lv_aload_n hx hb d_BF_init_39 rfl (lv_at hl 0 rfl) ?_
  refine lv_iconst (v := (4 : Int32)) hx hb d_BF_init_40 (by decide) ?_
  refine cz_int (hi2 := 273) C hI (by rw [upF_n (by decide)]; exact cF_i lay_272 (by decide) (by decide)) (by decide) (by decide) (by decide) rfl (Nat.le_of_ble_eq_true rfl) (Nat.le_of_ble_eq_true rfl) d_BF_init_41 (fun H hI => ?_)
  refine cz_putT C hnm hI (by omega) i_BF rfl t_BF_ok n_BF 3 (by decide) kw_1_235 rfl rfl rfl (Nat.le_of_ble_eq_true rfl) [.ref (a0 + 1), .ref (a0 + 46), .ref (a0 + 47), .ref (a0 + 272)] rfl d_BF_init_43 (fun H locs hI => ?_)
  have hI := cI_id hI (cF_o lay_0)
  exact cz_ret C hr hlk hI (Nat.le_of_ble_eq_true rfl) (Nat.le_of_ble_eq_true rfl) d_BF_init_46

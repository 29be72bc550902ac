def upF (f : Nat → va_E) (k : Nat) (e : va_E) : Nat → va_E := fun j => if j = k then e else f j
theorem upF_s {f : Nat → va_E} {k : Nat} {e : va_E} : upF f k e k = e := if_pos rfl
theorem upF_n {f : Nat → va_E} {k j : Nat} {e : va_E} (h : j ≠ k) : upF f k e j = f j := if_neg h
theorem upF_up {f : Nat → va_E} {k : Nat} {e e2 : va_E} : upF (upF f k e) k e2 = upF f k e2 := by
  funext j
  unfold upF
  by_cases h : j = k
  · rw [if_pos h, if_pos h]
  · rw [if_neg h, if_neg h, if_neg h]
theorem upF_id {f : Nat → va_E} {k : Nat} {e : va_E} (h : f k = e) : upF f k e = f := by
  funext j
  unfold upF
  by_cases hj : j = k
  · rw [if_pos hj, hj, h]
  · rw [if_neg hj]
def c_FIRST : Nat → Int32 := fun k => ([3, 1, 1, 256, 4, 0, 256, 256, 0, 0, 0, 0, 0, 0, 0] : List Int32).getD k 0
def M0 : gM := (fun k j => if k = 46 ∨ k = 278 then c_FIRST j else 0, fun _ _ => 0)
def cF (cy : Nat → ClassId) (a0 k : Nat) : va_E := gC cy (fun k => a0 + k) M0 k (lay k)
theorem M0_z {k : Nat} (h1 : k ≠ 46) (h2 : k ≠ 278) : M0.1 k = fun _ => 0 := by
  funext j
  show (if k = 46 ∨ k = 278 then c_FIRST j else 0) = 0
  rw [if_neg (fun h => h.elim h1 h2)]
theorem M0_278 (j : Nat) : M0.1 278 j = c_FIRST j := by
  show (if (278 : Nat) = 46 ∨ (278 : Nat) = 278 then c_FIRST j else 0) = _
  exact if_pos (Or.inr rfl)
section CF
variable {cy : Nat → ClassId} {a0 k n a d t : Nat}
theorem cF_i (h : lay k = .inl (0, n, a, d)) (h1 : k ≠ 46) (h2 : k ≠ 278) : cF cy a0 k = .inl (cy 0, n, .inl (fun _ => 0)) := by
  unfold cF
  rw [h]
  show Sum.inl (cy 0, n, Sum.inl (M0.1 k)) = _
  rw [M0_z h1 h2]
theorem cF_l (h : lay k = .inl (1, n, a, d)) : cF cy a0 k = .inl (cy 1, n, .inr (.inl (fun _ => 0))) := by
  unfold cF
  rw [h]
  rfl
theorem cF_b (h : lay k = .inl (2, n, a, d)) (h1 : k ≠ 46) (h2 : k ≠ 278) : cF cy a0 k = .inl (cy 2, n, .inl (fun _ => 0)) := by
  unfold cF
  rw [h]
  show Sum.inl (cy 2, n, Sum.inl (M0.1 k)) = _
  rw [M0_z h1 h2]
theorem cF_g (h : lay k = .inl (t + 3, n, a, d)) : cF cy a0 k = .inl (cy (t + 3), n, .inr (.inr (.inr (.inr (fun j => if j < n then some (a0 + (a + d * j)) else none))))) := by
  unfold cF
  rw [h]
  rfl
theorem cF_o {ci : Nat} {fs : List (Nat × Nat)} (h : lay k = .inr (ci, fs)) : cF cy a0 k = .inr (ci, fs.map (gF (fun k => a0 + k) M0 k)) := by
  unfold cF
  rw [h]
  rfl
end CF
def cAA (t : FieldType) (U : State) : Prop := (Cond.arrayOver (.array t)).before #[] U = true
theorem cAA.use {t : FieldType} {A : Array Value} {U : State} (h : cAA t U) : (Cond.arrayOver (.array t)).before A U = true := h
theorem cAA.of {t : FieldType} {A : Array Value} {U : State} (h : (Cond.arrayOver (.array t)).before A U = true) : cAA t U := h
theorem cAA.moved {t : FieldType} {u U : State} (hvm : u.vm.Alike U.vm) (h : cAA t u) : cAA t U := by
  obtain ⟨comp, c, k, h1, h2, h3, h4, h5⟩ := arrayOverA_spec h
  obtain ⟨k', hk', he⟩ := hvm.2.2 _ _ h3
  have hi := (va_idx_bare U.vm comp).symm.trans ((congrArg (fun v : Vm => v.classes.findIdx? fun (x : Class) => match x.kind with | .array component _ => component == comp | _ => false) (by first | exact hvm.bare_eq | exact hvm.bare_eq.symm : U.vm.bare = u.vm.bare)).trans ((va_idx_bare u.vm comp).trans h2))
  have hkind : k'.kind = .array comp (.array t) := by rw [he]; exact h4
  have f1 : U.vm.findClass (FieldType.array t).toString = some comp := by rw [hvm.findClass]; exact h1
  have f2 : U.vm.findClass ("[" ++ (FieldType.array t).toString) = some c := by rw [hvm.findClass]; exact h5
  unfold cAA Cond.before Cond.holds
  simp only [Cond.value]
  rw [f1, Option.bind_some]
  refine (congrArg (fun o : Option Nat => (o.bind (fun c => (U.vm.classes[c]?).map fun (k : Class) => match k.kind with | .array _ ty => decide (ty = FieldType.array t) && decide (U.vm.findClass ("[" ++ (FieldType.array t).toString) = some c) | _ => false) == some true)) hi).trans ?_
  simp [hk', hkind, f2]
def cE (U : State) : Prop := va_Nw (.methodLinkNest "BoostForests" 9 y_TB_init "BoostForests") U ∧ va_Nw (.methodLinkNest "BoostForests$Training" 11 y_GR_init "BoostForests") U ∧ va_Nw (.methodLinkNest "BoostForests$Grower" 11 y_TB_init "BoostForests") U ∧ va_Nw (.methodLinkNest "BoostForests$Grower" 36 y_SM_init "BoostForests") U ∧ va_Nw (.methodLinkNest "BoostForests$Grower" 58 y_SP_init "BoostForests") U ∧ va_Nw (.methodLinkNest "BoostForests$Training" 49 y_TR_init "BoostForests") U ∧ va_AO "BoostForests$Tree" U ∧ cAA .int U ∧ cAA .long U
theorem cE_warm {s U : State} (hW : s.WarmedH U.vm) (h : cE s) : cE U := ⟨va_Nw.warmM hW h.1, va_Nw.warmM hW h.2.1, va_Nw.warmM hW h.2.2.1, va_Nw.warmM hW h.2.2.2.1, va_Nw.warmM hW h.2.2.2.2.1, va_Nw.warmM hW h.2.2.2.2.2.1, va_AO.moved hW.alike h.2.2.2.2.2.2.1, cAA.moved hW.alike h.2.2.2.2.2.2.2.1, cAA.moved hW.alike h.2.2.2.2.2.2.2.2⟩
theorem cE_call {U : State} {g : JFrame} {mk : MethodId} {a : Array Value} (h : cE U) : cE (U.calling g mk a) := ⟨va_Nw.same rfl rfl h.1, va_Nw.same rfl rfl h.2.1, va_Nw.same rfl rfl h.2.2.1, va_Nw.same rfl rfl h.2.2.2.1, va_Nw.same rfl rfl h.2.2.2.2.1, va_Nw.same rfl rfl h.2.2.2.2.2.1, va_AO.moved (u := U) (U := U.calling g mk a) (Vm.Alike.refl U.vm) h.2.2.2.2.2.2.1, cAA.moved (u := U) (U := U.calling g mk a) (Vm.Alike.refl U.vm) h.2.2.2.2.2.2.2.1, cAA.moved (u := U) (U := U.calling g mk a) (Vm.Alike.refl U.vm) h.2.2.2.2.2.2.2.2⟩
def Cz (p : Program) (s : State) (m : MethodId) (args : Array Value) (c : Code) (cc : ByteArray) (nL : Nat) (own : String) (D : va_G) (cy : Nat → ClassId) : Prop :=
  p.tables.exec = Jvm.exec ∧ c.code = cc ∧ c.maxLocals = nL ∧ s.vm.findClass own = some m.cls ∧ (∀ w ∈ gw_tbl, w.before args s = true) ∧ va_K D vCl (gT cy) s ∧ cE s
def cI (D : va_G) (a0 : Nat) (s : State) (f : Nat → va_E) (lo hi : Nat) (H : Heap) (locs : List Loc) : Prop := H.size = a0 + hi ∧ (∀ k, lo ≤ k → k < hi → va_at D vCl (a0 + k, f k) H) ∧ va_S (fun q => a0 + lo ≤ q) s.heap H locs
section CI0
variable {D : va_G} {a0 lo hi : Nat} {s : State} {f g : Nat → va_E} {H H1 : Heap} {locs : List Loc}
theorem cI_eq (hI : cI D a0 s f lo hi H locs) (h : ∀ k, lo ≤ k → k < hi → g k = f k) : cI D a0 s g lo hi H locs := ⟨hI.1, fun k a b => by rw [h k a b]; exact hI.2.1 k a b, hI.2.2⟩
theorem cI_id {k0 : Nat} {e : va_E} (hI : cI D a0 s (upF f k0 e) lo hi H locs) (h : f k0 = e) : cI D a0 s f lo hi H locs := by
  rw [upF_id h] at hI
  exact hI
theorem cI_set (hI : cI D a0 s f lo hi H locs) {k0 j : Nat} (h0 : lo ≤ k0) {e : va_E} (he : va_at D vCl (a0 + k0, e) H1) (z : H1.size = H.size) (oq : ∀ q : Nat, q ≠ a0 + k0 → H1[q]? = H[q]?) : cI D a0 s (upF f k0 e) lo hi H1 (locs ++ [⟨a0 + k0, j⟩]) := by
  refine ⟨z.trans hI.1, fun k g0 g1 => ?_, hI.2.2.put z oq (Nat.add_le_add_left h0 _)⟩
  by_cases hk : k = k0
  · subst hk
    rw [upF_s]
    exact he
  · rw [upF_n hk]
    exact (hI.2.1 k g0 g1).kept (oq _ (by show a0 + k ≠ a0 + k0; omega))
theorem cI_push (hI : cI D a0 s f lo hi H locs) {hi2 : Nat} (h2 : hi + 1 = hi2) (z : H1.size = a0 + hi + 1) (oq : ∀ q : Nat, q < a0 + hi → H1[q]? = H[q]?) (he : va_at D vCl (a0 + hi, f hi) H1) : cI D a0 s f lo hi2 H1 locs := by
  subst h2
  have h0 := hI.2.2.1
  rw [hI.1] at h0
  refine ⟨by omega, fun k g0 g1 => ?_, ⟨by omega, fun q q1 q2 => ?_, hI.2.2.2.2⟩⟩
  · by_cases hk : k = hi
    · subst hk
      exact he
    · exact (hI.2.1 k g0 (by omega)).kept (oq _ (by show a0 + k < _; omega))
  · rw [oq q (by omega)]
    exact hI.2.2.2.1 q q1 q2
end CI0
theorem cz_outer (c : ClassId) (N h0 : Nat) : ∀ i : Nat, Jvm.Free.Multi.outerC c N h0 i = arrV c N (fun j => va_rf (if j < i then some (h0 + 1 + j) else none))
  | 0 => by
    show ({ cls := c, slots := Array.replicate N .null, vm := .none } : Cell) = _
    rw [arrV_new]
    refine congrArg (arrV c N) (funext fun j => ?_)
    simp [va_rf]
  | i + 1 => by
    show (Jvm.Free.Multi.outerC c N h0 i).setSlot i (.ref (h0 + 1 + i)) = _
    rw [cz_outer c N h0 i, arrV_store]
    refine congrArg (arrV c N) (funext fun j => ?_)
    by_cases e : j = i
    · subst e
      simp [updV, va_rf]
    · by_cases h : j < i
      · simp [updV, e, h, Nat.lt_succ_of_lt h]
      · simp [updV, e, h, show ¬ j < i + 1 by omega]
section CZ
variable {p : Program} {l : Launch} {e : Env} {R : Room} {s : State} {m : MethodId} {args : Array Value} {below : List Frame} {meth : Method} {c : Code} {H : Heap} {locs : List Loc} {cells slots : Nat} {Q : State → Prop}
variable {cc : ByteArray} {pc nL : Nat} {ls : Array Slot} {rest : List Value} {D : va_G} {cy : Nat → ClassId} {own : String} {a0 lo hi : Nat} {f : Nat → va_E}
theorem cz_new (C : Cz p s m args c cc nL own D cy) (hI : cI D a0 s f lo hi H locs) {Cn : String} {T : u_T} {N ci index : Nat} (hin : ∀ w ∈ u_ws Cn T N, w ∈ gw_tbl) (hc : vCl[ci]? = some (Cn, T, N)) {ty : Nat → FieldType} (hty : ∀ k, k < N → parseFieldDescriptor (T k).2.2.1 = some (ty k)) (h1 : Cond.classLink own index Cn ∈ gw_tbl) (h2 : Cond.instantiable Cn N ∈ gw_tbl) (h3 : Cond.initialized Cn ∈ gw_tbl) (fs : List Value) (hfs : ∀ j, j < N → defaultValue (ty j) = vp_V fs j) {hi2 : Nat} (hh : hi + 1 = hi2) (hcells : cells + 1 ≤ R.cells) (hslots : slots + N ≤ R.slots) (hdg : decode cc pc = .ok (.new index, 3))
    (kk : ∀ H1 : Heap, cI D a0 s (upF f hi (.inr (ci, fs))) lo hi2 H1 locs → W p l e R s m args below meth c H1 locs (cells + 1) (slots + N) Q (F0 m (pc + 3) ls (.ref (a0 + hi) :: rest))) : W p l e R s m args below meth c H locs cells slots Q (F0 m pc ls rest) := by
  obtain ⟨hx, hb, hml, hown, hts, hK, hE⟩ := C
  have hKn := hK.1 ci _ hc
  refine W.newcK hx hb hown (hts _ h1) (hts _ h2) (hts _ h3) rfl hdg hcells hslots hKn.2.1 hI.1 fun H1 kC hkC e1 z1 o1 => ?_
  exact kk H1 (cI_push (cI_eq hI (fun k _ g1 => upF_n (Nat.ne_of_lt g1))) hh z1 o1 (by rw [upF_s]; exact ⟨_, hc, (u_born ty hts hin hKn hkC e1 hty).to hfs⟩))
theorem cz_arr (C : Cz p s m args c cc nL own D cy) (hI : cI D a0 s f lo hi H locs) (t : Nat) {atype : ArrayType} {ty : FieldType} (hty : newarray.typeOf atype = ty) (harr : Cond.arrayClass ty ∈ gw_tbl) (ht : (gT cy)[t]? = some (cy t, ty)) {n : Int32} {N' : Nat} {z : vp_A} (hz : ∀ cA : ClassId, vp_cell cA z = arrV cA N' (fun _ => defaultValue ty)) (he : f hi = .inl (cy t, z)) (hn : ¬ n < 0) (hN : n.toNatClampNeg = N') (hbytes : N' * componentBytes ty ≤ 536870912) {hi2 : Nat} (hh : hi + 1 = hi2) (hcells : cells + 1 ≤ R.cells) (hslots : slots + N' ≤ R.slots) (hdg : decode cc pc = .ok (.newarray atype, 2))
    (kk : ∀ H1 : Heap, cI D a0 s f lo hi2 H1 locs → W p l e R s m args below meth c H1 locs (cells + 1) (slots + N') Q (F0 m (pc + 2) ls (.ref (a0 + hi) :: rest))) : W p l e R s m args below meth c H locs cells slots Q (F0 m pc ls (.int n :: rest)) := by
  obtain ⟨hx, hb, hml, hown, hts, hK, hE⟩ := C
  subst hty
  refine va_newaK hx hb (hts _ harr) rfl hdg rfl hn hN hbytes hcells hslots hI.1 fun H1 cA e1 z1 o1 hAr hNm => ?_
  have h2 := (hK.2 t _ ht).2
  have h3 : s.vm.findClass ("[" ++ (newarray.typeOf atype).toString) = some (cy t) := by cases atype <;> exact h2
  have h4 : cA = cy t := Option.some.inj (hNm.symm.trans h3)
  subst h4
  exact kk H1 (cI_push hI hh z1 o1 (by rw [he]; show H1[a0 + hi]? = some (vp_cell (cy t) z); rw [hz]; exact e1))
theorem cz_int (C : Cz p s m args c cc nL own D cy) (hI : cI D a0 s f lo hi H locs) {n : Int32} {N' : Nat} (he : f hi = .inl (cy 0, N', .inl (fun _ => 0))) (hn : ¬ n < 0) (hN : n.toNatClampNeg = N') (hbytes : N' * componentBytes .int ≤ 536870912) {hi2 : Nat} (hh : hi + 1 = hi2) (hcells : cells + 1 ≤ R.cells) (hslots : slots + N' ≤ R.slots) (hdg : decode cc pc = .ok (.newarray .int, 2))
    (kk : ∀ H1 : Heap, cI D a0 s f lo hi2 H1 locs → W p l e R s m args below meth c H1 locs (cells + 1) (slots + N') Q (F0 m (pc + 2) ls (.ref (a0 + hi) :: rest))) : W p l e R s m args below meth c H locs cells slots Q (F0 m pc ls (.int n :: rest)) :=
  cz_arr C hI 0 (atype := .int) rfl kw_1_56 rfl (fun _ => rfl) he hn hN hbytes hh hcells hslots hdg kk
theorem cz_long (C : Cz p s m args c cc nL own D cy) (hI : cI D a0 s f lo hi H locs) {n : Int32} {N' : Nat} (he : f hi = .inl (cy 1, N', .inr (.inl (fun _ => 0)))) (hn : ¬ n < 0) (hN : n.toNatClampNeg = N') (hbytes : N' * componentBytes .long ≤ 536870912) {hi2 : Nat} (hh : hi + 1 = hi2) (hcells : cells + 1 ≤ R.cells) (hslots : slots + N' ≤ R.slots) (hdg : decode cc pc = .ok (.newarray .long, 2))
    (kk : ∀ H1 : Heap, cI D a0 s f lo hi2 H1 locs → W p l e R s m args below meth c H1 locs (cells + 1) (slots + N') Q (F0 m (pc + 2) ls (.ref (a0 + hi) :: rest))) : W p l e R s m args below meth c H locs cells slots Q (F0 m pc ls (.int n :: rest)) :=
  cz_arr C hI 1 (atype := .long) rfl kw_1_102 rfl (fun _ => rfl) he hn hN hbytes hh hcells hslots hdg kk
theorem cz_bool (C : Cz p s m args c cc nL own D cy) (hI : cI D a0 s f lo hi H locs) {n : Int32} {N' : Nat} (he : f hi = .inl (cy 2, N', .inl (fun _ => 0))) (hn : ¬ n < 0) (hN : n.toNatClampNeg = N') (hbytes : N' * componentBytes .boolean ≤ 536870912) {hi2 : Nat} (hh : hi + 1 = hi2) (hcells : cells + 1 ≤ R.cells) (hslots : slots + N' ≤ R.slots) (hdg : decode cc pc = .ok (.newarray .boolean, 2))
    (kk : ∀ H1 : Heap, cI D a0 s f lo hi2 H1 locs → W p l e R s m args below meth c H1 locs (cells + 1) (slots + N') Q (F0 m (pc + 2) ls (.ref (a0 + hi) :: rest))) : W p l e R s m args below meth c H locs cells slots Q (F0 m pc ls (.int n :: rest)) :=
  cz_arr C hI 2 (atype := .boolean) rfl kw_1_57 rfl (fun _ => rfl) he hn hN hbytes hh hcells hslots hdg kk
theorem cz_grid (C : Cz p s m args c cc nL own D cy) (hI : cI D a0 s f lo hi H locs) (t u : Nat) {ty : FieldType} (hu : (gT cy)[u]? = some (cy u, ty)) (ht : (gT cy)[t]? = some (cy t, .array ty)) (hcy : s.vm.findClass (FieldType.array ty).toString = some (cy u)) {index : Nat} (h1 : Cond.classLink own index ("[" ++ (FieldType.array ty).toString) ∈ gw_tbl) (harr : Cond.arrayClass ty ∈ gw_tbl) (hover : cAA ty s) {n k : Int32} {N' K' : Nat} {z : vp_A}
    (he : f hi = .inl (cy t, N', .inr (.inr (.inr (.inr (fun j => if j < N' then some (a0 + (hi + 1 + 1 * j)) else none)))))) (hrw : ∀ j, j < N' → f (hi + 1 + j) = .inl (cy u, z)) (hn : ¬ n < 0) (hk : ¬ k < 0) (hN : n.toNatClampNeg = N') (hM : k.toNatClampNeg = K') (hb1 : N' * 4 ≤ 536870912) (hb2 : K' * componentBytes ty ≤ 536870912) (hb3 : K' ≤ 536870912) (hdf : fits ty (defaultValue ty) = true) (hdd : (defaultValue ty).isDefault = true)
    {hi2 : Nat} (hh : hi + 1 + N' = hi2) (hcells : cells + (1 + N') ≤ R.cells) (hslots : slots + (N' + N' * K') ≤ R.slots) (hz : ∀ c : ClassId, Jvm.Free.Multi.innerC c K' (defaultValue ty) = vp_cell c z) (hdg : decode cc pc = .ok (.multianewarray index 2, 4))
    (kk : ∀ H1 : Heap, cI D a0 s f lo hi2 H1 locs → W p l e R s m args below meth c H1 locs (cells + 1 + N') (slots + N' + N' * K') Q (F0 m (pc + 4) ls (.ref (a0 + hi) :: rest))) : W p l e R s m args below meth c H locs cells slots Q (F0 m pc ls (.int k :: .int n :: rest)) := by
  obtain ⟨hx, hb, hml, hown, hts, hK, hE⟩ := C
  subst hN
  subst hM
  subst hh
  intro T hT Xs
  obtain ⟨vm₁, cA, comp, -, fA, fC, hO, -, X', step⟩ := Xs.multianewarray2F hx hown (hts _ h1) (cAA.use hover) (hts _ harr) (g := F0 m pc ls (.int k :: .int n :: rest)) rfl (by rw [hb]; exact hdg) rfl hn hk hb1 hb2 hb3 hdf hdd hcells hslots
  have ec : comp = cy u := Option.some.inj (fC.symm.trans hcy)
  subst ec
  have eA : cA = cy t := Option.some.inj (fA.symm.trans (hK.2 t _ ht).2)
  subst eA
  generalize hF : Jvm.Free.Multi.fill (T.setVm vm₁) (cy t) (cy u) n.toNatClampNeg k.toNatClampNeg (defaultValue ty) n.toNatClampNeg = F at X' step
  have hTh : (T.setVm vm₁).heap = H := hT
  obtain ⟨f1, f2, -, -⟩ := Jvm.Free.Multi.fill_facts (T.setVm vm₁) (cy t) (cy u) n.toNatClampNeg k.toNatClampNeg (defaultValue ty) n.toNatClampNeg
  rw [hF, hTh] at f1 f2
  have hold : ∀ x : Nat, x < H.size → F.heap[x]? = H[x]? := fun x hx => by
    have := Jvm.Free.Multi.fill_old (T.setVm vm₁) (cy t) (cy u) n.toNatClampNeg k.toNatClampNeg (defaultValue ty) (a := x) (by rw [hTh]; exact hx) n.toNatClampNeg
    rw [hF, hTh] at this
    exact this
  have hrow : ∀ j : Nat, j < n.toNatClampNeg → F.heap[H.size + 1 + j]? = some (vp_cell (cy u) z) := fun j hj => by
    have := Jvm.Free.Multi.fill_inner (T.setVm vm₁) (cy t) (cy u) n.toNatClampNeg k.toNatClampNeg (defaultValue ty) n.toNatClampNeg j hj
    rw [hF, hTh, hz] at this
    exact this
  have hout : Jvm.Free.Multi.outerC (cy t) n.toNatClampNeg H.size n.toNatClampNeg = vp_cell (cy t) (n.toNatClampNeg, .inr (.inr (.inr (.inr (fun j => if j < n.toNatClampNeg then some (a0 + (hi + 1 + 1 * j)) else none))))) := by
    rw [vp_cell_q, cz_outer]
    refine congrArg (arrV (cy t) n.toNatClampNeg) (funext fun j => ?_)
    by_cases hj : j < n.toNatClampNeg
    · rw [if_pos hj, if_pos hj, hI.1, show a0 + hi + 1 + j = a0 + (hi + 1 + 1 * j) by omega]
    · rw [if_neg hj, if_neg hj]
  rw [hout] at f2
  have hsz := hI.1
  have h0 := hI.2.2.1
  have hIn : cI D a0 s f lo (hi + 1 + n.toNatClampNeg) F.heap locs := by
    refine ⟨by rw [f1]; omega, fun k9 g0 g1 => ?_, ⟨by rw [f1]; omega, fun x h1 h2 => (hold x (Nat.lt_of_lt_of_le h1 h0)).trans (hI.2.2.2.1 x h1 h2), hI.2.2.2.2⟩⟩
    by_cases c1 : k9 < hi
    · exact (hI.2.1 k9 g0 c1).kept (hold _ (by show a0 + k9 < _; omega))
    · by_cases c2 : k9 = hi
      · subst c2
        rw [he]
        show F.heap[a0 + k9]? = _
        rw [← hsz]
        exact f2
      · obtain ⟨j, rfl⟩ : ∃ j, k9 = hi + 1 + j := ⟨k9 - (hi + 1), by omega⟩
        rw [hrw j (by omega)]
        show F.heap[a0 + (hi + 1 + j)]? = _
        rw [show a0 + (hi + 1 + j) = H.size + 1 + j by omega]
        exact hrow j (by omega)
  obtain ⟨t9, a1, b1⟩ := kk F.heap hIn F rfl X'
  refine ⟨t9, step t9 ?_, b1⟩
  have e9 : T.heap.size = a0 + hi := by rw [hT]; exact hsz
  rw [e9]
  exact a1
theorem cz_gridI (C : Cz p s m args c cc nL own D cy) (hI : cI D a0 s f lo hi H locs) {index : Nat} (h1 : Cond.classLink own index "[[I" ∈ gw_tbl) {n k : Int32} {N' K' : Nat}
    (he : f hi = .inl (cy 4, N', .inr (.inr (.inr (.inr (fun j => if j < N' then some (a0 + (hi + 1 + 1 * j)) else none)))))) (hrw : ∀ j, j < N' → f (hi + 1 + j) = .inl (cy 0, K', .inl (fun _ => 0))) (hn : ¬ n < 0) (hk : ¬ k < 0) (hN : n.toNatClampNeg = N') (hM : k.toNatClampNeg = K') (hb1 : N' * 4 ≤ 536870912) (hb2 : K' * componentBytes .int ≤ 536870912) (hb3 : K' ≤ 536870912)
    {hi2 : Nat} (hh : hi + 1 + N' = hi2) (hcells : cells + (1 + N') ≤ R.cells) (hslots : slots + (N' + N' * K') ≤ R.slots) (hdg : decode cc pc = .ok (.multianewarray index 2, 4))
    (kk : ∀ H1 : Heap, cI D a0 s f lo hi2 H1 locs → W p l e R s m args below meth c H1 locs (cells + 1 + N') (slots + N' + N' * K') Q (F0 m (pc + 4) ls (.ref (a0 + hi) :: rest))) : W p l e R s m args below meth c H locs cells slots Q (F0 m pc ls (.int k :: .int n :: rest)) := by
  have e1 : "[" ++ (FieldType.array .int).toString = "[[I" := by decide +kernel
  have e2 : (FieldType.array .int).toString = "[I" := by decide +kernel
  refine cz_grid C hI 4 0 rfl rfl (by rw [e2]; exact va_nm_int (C.2.2.2.2.2.1.2 0 _ rfl).2) (by rw [e1]; exact h1) kw_1_56 C.2.2.2.2.2.2.2.2.2.2.2.2.2.1 he hrw hn hk hN hM hb1 hb2 hb3 rfl rfl hh hcells hslots (fun c => arrV_new c _ _) hdg kk
theorem cz_gridL (C : Cz p s m args c cc nL own D cy) (hI : cI D a0 s f lo hi H locs) {index : Nat} (h1 : Cond.classLink own index "[[J" ∈ gw_tbl) {n k : Int32} {N' K' : Nat}
    (he : f hi = .inl (cy 5, N', .inr (.inr (.inr (.inr (fun j => if j < N' then some (a0 + (hi + 1 + 1 * j)) else none)))))) (hrw : ∀ j, j < N' → f (hi + 1 + j) = .inl (cy 1, K', .inr (.inl (fun _ => 0)))) (hn : ¬ n < 0) (hk : ¬ k < 0) (hN : n.toNatClampNeg = N') (hM : k.toNatClampNeg = K') (hb1 : N' * 4 ≤ 536870912) (hb2 : K' * componentBytes .long ≤ 536870912) (hb3 : K' ≤ 536870912)
    {hi2 : Nat} (hh : hi + 1 + N' = hi2) (hcells : cells + (1 + N') ≤ R.cells) (hslots : slots + (N' + N' * K') ≤ R.slots) (hdg : decode cc pc = .ok (.multianewarray index 2, 4))
    (kk : ∀ H1 : Heap, cI D a0 s f lo hi2 H1 locs → W p l e R s m args below meth c H1 locs (cells + 1 + N') (slots + N' + N' * K') Q (F0 m (pc + 4) ls (.ref (a0 + hi) :: rest))) : W p l e R s m args below meth c H locs cells slots Q (F0 m pc ls (.int k :: .int n :: rest)) := by
  have e1 : "[" ++ (FieldType.array .long).toString = "[[J" := by decide +kernel
  have e2 : (FieldType.array .long).toString = "[J" := by decide +kernel
  refine cz_grid C hI 5 1 rfl rfl (by rw [e2]; exact va_nm_long (C.2.2.2.2.2.1.2 1 _ rfl).2) (by rw [e1]; exact h1) kw_1_102 C.2.2.2.2.2.2.2.2.2.2.2.2.2.2 he hrw hn hk hN hM hb1 hb2 hb3 rfl rfl hh hcells hslots (fun c => arrV_new c _ _) hdg kk
theorem cz_anew (C : Cz p s m args c cc nL own D cy) (hI : cI D a0 s f lo hi H locs) {index : Nat} (h1 : Cond.classLink own index "BoostForests$Tree" ∈ gw_tbl) {n : Int32} {N' : Nat} (he : f hi = .inl (cy 3, N', .inr (.inr (.inr (.inr (fun _ => none)))))) (hn : ¬ n < 0) (hN : n.toNatClampNeg = N') (hbytes : N' * 4 ≤ 536870912) {hi2 : Nat} (hh : hi + 1 = hi2) (hcells : cells + 1 ≤ R.cells) (hslots : slots + N' ≤ R.slots) (hdg : decode cc pc = .ok (.anewarray index, 3))
    (kk : ∀ H1 : Heap, cI D a0 s f lo hi2 H1 locs → W p l e R s m args below meth c H1 locs (cells + 1) (slots + N') Q (F0 m (pc + 3) ls (.ref (a0 + hi) :: rest))) : W p l e R s m args below meth c H locs cells slots Q (F0 m pc ls (.int n :: rest)) := by
  obtain ⟨hx, hb, hml, hown, hts, hK, hE⟩ := C
  subst hN
  refine W.anew hx hb hown (hts _ h1) (va_AO.use hE.2.2.2.2.2.2.1) rfl hdg rfl hn hbytes hcells hslots fun cA kA comp f1 f2 f3 f4 => ?_
  obtain ⟨kA2, comp2, g1, g2, g3, g4⟩ : va_RA s (cy 3) (.object "BoostForests$Tree") := (hK.2 3 _ rfl).2
  have h4 : cA = cy 3 := Option.some.inj (f1.symm.trans g4)
  subst h4
  generalize hH1 : H.push ({ cls := cy 3, slots := Array.replicate n.toNatClampNeg .null, vm := .none } : Cell) = H1
  have z1 : H1.size = a0 + hi + 1 := by rw [← hH1, Array.size_push, hI.1]
  have e1 : H1[a0 + hi]? = some (arrV (cy 3) n.toNatClampNeg (fun _ => .null)) := by rw [← hH1, ← hI.1, Array.getElem?_push_size, ← arrV_new]
  have o1 : ∀ q : Nat, q < a0 + hi → H1[q]? = H[q]? := fun q hq => by rw [← hH1, Array.getElem?_push, if_neg (Nat.ne_of_lt (by rw [hI.1]; exact hq))]
  have k9 := kk H1 (cI_push hI hh z1 o1 (by rw [he]; show H1[a0 + hi]? = some (vp_cell _ _); rw [vp_cell_q]; exact e1))
  rw [hI.1]
  exact k9
theorem cz_put (C : Cz p s m args c cc nL own D cy) (hnm0 : meth.name = "<init>") (hI : cI D a0 s f lo hi H locs) {k0 : Nat} (h0 : lo ≤ k0) (h1 : k0 < hi) {ci : Nat} {fs : List Value} (he : f k0 = .inr (ci, fs)) {Cn : String} {T : u_T} {N : Nat} (hin : ∀ w ∈ u_ws Cn T N, w ∈ gw_tbl) (hc : vCl[ci]? = some (Cn, T, N)) {ty0 : Nat → FieldType} (hty : ∀ k, k < N → parseFieldDescriptor (T k).2.2.1 = some (ty0 k)) (hnm : ∀ a, a < N → ∀ b, b < N → a ≠ b → (T a).2.1 ≠ (T b).2.1) (k : Nat) (hk : k < N) {index : Nat} (hlink : Cond.fieldLink own index (T k).1 (T k).2.1 (T k).2.2.1 ∈ gw_tbl) (hdecl : (T k).1 = own) {v : Value} (hn : narrow (ty0 k) v = v) (hfit : fits (ty0 k) v = true) (hl : k < fs.length) (hdg : decode cc pc = .ok (.putfield index, 3))
    (kk : ∀ (H1 : Heap) (locs1 : List Loc), cI D a0 s (upF f k0 (.inr (ci, fs.set k v))) lo hi H1 locs1 → W p l e R s m args below meth c H1 locs1 cells slots Q (F0 m (pc + 3) ls rest)) : W p l e R s m args below meth c H locs cells slots Q (F0 m pc ls (v :: .ref (a0 + k0) :: rest)) := by
  obtain ⟨hx, hb, hml, hown, hts, hK, hE⟩ := C
  have hap := va_apart (own := own) hts hin ty0 hty hnm hK hc
  have hat := hI.2.1 k0 h0 h1
  rw [he] at hat
  obtain ⟨r, hr0, cell, q1, q2, q3, q4⟩ := hat
  have hr : r = (Cn, T, N) := Option.some.inj (hr0.symm.trans hc)
  subst hr
  obtain ⟨hS, hfc, kC, hkC, hkind⟩ := hK.1 ci _ hc
  obtain ⟨cf, kf, fi, fd, hi', hsl⟩ := hS k hk
  have hlay := hts _ (hin _ (u_in_lay hk))
  unfold u_lay at hlay
  have hst := (u_facts hfc hkC (u_lays hts hin hk) hi').1
  have fin : ∀ H' : Heap, H'[a0 + k0]? = some (cell.setSlot fd.slot v) → H'.size = H.size → (∀ q, q ≠ a0 + k0 → H'[q]? = H[q]?) → W p l e R s m args below meth c H' (locs ++ [⟨a0 + k0, fd.slot⟩]) cells slots Q (F0 m (pc + 3) ls rest) := fun H' e1 e2 e3 => by
    rw [hsl] at e1 ⊢
    exact kk H' _ (cI_set hI h0 ⟨_, hc, t_OB.to (V := updV (vp_V fs) k v) ⟨_, e1, q2, q3, t_set q4 hap hk v⟩ (fun j _ => vp_updV_set hl v j)⟩ e2 e3)
  by_cases hfin : (T k).2.2.2 = true
  · rw [if_pos hfin] at hlay
    have hcf : m.cls = cf := by
      obtain ⟨_, _, c', _, _, _, -, -, hf', -, -, -, hown2, -⟩ := Cond.laysFinal_spec hlay
      have e1 : c' = cf := by have := hi'.symm.trans hf'; simp at this; exact this.1.symm
      rw [hdecl] at hown2
      rw [← e1]; exact Option.some.inj (hown.symm.trans hown2)
    have h6 := u_fits hfc hkC hkind (Or.inr hlay) hi' (hty k hk) hn hfit
    exact W.putFinK hx hb hown (hts _ hlink) hi' hst hcf hnm0 (by rw [q2]; exact h6) q1 q3 (by rw [hsl]; exact k2_hasslot (q4 k hk)) rfl rfl hdg fin
  · rw [if_neg hfin] at hlay
    have h6 := u_store hfc hkC hkind hlay hi' (hty k hk) hn hfit
    exact W.putK hx hb (f := fd) ⟨hown, hts _ hlink, ⟨_, _, _, hi'⟩, hst⟩ (by rw [q2]; exact h6) q1 q3 (by rw [hsl]; exact k2_hasslot (q4 k hk)) rfl rfl hdg fin
theorem cz_putT (C : Cz p s m args c cc nL own D cy) (hnm0 : meth.name = "<init>") {ci : Nat} {fs : List Value} (hI : cI D a0 s (upF f lo (.inr (ci, fs))) lo hi H locs) (h1 : lo < hi) {Cn : String} {T : u_T} {N : Nat} (hin : ∀ w ∈ u_ws Cn T N, w ∈ gw_tbl) (hc : vCl[ci]? = some (Cn, T, N)) {ty0 : Nat → FieldType} (hty : ∀ k, k < N → parseFieldDescriptor (T k).2.2.1 = some (ty0 k)) (hnm : ∀ a, a < N → ∀ b, b < N → a ≠ b → (T a).2.1 ≠ (T b).2.1) (k : Nat) (hk : k < N) {index : Nat} (hlink : Cond.fieldLink own index (T k).1 (T k).2.1 (T k).2.2.1 ∈ gw_tbl) (hdecl : (T k).1 = own) {v : Value} (hn : narrow (ty0 k) v = v) (hfit : fits (ty0 k) v = true) (hl : k < fs.length) (fs2 : List Value) (hs : fs.set k v = fs2) (hdg : decode cc pc = .ok (.putfield index, 3))
    (kk : ∀ (H1 : Heap) (locs1 : List Loc), cI D a0 s (upF f lo (.inr (ci, fs2))) lo hi H1 locs1 → W p l e R s m args below meth c H1 locs1 cells slots Q (F0 m (pc + 3) ls rest)) : W p l e R s m args below meth c H locs cells slots Q (F0 m pc ls (v :: .ref (a0 + lo) :: rest)) :=
  cz_put C hnm0 hI (Nat.le_refl _) h1 upF_s hin hc hty hnm k hk hlink hdecl hn hfit hl hdg (fun H1 locs1 h => kk H1 locs1 (by rw [upF_up, hs] at h; exact h))
theorem cz_one {k0 : Nat} (hI : cI D a0 s f lo hi H locs) (h0 : lo ≤ k0) (h1 : k0 < hi) {e1 : va_E} (he : f k0 = e1) : va_P D vCl [(a0 + k0, e1)] H := by
  intro k q hk
  have hz : k < 1 := (List.getElem?_eq_some_iff.mp hk).1
  rw [show k = 0 by omega] at hk
  cases hk
  rw [← he]
  exact hI.2.1 k0 h0 h1
theorem cz_get (C : Cz p s m args c cc nL own D cy) (hI : cI D a0 s f lo hi H locs) {k0 : Nat} (h0 : lo ≤ k0) (h1 : k0 < hi) {ci : Nat} {fs : List Value} (he : f k0 = .inr (ci, fs)) {Cn : String} {T : u_T} {N : Nat} (hin : ∀ w ∈ u_ws Cn T N, w ∈ gw_tbl) (hc : vCl[ci]? = some (Cn, T, N)) (k : Nat) (hk : k < N) {index : Nat} (hlink : Cond.fieldLink own index (T k).1 (T k).2.1 (T k).2.2.1 ∈ gw_tbl) {v : Value} (hv : fs[k]? = some v) (hdg : decode cc pc = .ok (.getfield index, 3))
    (kk : W p l e R s m args below meth c H locs cells slots Q (F0 m (pc + 3) ls (v :: rest))) : W p l e R s m args below meth c H locs cells slots Q (F0 m pc ls (.ref (a0 + k0) :: rest)) := by
  obtain ⟨hx, hb, hml, hown, hts, hK, hE⟩ := C
  exact va_get hx hb hts hin hown hK (cz_one hI h0 h1 he) 0 rfl hc k hk (hts _ hlink) (fun _ h => h) hv hdg kk
theorem cz_iast (C : Cz p s m args c cc nL own D cy) (hI : cI D a0 s f lo hi H locs) {k0 : Nat} (h0 : lo ≤ k0) (h1 : k0 < hi) {n : Nat} {g : Nat → Int32} (he : f k0 = .inl (cy 0, n, .inl g)) {i x : Int32} {j : Nat} (hj : i.toNatClampNeg = j) (hin : vp_in i n) (hdg : decode cc pc = .ok (.iastore, 1))
    (kk : ∀ (H1 : Heap) (locs1 : List Loc), cI D a0 s (upF f k0 (.inl (cy 0, n, .inl (upd g j x)))) lo hi H1 locs1 → W p l e R s m args below meth c H1 locs1 cells slots Q (F0 m (pc + 1) ls rest)) : W p l e R s m args below meth c H locs cells slots Q (F0 m pc ls (.int x :: .int i :: .ref (a0 + k0) :: rest)) := by
  obtain ⟨hx, hb, hml, hown, hts, hK, hE⟩ := C
  subst hj
  have hat := hI.2.1 k0 h0 h1
  rw [he] at hat
  have hat : H[a0 + k0]? = some (vp_cell (cy 0) (n, .inl g)) := hat
  refine W.iast hx hb hat ((hK.2 0 _ rfl).1 n (fun j => .int (g j))) (fun q => by cases q) (by show ¬ (i < 0 ∨ (arrV _ _ _).slots.size ≤ _); rw [arrV_size]; exact hin) rfl rfl hdg fun H1 e1 z oq => ?_
  refine kk H1 _ (cI_set hI h0 ?_ z oq)
  show H1[a0 + k0]? = some (vp_cell _ _)
  rw [e1]
  rw [vp_cell_i, vp_cell_i, arrV_store]
  congr 2
  funext q
  by_cases hq : q = i.toNatClampNeg
  · subst hq
    simp [updV, upd]
  · simp [updV, upd, hq]
theorem cz_aast (C : Cz p s m args c cc nL own D cy) (hI : cI D a0 s f lo hi H locs) {k0 k1 : Nat} (h0 : lo ≤ k0) (h1 : k0 < hi) (g0 : lo ≤ k1) (g1 : k1 < hi) {n : Nat} {g : Nat → Option Nat} (he : f k0 = .inl (cy 3, n, .inr (.inr (.inr (.inr g))))) {vs : List Value} (hv : f k1 = .inr (6, vs)) {i : Int32} {j : Nat} (hj : i.toNatClampNeg = j) (hin : vp_in i n) (hdg : decode cc pc = .ok (.aastore, 1))
    (kk : ∀ (H1 : Heap) (locs1 : List Loc), cI D a0 s (upF f k0 (.inl (cy 3, n, .inr (.inr (.inr (.inr (va_up g j (some (a0 + k1)))))))) ) lo hi H1 locs1 → W p l e R s m args below meth c H1 locs1 cells slots Q (F0 m (pc + 1) ls rest)) : W p l e R s m args below meth c H locs cells slots Q (F0 m pc ls (.ref (a0 + k1) :: .int i :: .ref (a0 + k0) :: rest)) := by
  obtain ⟨hx, hb, hml, hown, hts, hK, hE⟩ := C
  subst hj
  have hlt : i.toNatClampNeg < n := Nat.not_le.mp fun q => hin (Or.inr q)
  have hn0 : ¬ i < 0 := fun q => hin (Or.inl q)
  have hat := hI.2.1 k0 h0 h1
  rw [he] at hat
  have hat : H[a0 + k0]? = some (vp_cell (cy 3) (n, .inr (.inr (.inr (.inr g))))) := hat
  have hav := hI.2.1 k1 g0 g1
  rw [hv] at hav
  obtain ⟨r', hr', cellV, q1, q2, q3, -⟩ := hav
  have hcls := (hK.1 6 _ rfl).2
  obtain ⟨kA, comp, k1', k2, k3, -⟩ : va_RA s (cy 3) (.object "BoostForests$Tree") := (hK.2 3 _ rfl).2
  have hcomp : comp = D.1 6 := Option.some.inj (k3.symm.trans hcls.1)
  subst hcomp
  have hasg := va_assign hcls
  obtain ⟨kC, hkC, -⟩ := hcls.2
  refine W.aast hx hb hat (fun q h => by cases h) (fun h => by cases h) k1' k2 rfl hkC ⟨hn0, by show _ < (arrV _ _ _).slots.size; rw [arrV_size]; exact hlt⟩ q1 (fun q h => by rw [q3] at h; cases h) (by rw [q2]; exact hkC) (by rw [q2]; exact hasg) rfl rfl hdg fun H1 e1 z oq => ?_
  refine kk H1 _ (cI_set hI h0 ?_ z oq)
  show H1[a0 + k0]? = some (vp_cell _ _)
  rw [e1]
  rw [vp_cell_q, vp_cell_q, arrV_store]
  congr 2
  funext q
  by_cases hq : q = i.toNatClampNeg
  · subst hq
    simp [updV, va_up, va_rf]
  · simp [updV, va_up, hq]
end CZ
def CI (l : Launch) (y : MethodName) (b : ByteArray) (maxL : Nat) (rm : Room) (D : va_G) (cy : Nat → ClassId) (a0 : Nat) (F : Nat → va_E) (E : State → Prop) (e0 : va_E) (lo hi : Nat) : Prop :=
  Met l y (Cond.code y b maxL none :: gw_tbl) rm (va_Pc [.ref (a0 + lo)] (fun U => U.heap.size = a0 + (lo + 1) ∧ va_at D vCl (a0 + lo, e0) U.heap ∧ va_K D vCl (gT cy) U ∧ cE U ∧ E U))
    (va_Qv (fun _ : Unit => True) (fun _ t => t.heap.size = a0 + hi ∧ ∀ k, lo ≤ k → k < hi → va_at D vCl (a0 + k, F k) t.heap) (fun q => a0 + lo ≤ q)) rm.cells rm.slots (fun q => a0 + lo ≤ q)
def cQ (below : List Frame) (args : Array Value) (s : State) (rm : Room) (D : va_G) (F : Nat → va_E) (a0 lo hi : Nat) : State → Prop := MQ below (va_Qv (fun _ : Unit => True) (fun _ t => t.heap.size = a0 + hi ∧ ∀ k, lo ≤ k → k < hi → va_at D vCl (a0 + k, F k) t.heap) (fun q => a0 + lo ≤ q)) args s rm.cells rm.slots (fun q => a0 + lo ≤ q)
section CZ2
variable {p : Program} {l : Launch} {e : Env} {R : Room} {s : State} {m : MethodId} {args : Array Value} {below : List Frame} {meth : Method} {c : Code} {H : Heap} {locs : List Loc} {cells slots : Nat} {Q : State → Prop}
variable {cc : ByteArray} {pc nL : Nat} {ls : Array Slot} {rest : List Value} {D : va_G} {cy : Nat → ClassId} {own : String} {a0 lo hi : Nat} {f : Nat → va_E}
theorem cz_met {F : Nat → va_E} {y : MethodName} {maxL : Nat} {rm : Room} {E : State → Prop} {e0 : va_E} (hy : plainName y.cls = true) (hname : y.name = "<init>") (hlen : 1 ≤ maxL)
    (body : ∀ (p : Program) (e : Env) (s : State) (m : MethodId) (args : Array Value) (below : List Frame) (meth : Method) (c : Code) (ls : Array Slot), Cz p s m args c cc maxL y.cls D cy → meth.sig.returnType = none → meth.locks = false → meth.name = "<init>" → E s → lv_has ls maxL [(0, .ref (a0 + lo))] → cI D a0 s (upF F lo e0) lo (lo + 1) s.heap [] → W p l e rm s m args below meth c s.heap [] 0 0 (cQ below args s rm D F a0 lo hi) (F0 m 0 ls [])) : CI l y cc maxL rm D cy a0 F E e0 lo hi := by
  refine Met.ofW (cc := cc) (maxL := maxL) (ret := none) hy rfl ?_
  intro p e s m args below meth c s₁ B hml hv
  obtain ⟨rfl, hsz, hP, hK, hE, hE2⟩ := hv
  have hts := atoms_spec (ws := Cond.code y cc maxL none :: gw_tbl) B.pre
  rw [lg_entry_eq]
  refine body p e s m _ below meth c _ ⟨B.exec, B.bytes, hml, findClass_of_methodNamed B.named, fun w hw => hts w (List.mem_cons_of_mem _ hw), hK, hE⟩ B.returns B.notSynchronized ((name_of_methodNamed B.named B.method).1.trans hname) hE2 (lv_entry [.ref (a0 + lo)] hlen) ⟨hsz, fun k g0 g1 => ?_, va_S.rf⟩
  have hk : k = lo := by omega
  subst hk
  rw [upF_s]
  exact hP
theorem cz_ret {F : Nat → va_E} {rm : Room} (C : Cz p s m args c cc nL own D cy) (hr : meth.sig.returnType = none) (hlk : meth.locks = false) (hI : cI D a0 s F lo hi H locs) (hc : cells ≤ rm.cells) (hs : slots ≤ rm.slots) (hdg : decode cc pc = .ok (.return_, 1)) : W p l e R s m args below meth c H locs cells slots (cQ below args s rm D F a0 lo hi) (F0 m pc ls []) := by
  obtain ⟨hx, hb, hml, hown, hts, hK, hE⟩ := C
  exact W.widen hc hs (W.vret (hlocks := hlk) hx hb hr (fun t ht hW => ⟨⟨(), rfl, trivial, by rw [ht]; exact hI.1, by rw [ht]; exact hI.2.1⟩, hI.2.2.F ht⟩) hI.2.2.2.2 hdg)
theorem cz_obj (C : Cz p s m args c cc nL own D cy) (hl : ls.size = nL) {index a : Nat} (h1 : Cond.methodLink own index y_JO_init ∈ gw_tbl) (hfr : 1 ≤ R.frames) (hlo : 12 ≤ R.locals) (hdg : decode cc pc = .ok (.invokespecial index, 3)) (kk : W p l e R s m args below meth c H locs cells slots Q (F0 m (pc + 3) ls [])) : W p l e R s m args below meth c H locs cells slots Q (F0 m pc ls [.ref a]) := by
  obtain ⟨hx, hb, hml, hown, hts, hK, hE⟩ := C
  exact W.objInit hx hb hown (hts _ h1) (hts _ kw_1_18) (hts _ kw_1_19) rfl (hl.trans hml.symm) rfl hdg hfr (by show 2 * 0 + _ + 12 ≤ _; exact hlo) kk
theorem cz_call {F : Nat → va_E} {y : MethodName} {b : ByteArray} {maxL index hi2 : Nat} {rm : Room} {E : State → Prop} {e0 : va_E} (C : Cz p s m args c cc nL own D cy) (hM : CI l y b maxL rm D cy a0 F E e0 hi hi2) (hI : cI D a0 s (upF f hi e0) lo (hi + 1) H locs) (hlo : lo ≤ hi) (hl : ls.size = nL) (hcode : Cond.code y b maxL none ∈ gw_tbl) (hini : Cond.initialized y.cls ∈ gw_tbl) (hins : Cond.instanceMethod y ∈ gw_tbl) (hname : y.name = "<init>") (hd : y.cls ≠ "java/lang/invoke/MethodHandle" ∧ y.cls ≠ "java/lang/invoke/VarHandle" ∧ (parseMethodDescriptor y.desc).map (fun d => d.parameters.length) = some 0) (hR : rm.frames + 1 ≤ R.frames ∧ 8 + (maxL + 11) + rm.locals ≤ R.locals)
    (hlink : va_Nw (.methodLinkNest own index y "BoostForests") s ∨ Cond.methodLink own index y ∈ gw_tbl) (hEb : ∀ (U : State) (g : JFrame) (mk : MethodId) (a : Array Value), E U → E (U.calling g mk a)) (hEs : ∀ U : State, U.heap = H → s.WarmedH U.vm → E U) (hf : ∀ k, hi ≤ k → k < hi2 → f k = F k) (hrest : (rest.map fun v => v.category).sum ≤ 8) (hcells : cells + rm.cells ≤ R.cells) (hslots : slots + rm.slots ≤ R.slots) (hdg : decode cc pc = .ok (.invokespecial index, 3))
    (kk : ∀ (H1 : Heap) (locs1 : List Loc), cI D a0 s f lo hi2 H1 locs1 → W p l e R s m args below meth c H1 locs1 (cells + rm.cells) (slots + rm.slots) Q (F0 m (pc + 3) ls rest)) : W p l e R s m args below meth c H locs cells slots Q (F0 m pc ls (.ref (a0 + hi) :: rest)) := by
  obtain ⟨hx, hb, hml, hown, hts, hK, hE⟩ := C
  have hat := hI.2.1 hi hlo (Nat.lt_succ_self _)
  rw [upF_s] at hat
  have hp : PreS s H (va_Pc [.ref (a0 + hi)] (fun U => U.heap.size = a0 + (hi + 1) ∧ va_at D vCl (a0 + hi, e0) U.heap ∧ va_K D vCl (gT cy) U ∧ cE U ∧ E U)) (.ref (a0 + hi) :: []) :=
    ⟨fun a U g mk q => ⟨q.1, q.2.1, q.2.2.1, va_K.moved (u := U) (U := U.calling g mk a) (Vm.Alike.refl U.vm) q.2.2.2.1, cE_call q.2.2.2.2.1, hEb U g mk a q.2.2.2.2.2⟩, fun U hU hW => ⟨rfl, by rw [hU]; exact hI.1, by rw [hU]; exact hat, va_K.moved hW.alike hK, cE_warm hW hE, hEs U hU hW⟩⟩
  have hrun : va_Run p l e R s m args below meth c H locs cells slots rm.cells rm.slots (F0 m pc ls (.ref (a0 + hi) :: rest)) rest (va_Qv (fun _ : Unit => True) (fun _ t => t.heap.size = a0 + hi2 ∧ ∀ k, hi ≤ k → k < hi2 → va_at D vCl (a0 + k, F k) t.heap) (fun q => a0 + hi ≤ q) (Value.ref (a0 + hi) :: []).toArray) (fun q => a0 + hi ≤ q) := by
    rcases hlink with hlink | hlink
    · exact va_runIN (As := []) (rest := rest) ⟨hx, hb, hml, hown, hts⟩ hM ⟨va_cnB 0 hts (gGood hcode) rfl rfl rfl hlink (hts _ hini) hd hR, hname, hts _ hins⟩ hp rfl rfl hl rfl (lv_room hrest) hdg ⟨hcells, hslots⟩
    · exact va_runI (As := []) (rest := rest) ⟨hx, hb, hml, hown, hts⟩ hM (cwI 0 hts (gGood hcode) rfl rfl rfl (hts _ hini) (hts _ hlink) (hts _ hins) hname hd hR) hp rfl rfl hl rfl (lv_room hrest) hdg ⟨hcells, hslots⟩
  refine va_callv hrun hI.2.2 (fun q _ h => Nat.le_trans (Nat.add_le_add_left hlo _) h) (fun q h => Nat.le_trans (Nat.add_le_add_left hlo _) h) (fun u t H1 locs1 ht hvm _ hB hz hk hS => ?_)
  obtain ⟨b1, b2⟩ := hB
  rw [ht] at b1 b2
  refine kk H1 locs1 ⟨b1, fun k g0 g1 => ?_, hS⟩
  by_cases hkk : k < hi
  · have h9 := hI.2.1 k g0 (by omega)
    rw [upF_n (Nat.ne_of_lt hkk)] at h9
    exact h9.kept (hk _ (by rw [hI.1]; show a0 + k < _; omega) (by show ¬ a0 + hi ≤ a0 + k; omega))
  · rw [hf k (by omega) g1]
    exact b2 k (by omega) g1
end CZ2


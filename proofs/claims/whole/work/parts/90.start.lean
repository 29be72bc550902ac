theorem cI_gI {D : va_G} {cy : Nat → ClassId} {a0 : Nat} {s : State} {H : Heap} {locs : List Loc} (hs : s.heap.size = a0) (hI : cI D a0 s (cF cy a0) 0 299 H locs) : gI D cy (fun k => a0 + k) s M0 H locs := by
  refine ⟨fun k q hk => ?_, ⟨hI.2.2.1, fun q h1 h2 => hI.2.2.2.1 q h1 (fun z => h2 (Or.inr (by rw [hs]; exact z))), fun q hq => Or.inr (by rw [hs]; exact hI.2.2.2.2 q hq)⟩⟩
  have lk : k < nW := by have := (List.getElem?_eq_some_iff.mp hk).1; rwa [wd_len] at this
  rw [wd_get lk] at hk
  cases hk
  exact hI.2.1 k (Nat.zero_le _) lk
theorem SimN_0 : SimN M0 := by
  refine ⟨⟨⟨0, Nat.zero_le _, by decide +kernel, by decide +kernel, fun i hi => absurd hi (Nat.not_lt_zero i)⟩, ?_, Or.inl ?_⟩, ?_⟩
  · intro k hk
    rw [M0_46, M0_278]
    refine ⟨rfl, ?_⟩
    have h : k = 0 ∨ k = 1 ∨ k = 2 ∨ k = 3 ∨ k = 4 ∨ k = 5 ∨ k = 6 ∨ k = 7 ∨ k = 8 ∨ k = 9 ∨ k = 10 ∨ k = 11 ∨ k = 12 ∨ k = 13 ∨ k = 14 := by omega
    rcases h with rfl | rfl | rfl | rfl | rfl | rfl | rfl | rfl | rfl | rfl | rfl | rfl | rfl | rfl | rfl <;> decide +kernel
  · exact ⟨⟨by decide +kernel, by decide +kernel⟩, ⟨by decide +kernel, by decide +kernel⟩, by decide +kernel, by decide +kernel⟩
  · exact ⟨by decide +kernel, by decide +kernel, by decide +kernel⟩
theorem start_K {s : State} {args : Array Value} (hts : ∀ w ∈ lw_tbl, w.before args s = true) : ∃ (D : va_G) (cy : Nat → ClassId), va_K D vCl (gT cy) s := by
  have hg : ∀ w ∈ gw_tbl, w.before args s = true := fun w h => hts w (gw_in w h)
  obtain ⟨c0, i0, k0⟩ := u_known hg i_BF (hg _ kw_1_13)
  obtain ⟨c1, i1, k1⟩ := u_known hg i_TB (hg _ kw_1_21)
  obtain ⟨c2, i2, k2⟩ := u_known hg i_TG (hg _ kw_1_68)
  obtain ⟨c3, i3, k3⟩ := u_known hg i_GR (hg _ kw_1_74)
  obtain ⟨c4, i4, k4⟩ := u_known hg i_SM (hg _ kw_1_83)
  obtain ⟨c5, i5, k5⟩ := u_known hg i_SP (hg _ kw_1_104)
  obtain ⟨c6, i6, k6⟩ := u_known hg i_TR (hg _ kw_1_171)
  obtain ⟨c7, i7, k7⟩ := u_known hg i_MD (hg _ kw_3_66)
  obtain ⟨a0, q0, m0, x0, y0, z0⟩ := Cond.arrayClass_spec (hg _ kw_1_56)
  obtain ⟨a1, q1, m1, x1, y1, z1⟩ := Cond.arrayClass_spec (hg _ kw_1_102)
  obtain ⟨a2, q2, m2, x2, y2, z2⟩ := Cond.arrayClass_spec (hg _ kw_1_57)
  obtain ⟨m3, a3, q3, u3, -, y3, z3, x3⟩ := Cond.arrayOver_spec (hts _ kl_1_168)
  obtain ⟨m4, a4, q4, u4, -, y4, z4, x4⟩ := arrayOverA_spec (hts _ kl_1_27)
  obtain ⟨m5, a5, q5, u5, -, y5, z5, x5⟩ := arrayOverA_spec (hts _ kl_1_170)
  refine ⟨(fun c => match c with | 0 => c0 | 1 => c1 | 2 => c2 | 3 => c3 | 4 => c4 | 5 => c5 | 6 => c6 | _ => c7, fun c => match c with | 0 => i0 | 1 => i1 | 2 => i2 | 3 => i3 | 4 => i4 | 5 => i5 | 6 => i6 | _ => i7), fun t => match t with | 0 => a0 | 1 => a1 | 2 => a2 | 3 => a3 | 4 => a4 | _ => a5, ⟨fun c q hc => ?_, fun k q hk => ?_⟩⟩
  · match c, hc with
    | 0, hc => cases hc; exact k0
    | 1, hc => cases hc; exact k1
    | 2, hc => cases hc; exact k2
    | 3, hc => cases hc; exact k3
    | 4, hc => cases hc; exact k4
    | 5, hc => cases hc; exact k5
    | 6, hc => cases hc; exact k6
    | 7, hc => cases hc; exact k7
    | c + 8, hc => exact absurd hc (by simp [vCl])
  · match k, hk with
    | 0, hk => cases hk; exact ⟨fun n z => ⟨(fun k h => by cases h), q0, y0, m0, z0⟩, x0⟩
    | 1, hk => cases hk; exact ⟨fun n z => ⟨(fun k h => by cases h), q1, y1, m1, z1⟩, x1⟩
    | 2, hk => cases hk; exact ⟨fun n z => ⟨(fun k h => by cases h), q2, y2, m2, z2⟩, x2⟩
    | 3, hk => cases hk; exact ⟨fun n z => ⟨(fun k h => by cases h), q3, y3, m3, z3⟩, ⟨q3, m3, y3, z3, u3, x3⟩⟩
    | 4, hk => cases hk; exact ⟨fun n z => ⟨(fun k h => by cases h), q4, y4, m4, z4⟩, x4⟩
    | 5, hk => cases hk; exact ⟨fun n z => ⟨(fun k h => by cases h), q5, y5, m5, z5⟩, x5⟩
    | k + 6, hk => exact absurd hk (by simp [gT])
set_option maxHeartbeats 4000000 in
set_option maxRecDepth 100000 in
theorem start_LOWEST {s : State} {args : Array Value} {A : Nat → Prop} (hts : ∀ w ∈ lw_tbl, w.before args s = true) (hg : (Jvm.Cond.and given_1 narrow_1).before args s = true) (hA : ∀ a : Nat, a < s.heap.size → ¬ A a) : ∃ t : Nat, va_Z "BoostForests" "LOWEST" "[I" (.ref t) A s s.heap ∧ va_T .int t 15 (fun k => .int (c_LOWEST k)) A s s.heap := by
  have hs := flat_of_before _ hg
  have hel : ∀ j : Nat, j < 15 → (Term.elem (Term.static "BoostForests" "LOWEST" "[I") (.int (Int32.ofNat j))).eval args s none [] s = some (.int (c_LOWEST j)) := by
    intro j hj
    have h : j = 0 ∨ j = 1 ∨ j = 2 ∨ j = 3 ∨ j = 4 ∨ j = 5 ∨ j = 6 ∨ j = 7 ∨ j = 8 ∨ j = 9 ∨ j = 10 ∨ j = 11 ∨ j = 12 ∨ j = 13 ∨ j = 14 := by omega
    rcases h with rfl | rfl | rfl | rfl | rfl | rfl | rfl | rfl | rfl | rfl | rfl | rfl | rfl | rfl | rfl
    · exact va_eqt (hs (Cond.eq (.elem (Term.static "BoostForests" "LOWEST" "[I") (.int 0)) (.int 1)) (by decide +kernel))
    · exact va_eqt (hs (Cond.eq (.elem (Term.static "BoostForests" "LOWEST" "[I") (.int 1)) (.int 1)) (by decide +kernel))
    · exact va_eqt (hs (Cond.eq (.elem (Term.static "BoostForests" "LOWEST" "[I") (.int 2)) (.int 0)) (by decide +kernel))
    · exact va_eqt (hs (Cond.eq (.elem (Term.static "BoostForests" "LOWEST" "[I") (.int 3)) (.int 1)) (by decide +kernel))
    · exact va_eqt (hs (Cond.eq (.elem (Term.static "BoostForests" "LOWEST" "[I") (.int 4)) (.int 0)) (by decide +kernel))
    · exact va_eqt (hs (Cond.eq (.elem (Term.static "BoostForests" "LOWEST" "[I") (.int 5)) (.int 0)) (by decide +kernel))
    · exact va_eqt (hs (Cond.eq (.elem (Term.static "BoostForests" "LOWEST" "[I") (.int 6)) (.int 1)) (by decide +kernel))
    · exact va_eqt (hs (Cond.eq (.elem (Term.static "BoostForests" "LOWEST" "[I") (.int 7)) (.int 1)) (by decide +kernel))
    · exact va_eqt (hs (Cond.eq (.elem (Term.static "BoostForests" "LOWEST" "[I") (.int 8)) (.int 0)) (by decide +kernel))
    · exact va_eqt (hs (Cond.eq (.elem (Term.static "BoostForests" "LOWEST" "[I") (.int 9)) (.int (-100))) (by decide +kernel))
    · exact va_eqt (hs (Cond.eq (.elem (Term.static "BoostForests" "LOWEST" "[I") (.int 10)) (.int (-2147483648))) (by decide +kernel))
    · exact va_eqt (hs (Cond.eq (.elem (Term.static "BoostForests" "LOWEST" "[I") (.int 11)) (.int (-1))) (by decide +kernel))
    · exact va_eqt (hs (Cond.eq (.elem (Term.static "BoostForests" "LOWEST" "[I") (.int 12)) (.int (-1))) (by decide +kernel))
    · exact va_eqt (hs (Cond.eq (.elem (Term.static "BoostForests" "LOWEST" "[I") (.int 13)) (.int (-1))) (by decide +kernel))
    · exact va_eqt (hs (Cond.eq (.elem (Term.static "BoostForests" "LOWEST" "[I") (.int 14)) (.int (-1))) (by decide +kernel))
  obtain ⟨t, h1, h2⟩ := va_Tof (ty := .int) (N := 15) (f := fun k => .int (c_LOWEST k)) (A := A) (by decide) (hs (Cond.arrayOf (Term.static "BoostForests" "LOWEST" "[I") .int) (by decide +kernel)) (va_eqt (hs (Cond.eq (.length (Term.static "BoostForests" "LOWEST" "[I")) (.int 15)) (by decide +kernel))) hel hA
  exact ⟨t, va_Zof (hts _ kl_2_38) (hts _ (gw_in _ kw_1_1)) h1 hA, h2⟩
set_option maxHeartbeats 4000000 in
set_option maxRecDepth 100000 in
theorem start_HIGHEST {s : State} {args : Array Value} {A : Nat → Prop} (hts : ∀ w ∈ lw_tbl, w.before args s = true) (hg : (Jvm.Cond.and given_1 narrow_1).before args s = true) (hA : ∀ a : Nat, a < s.heap.size → ¬ A a) : ∃ t : Nat, va_Z "BoostForests" "HIGHEST" "[I" (.ref t) A s s.heap ∧ va_T .int t 15 (fun k => .int (c_HIGHEST k)) A s s.heap := by
  have hs := flat_of_before _ hg
  have hel : ∀ j : Nat, j < 15 → (Term.elem (Term.static "BoostForests" "HIGHEST" "[I") (.int (Int32.ofNat j))).eval args s none [] s = some (.int (c_HIGHEST j)) := by
    intro j hj
    have h : j = 0 ∨ j = 1 ∨ j = 2 ∨ j = 3 ∨ j = 4 ∨ j = 5 ∨ j = 6 ∨ j = 7 ∨ j = 8 ∨ j = 9 ∨ j = 10 ∨ j = 11 ∨ j = 12 ∨ j = 13 ∨ j = 14 := by omega
    rcases h with rfl | rfl | rfl | rfl | rfl | rfl | rfl | rfl | rfl | rfl | rfl | rfl | rfl | rfl | rfl
    · exact va_eqt (hs (Cond.eq (.elem (Term.static "BoostForests" "HIGHEST" "[I") (.int 0)) (.int 4)) (by decide +kernel))
    · exact va_eqt (hs (Cond.eq (.elem (Term.static "BoostForests" "HIGHEST" "[I") (.int 1)) (.int 20)) (by decide +kernel))
    · exact va_eqt (hs (Cond.eq (.elem (Term.static "BoostForests" "HIGHEST" "[I") (.int 2)) (.int 1000)) (by decide +kernel))
    · exact va_eqt (hs (Cond.eq (.elem (Term.static "BoostForests" "HIGHEST" "[I") (.int 3)) (.int 256)) (by decide +kernel))
    · exact va_eqt (hs (Cond.eq (.elem (Term.static "BoostForests" "HIGHEST" "[I") (.int 4)) (.int 12)) (by decide +kernel))
    · exact va_eqt (hs (Cond.eq (.elem (Term.static "BoostForests" "HIGHEST" "[I") (.int 5)) (.int 1000000)) (by decide +kernel))
    · exact va_eqt (hs (Cond.eq (.elem (Term.static "BoostForests" "HIGHEST" "[I") (.int 6)) (.int 256)) (by decide +kernel))
    · exact va_eqt (hs (Cond.eq (.elem (Term.static "BoostForests" "HIGHEST" "[I") (.int 7)) (.int 256)) (by decide +kernel))
    · exact va_eqt (hs (Cond.eq (.elem (Term.static "BoostForests" "HIGHEST" "[I") (.int 8)) (.int 12)) (by decide +kernel))
    · exact va_eqt (hs (Cond.eq (.elem (Term.static "BoostForests" "HIGHEST" "[I") (.int 9)) (.int 100)) (by decide +kernel))
    · exact va_eqt (hs (Cond.eq (.elem (Term.static "BoostForests" "HIGHEST" "[I") (.int 10)) (.int 2147483647)) (by decide +kernel))
    · exact va_eqt (hs (Cond.eq (.elem (Term.static "BoostForests" "HIGHEST" "[I") (.int 11)) (.int 1)) (by decide +kernel))
    · exact va_eqt (hs (Cond.eq (.elem (Term.static "BoostForests" "HIGHEST" "[I") (.int 12)) (.int 1)) (by decide +kernel))
    · exact va_eqt (hs (Cond.eq (.elem (Term.static "BoostForests" "HIGHEST" "[I") (.int 13)) (.int 1)) (by decide +kernel))
    · exact va_eqt (hs (Cond.eq (.elem (Term.static "BoostForests" "HIGHEST" "[I") (.int 14)) (.int 1)) (by decide +kernel))
  obtain ⟨t, h1, h2⟩ := va_Tof (ty := .int) (N := 15) (f := fun k => .int (c_HIGHEST k)) (A := A) (by decide) (hs (Cond.arrayOf (Term.static "BoostForests" "HIGHEST" "[I") .int) (by decide +kernel)) (va_eqt (hs (Cond.eq (.length (Term.static "BoostForests" "HIGHEST" "[I")) (.int 15)) (by decide +kernel))) hel hA
  exact ⟨t, va_Zof (hts _ kl_2_40) (hts _ (gw_in _ kw_1_1)) h1 hA, h2⟩
theorem len_exact {args : Array Value} {s : State} {t : Term} {n : Nat} (hn : n < 2 ^ 31) (h : (Term.length t).eval args s none [] s = some (.int (Int32.ofNat n))) : ∃ (a : Nat) (cell : Cell), t.eval args s none [] s = some (.ref a) ∧ s.arrayAt? a = some cell ∧ cell.slots.size = n := by
  simp only [Term.eval, Option.bind_eq_bind] at h
  cases ht : t.eval args s none [] s with
  | none => simp [ht] at h
  | some x =>
    cases x <;> simp [ht] at h
    case ref a =>
      obtain ⟨cell, hcell, h⟩ := Option.bind_eq_some_iff.mp h
      by_cases hs : cell.slots.size < 2147483648
      · rw [if_pos hs] at h
        have e : Int32.ofNat cell.slots.size = Int32.ofNat n := Value.int.inj (Option.some.inj h)
        have e2 := congrArg Int32.toNatClampNeg e
        rw [Int32.toNatClampNeg_ofNat_of_lt hs, Int32.toNatClampNeg_ofNat_of_lt hn] at e2
        exact ⟨a, cell, rfl, hcell, e2⟩
      · rw [if_neg hs] at h; cases h
/-- THE ONE WORD that the Statement's premises lack: AT_FIRST's array is of the class that the name [I finds -/
def firstIs (args : Array Value) (s : State) : Prop := (Cond.exactly (Term.static "BoostForests" "AT_FIRST" "[I") "[I").before args s = true
set_option maxHeartbeats 4000000 in
set_option maxRecDepth 100000 in
theorem start_FIRST {s : State} {args : Array Value} {cy : Nat → ClassId} (hcy : s.vm.findClass "[I" = some (cy 0)) (hg : (Jvm.Cond.and given_1 narrow_1).before args s = true) (hF : firstIs args s) : ∃ (ta : Nat) (cell : Cell), (Term.static "BoostForests" "AT_FIRST" "[I").eval args s none [] s = some (.ref ta) ∧ s.heap[ta]? = some cell ∧ isRow cy 15 c_FIRST cell := by
  have hs := flat_of_before _ hg
  obtain ⟨a, c, cell, k, x1, x2, x3, x4, x5, x6, -⟩ := Cond.exactly_spec hF
  obtain ⟨a2, cell2, l1, l2, l3⟩ := len_exact (n := 15) (by decide) (va_eqt (hs (Cond.eq (.length (Term.static "BoostForests" "AT_FIRST" "[I")) (.int 15)) (by decide +kernel)))
  cases x1.symm.trans l1
  obtain ⟨q1, q2, q3, -⟩ := State.arrayAt?_spec l2
  cases x3.symm.trans q1
  refine ⟨a, cell, x1, x3, x6.trans (Option.some.inj (x2.symm.trans hcy)), (fun k h => by rw [h] at q3; cases q3), q2, l3, ?_⟩
  have key : ∀ (j : Nat) (v : Int32), j < 15 → (Term.elem (Term.static "BoostForests" "AT_FIRST" "[I") (.int (Int32.ofNat j))).eval args s none [] s = some (.int v) → cell.slots[j]? = some (.int v) := by
    intro j v hj h
    obtain ⟨b, i, cell3, h1, h2, h3, h4, h5⟩ := Term.elem_spec h
    cases x1.symm.trans h1
    cases l2.symm.trans h3
    have hi : i = Int32.ofNat j := by
      have e : (Term.int (Int32.ofNat j)).eval args s none [] s = some (.int (Int32.ofNat j)) := rfl
      cases h2.symm.trans e
      rfl
    rw [hi, Int32.toNatClampNeg_ofNat_of_lt (by omega)] at h5
    exact h5
  intro j hj
  have h : j = 0 ∨ j = 1 ∨ j = 2 ∨ j = 3 ∨ j = 4 ∨ j = 5 ∨ j = 6 ∨ j = 7 ∨ j = 8 ∨ j = 9 ∨ j = 10 ∨ j = 11 ∨ j = 12 ∨ j = 13 ∨ j = 14 := by omega
  rcases h with rfl | rfl | rfl | rfl | rfl | rfl | rfl | rfl | rfl | rfl | rfl | rfl | rfl | rfl | rfl
  · exact key 0 3 hj (va_eqt (hs (Cond.eq (.elem (Term.static "BoostForests" "AT_FIRST" "[I") (.int 0)) (.int 3)) (by decide +kernel)))
  · exact key 1 1 hj (va_eqt (hs (Cond.eq (.elem (Term.static "BoostForests" "AT_FIRST" "[I") (.int 1)) (.int 1)) (by decide +kernel)))
  · exact key 2 1 hj (va_eqt (hs (Cond.eq (.elem (Term.static "BoostForests" "AT_FIRST" "[I") (.int 2)) (.int 1)) (by decide +kernel)))
  · exact key 3 256 hj (va_eqt (hs (Cond.eq (.elem (Term.static "BoostForests" "AT_FIRST" "[I") (.int 3)) (.int 256)) (by decide +kernel)))
  · exact key 4 4 hj (va_eqt (hs (Cond.eq (.elem (Term.static "BoostForests" "AT_FIRST" "[I") (.int 4)) (.int 4)) (by decide +kernel)))
  · exact key 5 0 hj (va_eqt (hs (Cond.eq (.elem (Term.static "BoostForests" "AT_FIRST" "[I") (.int 5)) (.int 0)) (by decide +kernel)))
  · exact key 6 256 hj (va_eqt (hs (Cond.eq (.elem (Term.static "BoostForests" "AT_FIRST" "[I") (.int 6)) (.int 256)) (by decide +kernel)))
  · exact key 7 256 hj (va_eqt (hs (Cond.eq (.elem (Term.static "BoostForests" "AT_FIRST" "[I") (.int 7)) (.int 256)) (by decide +kernel)))
  · exact key 8 0 hj (va_eqt (hs (Cond.eq (.elem (Term.static "BoostForests" "AT_FIRST" "[I") (.int 8)) (.int 0)) (by decide +kernel)))
  · exact key 9 0 hj (va_eqt (hs (Cond.eq (.elem (Term.static "BoostForests" "AT_FIRST" "[I") (.int 9)) (.int 0)) (by decide +kernel)))
  · exact key 10 0 hj (va_eqt (hs (Cond.eq (.elem (Term.static "BoostForests" "AT_FIRST" "[I") (.int 10)) (.int 0)) (by decide +kernel)))
  · exact key 11 0 hj (va_eqt (hs (Cond.eq (.elem (Term.static "BoostForests" "AT_FIRST" "[I") (.int 11)) (.int 0)) (by decide +kernel)))
  · exact key 12 0 hj (va_eqt (hs (Cond.eq (.elem (Term.static "BoostForests" "AT_FIRST" "[I") (.int 12)) (.int 0)) (by decide +kernel)))
  · exact key 13 0 hj (va_eqt (hs (Cond.eq (.elem (Term.static "BoostForests" "AT_FIRST" "[I") (.int 13)) (.int 0)) (by decide +kernel)))
  · exact key 14 0 hj (va_eqt (hs (Cond.eq (.elem (Term.static "BoostForests" "AT_FIRST" "[I") (.int 14)) (.int 0)) (by decide +kernel)))
set_option maxHeartbeats 4000000 in
set_option maxRecDepth 100000 in
theorem whole_if {p : Program} {e : Env} {s : State} {m : MethodId} {below : List Frame} {meth : Method} {c : Code} (l : Launch) {b L : Nat} {xs : Nat → Int32} (hL : L ≤ 3584) (C0 : lw_At p s m meth c b L xs) (hF : firstIs #[Value.ref b] s) : W p l e room_1 s m #[Value.ref b] below meth c s.heap [] 0 0 (lw_Z below #[Value.ref b] s) (entryFrame m ([Value.ref b] : List Value).toArray 4) := by
  obtain ⟨hx, hb, hr, hml, hown, hlw, hX, hbl, hlk, hgv⟩ := C0
  obtain ⟨D, cy, hK⟩ := start_K hlw
  have hts : ∀ w ∈ gw_tbl, w.before #[Value.ref b] s = true := fun w h => hlw w (gw_in w h)
  have hE : cE s := ⟨va_Nw.of rfl (hlw _ kl_1_22), va_Nw.of rfl (hlw _ kl_1_75), va_Nw.of rfl (hlw _ kl_1_80), va_Nw.of rfl (hlw _ kl_1_84), va_Nw.of rfl (hlw _ kl_1_105), va_Nw.of rfl (hlw _ kl_1_172), va_AO.of (hlw _ kl_1_168), cAA.of (hlw _ kl_1_27), cAA.of (hlw _ kl_1_170)⟩
  have C : Cz p s m #[Value.ref b] c code 4 "BoostForestsLaw" D cy := ⟨hx, hb, hml, hown, hts, hK, hE⟩
  generalize ha0 : s.heap.size = a0
  obtain ⟨ta, cell, g1, g3, g2⟩ := start_FIRST (cy := cy) (va_nm_int (hK.2 0 _ rfl).2) hgv hF
  have hta : ta < a0 := by rw [← ha0]; exact (Array.getElem?_eq_some_iff.mp g3).1
  have hB : cB cy a0 ta 15 s := ⟨va_Zof (hlw _ kl_1_59) (hts _ kw_1_1) g1 (fun a h => by omega), ⟨cell, g3, g2⟩, hta, va_Nw.of rfl (hlw _ kl_1_65), hlw _ kl_1_61⟩
  have hl := lv_entry ([.ref b]) (n := 4) (Nat.le_of_ble_eq_true rfl)
  rw [lg_entry_eq]
  generalize (lg_sl ([.ref b]) ++ List.replicate (4 - (lg_sl ([.ref b])).length) Slot.unset).toArray = ls at hl ⊢
  have hl : lv_has ls 4 [(0, .ref b)] := hl
  have hI : cI D a0 s (cF cy a0) 0 0 s.heap [] := ⟨ha0, fun k h1 h2 => absurd h2 (Nat.not_lt_zero k), va_S.rf⟩
  refine cz_new (ci := 0) (hi2 := 1) C hI i_BF rfl t_BF_ok kw_1_12 kw_1_13 kw_1_1 e_BF h_BF rfl (Nat.le_of_ble_eq_true rfl) (Nat.le_of_ble_eq_true rfl) d_LW_law_0 (fun H hI => ?_)
  refine lv_dup hx hb d_LW_law_3 rfl ?_
  refine cz_call (hi := 0) (hi2 := 273) C (c_BF_init (ta := ta)) hI (Nat.le_refl 0) hl.1 kw_1_16 kw_1_1 kw_1_15 rfl (by decide +kernel) ⟨(Nat.le_of_ble_eq_true rfl), (Nat.le_of_ble_eq_true rfl)⟩ (Or.inr kw_1_14) (fun _ _ _ _ h => cB_call h) (fun U hU hW => cB_warm hW (fun q q1 q2 => by rw [hU]; exact hI.2.2.2.1 q q1 q2) hB) (fun _ _ _ => rfl) (Nat.le_of_ble_eq_true rfl) (Nat.le_of_ble_eq_true rfl) (Nat.le_of_ble_eq_true rfl) d_LW_law_4 (fun H locs hI => ?_)
  refine lv_astore_n hx hb d_LW_law_7 rfl hl (by decide) rfl (fun ls hl => ?_)
  refine cz_new (ci := 7) (hi2 := 274) C hI i_MD rfl t_MD_ok kw_3_65 kw_3_66 kw_1_8 e_MD h_MD rfl (Nat.le_of_ble_eq_true rfl) (Nat.le_of_ble_eq_true rfl) d_LW_law_8 (fun H hI => ?_)
  refine lv_dup hx hb d_LW_law_11 rfl ?_
  refine cz_call (hi := 273) (hi2 := 299) C c_MD_init hI (Nat.zero_le _) hl.1 kw_3_69 kw_1_8 kw_3_68 rfl (by decide +kernel) ⟨(Nat.le_of_ble_eq_true rfl), (Nat.le_of_ble_eq_true rfl)⟩ (Or.inr kw_3_67) (fun _ _ _ _ h => h) (fun _ _ _ => trivial) (fun _ _ _ => rfl) (Nat.le_of_ble_eq_true rfl) (Nat.le_of_ble_eq_true rfl) (Nat.le_of_ble_eq_true rfl) d_LW_law_12 (fun H locs hI => ?_)
  refine lv_astore_n hx hb d_LW_law_15 rfl hl (by decide) rfl (fun ls hl => ?_)
  refine lv_iconst (v := (0 : Int32)) hx hb d_LW_law_16 (by decide) ?_
  refine lv_istore_n hx hb d_LW_law_17 rfl hl (by decide) rfl (fun ls hl => ?_)
  have hA : ∀ a : Nat, a < s.heap.size → ¬ gA (fun k => a0 + k) s.heap.size a := fun a h q => by
    rcases q with ⟨k, hk, e9⟩ | q
    · have e9 : a = a0 + k := e9
      omega
    · omega
  obtain ⟨tl, z1, z2⟩ := start_LOWEST hlw hgv hA
  obtain ⟨th, z3, z4⟩ := start_HIGHEST hlw hgv hA
  exact L_LW_law_18 (ad := fun k => a0 + k) ⟨hx, hb, hml, hown, hts, hr, hlk, hK, fun i j _ _ h => by have h : a0 + i = a0 + j := h; omega⟩ hX hbl (hA b hbl) (fun k _ => by rw [ha0]; exact Nat.le_add_right _ _) (Nat.le_of_ble_eq_true rfl) (Nat.le_of_ble_eq_true rfl) z1 z2 z3 z4 (Q := fun v _ => v = 1) (fun v _ h => h) (L + 1) 0 M0 H locs ls (law_ok hL (fun _ => rfl) (L + 1) 0 M0 (by omega) (by omega) SimN_0) (cI_gI ha0 hI) (lv_sub hl [3, 2, 1, 0] rfl)

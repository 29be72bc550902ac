set_option maxHeartbeats 4000000 in
theorem odd_walk (l : Launch) : MetFree l x (headSpec (Cond.code x code maxLocals ret :: tables_1) rz_LB) (fun args s => args = #[Value.ref 0] ∧ va_X 0 0 (fun _ => 0) s s.heap ∧ 0 < s.heap.size ∧ oddIs #[Value.ref 0] s ∧ (Cond.and given_1 narrow_1).before #[Value.ref 0] s = true) (fun _ _ _ _ _ => True) (fun _ s _ t => ∃ k9 : Cell, t.heap[s.heap.size + 46]? = some k9 ∧ k9.slots.size = 7602176) := by
  refine MetFree.of_bodyS (code := code) (maxLocals := maxLocals) (ret := ret) (by decide) ?_ ?_
  · intro args s m h hn
    obtain ⟨meth, c, h1, h2, h3, h4, h5, h6, -, -⟩ := Cond.code_spec hn (atoms_spec (ws := Cond.code x code maxLocals ret :: tables_1) h _ List.mem_cons_self)
    exact ⟨meth, c, h1, h2, h3, h4, h5, h6⟩
  · intro p e s m args below meth c s₁ B hml0 hP _
    obtain ⟨rfl, hX, hbl, hO, hgv⟩ := hP
    have hown : s.vm.findClass R_law = some m.cls := findClass_of_methodNamed B.named
    have hts0 : ∀ c ∈ (Cond.code x code maxLocals ret :: tables_1), c.before #[Value.ref 0] s = true := atoms_spec (ws := Cond.code x code maxLocals ret :: tables_1) B.pre
    have hts : ∀ w ∈ lw_tbl, w.before #[Value.ref 0] s = true := k2_hts_sels lw_privs (fun w hw => hts0 w (List.mem_cons_of_mem _ hw)) lw_privs_ok
    have hml : c.maxLocals = 4 := B.maxLocals_eq (hts0 _ List.mem_cons_self)
    have X₀ : Stand p l e rz_LB s m #[Value.ref 0] below meth c s₁ [] 0 0 := Stand.of_body B
    have hh0 : s₁.heap = s.heap := by rw [B.state]; rfl
    have K : W p l e rz_LB s m #[Value.ref 0] below meth c s₁.heap [] 0 0 (bigEnd below s) (entryFrame m ([Value.ref 0] : List Value).toArray 4) := by
      rw [hh0]
      exact odd_law l ⟨B.exec, B.bytes, B.returns, hml, hown, hts, hX, hbl, B.notSynchronized, hgv⟩ hO
    obtain ⟨t, a1, o, b1, b2, b3⟩ := K s₁ rfl X₀
    exact ⟨t, o, a1, b1, b2, b3⟩
theorem le_sum_of {a : Nat} : ∀ {l : List Nat}, a ∈ l → a ≤ l.sum
  | b :: l, h => by
    rw [List.sum_cons]
    rcases List.mem_cons.mp h with h | h
    · omega
    · have := le_sum_of h
      omega
theorem scr3 : va_X 0 0 (fun _ => 0) about3 about3.heap := ⟨_, rfl, ⟨(fun k h => by cases h), _, rfl, 14, rfl⟩, (fun h => by cases h), rfl, fun j hj => absurd hj (Nat.not_lt_zero j)⟩
theorem start3 : AtStart classFile x code maxLocals ret World_1 tables_1 room_1 Calls_1 rest_1 Pre_1 launch0 start1.p0 env3 about3 ⟨0, 0⟩ start1.args0 Lib.HandBits.below0 :=
  ⟨start1.atStart.1, trivial, launch0.admits_env _ _ _, launch0.least_env, fairChoices_fair.cas, fairChoices_fair.clock, rfl, fit3, heap3, applies3 room3_1, trivial, rest3, pre3⟩
theorem ends3 : ∃ (n : Nat) (o : Outcome), (∀ k, k < n → Within (stepsAlone start1.p0.tables env3 k about3) Lib.HandBits.below0) ∧ (stepsAlone start1.p0.tables env3 n about3).status = Status.running ∧ Ended (stepsAlone start1.p0.tables env3 n about3) Lib.HandBits.below0 o ∧ ∀ L, ¬ Framed about3 o (stepsAlone start1.p0.tables env3 n about3) L 600000 7302250 := by
  obtain ⟨n, o, w, r, e, k9, hk, hs⟩ := odd_walk launch0 start1.p0 env3 (launch0.admits_env _ _ _) fairChoices_fair.cas fairChoices_fair.clock about3 ⟨0, 0⟩ start1.args0 Lib.HandBits.below0 rfl ((Spec.applies_iff_loose rfl).mp (applies3 room3_2)).1 ⟨rfl, scr3, (by decide +kernel), odd3, pre3⟩ trivial
  refine ⟨n, o, w, r, e, fun L hF => ?_⟩
  obtain ⟨-, -, -, -, -, -, hsum, -⟩ := hF
  generalize stepsAlone start1.p0.tables env3 n about3 = t at hk hsum
  have hmem : k9 ∈ t.heap.toList.drop about3.heap.size := List.mem_of_getElem? (i := 46) (by rw [List.getElem?_drop, Array.getElem?_toList]; exact hk)
  have hle : k9.slots.size ≤ ((t.heap.toList.drop about3.heap.size).map (·.slots.size)).sum := le_sum_of (List.mem_map.mpr ⟨k9, hmem, rfl⟩)
  have hsum : ((t.heap.toList.drop about3.heap.size).map (·.slots.size)).sum ≤ 7302250 := hsum
  omega
theorem refuted_1 : RefutedClaimed_1_1 := by
  obtain ⟨n, o, w, r, e, hF⟩ := ends3
  exact ⟨launch0, start1.p0, env3, about3, ⟨0, 0⟩, start1.args0, Lib.HandBits.below0, rfl, start3, n, o, w, r, e, fun h => hF _ h.2⟩
theorem refuted_2 : RefutedClaimed_1_2 := by
  obtain ⟨n, o, w, r, e, hF⟩ := ends3
  exact ⟨launch0, start1.p0, env3, about3, ⟨0, 0⟩, start1.args0, Lib.HandBits.below0, rfl, start3, n, o, w, r, e, fun h => hF _ h.2⟩
theorem part_false : ¬ (Claimed_1_1 ∧ Claimed_1_2) := by
  intro h
  obtain ⟨n, o, w1, r1, e1, hp⟩ := h.1 launch0 rfl start1.atStart.1 trivial start1.p0 env3 (launch0.admits_env _ _ _) fairChoices_fair.cas fairChoices_fair.clock about3 ⟨0, 0⟩ start1.args0 Lib.HandBits.below0 rfl fit3 heap3 (applies3 room3_1) ⟨trivial, rest3, pre3⟩
  obtain ⟨n2, o2, w2, r2, e2, hF⟩ := ends3
  obtain ⟨rfl, rfl⟩ := the_end_unique (f := fun k => stepsAlone start1.p0.tables env3 k about3) w1 e1 w2 e2
  exact hF _ hp.2


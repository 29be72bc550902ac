theorem named3 {y : MethodName} {m : MethodId} (h : start1.about.methodNamed? y = some m) : about3.methodNamed? y = some m := by
  unfold State.methodNamed? at h ⊢
  cases hc : start1.about.vm.findClass y.cls with
  | none => rw [hc] at h; cases h
  | some c =>
    rw [hc] at h
    rw [find3 hc]
    cases hk : start1.about.vm.classes[c]? with
    | none => simp [hk] at h
    | some k =>
      simp only [hk, Option.bind_eq_bind, Option.bind_some] at h
      simp only [class3 hk, Option.bind_eq_bind, Option.bind_some]
      exact h
theorem meth3 {m : MethodId} {meth : Method} (h : start1.about.vm.method? m = some meth) : about3.vm.method? m = some meth := by
  unfold Vm.method? at h ⊢
  cases hk : start1.about.vm.classes[m.cls]? with
  | none => simp [hk] at h
  | some k =>
    simp only [hk, Option.bind_eq_bind, Option.bind_some] at h
    simp only [class3 hk, Option.bind_eq_bind, Option.bind_some]
    exact h
theorem code3 {y : MethodName} {b : ByteArray} {n : Nat} {r : Option FieldType} (h : (Cond.code y b n r).before start1.args0 start1.about = true) : (Cond.code y b n r).before start1.args0 about3 = true := by
  simp only [Cond.before, Cond.holds, Cond.value] at h ⊢
  cases hm : start1.about.methodNamed? y with
  | none => simp [hm] at h
  | some m =>
    cases hq : start1.about.vm.method? m with
    | none => simp [hm, hq] at h
    | some meth =>
      rw [hm, Option.bind_some, hq] at h
      rw [named3 hm, Option.bind_some, meth3 hq]
      exact h
theorem words3 : ∀ c ∈ (Cond.code x code maxLocals ret :: tables_1), c.before start1.args0 about3 = true := by
  have key : ∀ (c : Cond), c.before start1.args0 start1.about = true → (su_isCode c || c.before start1.args0 about3) = true → c.before start1.args0 about3 = true := by
    intro c h1 h2
    rcases Bool.or_eq_true_iff.mp h2 with h | h
    · cases c <;> first | exact code3 h1 | cases h
    · exact h
  intro c hc
  have h0 := start1.words c hc
  rcases List.mem_cons.mp hc with h | h
  · exact key c h0 (by rw [h]; rfl)
  · have h1 : c ∈ tables_1_1 ++ (tables_1_2 ++ (tables_1_3 ++ tables_1_4)) := h
    rcases List.mem_append.mp h1 with h2 | h1
    · exact key c h0 (List.all_eq_true.mp oth_1 c h2)
    rcases List.mem_append.mp h1 with h2 | h1
    · exact key c h0 (List.all_eq_true.mp oth_2 c h2)
    rcases List.mem_append.mp h1 with h2 | h1
    · exact key c h0 (List.all_eq_true.mp oth_3 c h2)
    exact key c h0 (List.all_eq_true.mp oth_4 c h1)
def env3 : Env := launch0.env 0 0 0
set_option maxRecDepth 100000 in
theorem heap3 : heapFits about3 = true := by decide +kernel
set_option maxRecDepth 100000 in
theorem room3 {r : Room} (h1 : about3.frames.length + r.frames ≤ launch0.maxFrames) (h2 : about3.heap.size + r.cells ≤ launch0.maxCells) (h3 : about3.slotsUsed + r.slots ≤ launch0.maxSlots) (h4 : about3.localsInUse + r.locals ≤ launch0.maxStackSlots - stackMargin) (h5 : about3.localsInUse + r.locals + stackMargin ≤ realStackBytes / 8) : about3.hasRoom env3.platform r = true :=
  State.hasRoom_of rfl (Nat.le_trans h1 (Nat.le_max_left _ _)) (Nat.le_trans h4 (Nat.le_max_left _ _)) (Nat.le_trans h2 (Nat.le_max_left _ _)) (Nat.le_trans h3 (Nat.le_max_left _ _)) (by decide +kernel) h5
set_option maxRecDepth 100000 in
theorem applies3 {r : Room} (hr : about3.hasRoom env3.platform r = true) : (headSpec (Cond.code x code maxLocals ret :: tables_1) r).applies x env3.platform about3 = true :=
  (Spec.applies_iff rfl).mpr ⟨rfl, rfl, rfl, by decide +kernel, by decide +kernel, by decide +kernel, hr, atoms_intro words3⟩
set_option maxRecDepth 100000 in
theorem rest3 : rest_1_c.before start1.args0 about3 = true := by decide +kernel
set_option maxRecDepth 100000 in
theorem pre3 : (Cond.and given_1 narrow_1).before start1.args0 about3 = true := by decide +kernel
set_option maxRecDepth 100000 in
theorem room3_1 : about3.hasRoom env3.platform room_1 = true := room3 (by decide +kernel) (by decide +kernel) (by decide +kernel) (by decide +kernel) (by decide +kernel)
set_option maxRecDepth 100000 in
theorem room3_2 : about3.hasRoom env3.platform rz_LB = true := room3 (by decide +kernel) (by decide +kernel) (by decide +kernel) (by decide +kernel) (by decide +kernel)
set_option maxRecDepth 100000 in
theorem odd3 : oddIs #[Value.ref 0] about3 := ⟨2, by decide +kernel, ⟨_, rfl, rfl, by decide +kernel⟩, (by decide +kernel : (Cond.selects "[K" x_K y_K).before #[] about3 = true), (by decide +kernel : (Cond.instanceMethod y_K).before #[] about3 = true), (by decide +kernel : (Cond.initialized "[K").before #[] about3 = true), su_hand_word (m := ⟨23, 0⟩) (by decide +kernel) rfl (by decide +kernel) (by decide +kernel)⟩
set_option maxRecDepth 100000 in
theorem fit3 : argsFit about3.vm ⟨0, 0⟩ start1.args0 = true := by decide +kernel


theorem bigC_size : bigC.slots.size = 4294967311 := vp_size_i _ _ _
theorem bigC_read (j : Nat) (h : j < 4294967311) : bigC.slots[j]? = some (.int (c_FIRST j)) := by
  show (arrV 15 4294967311 (fun j => .int (c_FIRST j))).slots[j]? = _
  rw [arrV_read _ _ h]
theorem fits2 : cellFits about2 bigC = true := by
  unfold cellFits
  refine List.all_eq_true.mpr fun i _ => ?_
  cases hv : bigC.slots[i]? with
  | none => rfl
  | some v =>
    have hi : i < 4294967311 := by rw [← bigC_size]; exact (Array.getElem?_eq_some_iff.mp hv).1
    rw [bigC_read i hi] at hv
    cases hv
    rfl
theorem heap2 : heapFits about2 = true := by
  unfold heapFits
  rw [about2_heap, ← Array.all_toList]
  have h0 : cellFits about2 (start1.aboutOf #[]).heap[0]! = true := by decide +kernel
  have h1 : cellFits about2 (start1.aboutOf #[]).heap[1]! = true := by decide +kernel
  have h3 : cellFits about2 (start1.aboutOf #[]).heap[3]! = true := by decide +kernel
  have h4 : cellFits about2 (start1.aboutOf #[]).heap[4]! = true := by decide +kernel
  simp only [List.all_cons, List.all_nil, h0, h1, fits2, h3, h4, Bool.and_self]
def szs (l : List Cell) : Nat := l.foldl (fun n c => n + c.slots.size) 0
theorem szs_5 {a b c d e : Cell} {x y z u v : Nat} (h0 : a.slots.size = x) (h1 : b.slots.size = y) (h2 : c.slots.size = z) (h3 : d.slots.size = u) (h4 : e.slots.size = v) : szs [a, b, c, d, e] = 0 + x + y + z + u + v := by
  subst h0; subst h1; subst h2; subst h3; subst h4
  rfl
theorem true_of {s : State} {l : List Cell} (h : s.heap.toList = l) {n : Nat} (hn : szs l = n) (hu : s.slotsUsed = n) : s.slotsTrue = true := by
  unfold State.slotsTrue
  rw [← Array.foldl_toList, h, hu, ← hn]
  exact beq_self_eq_true _
theorem slots2 : about2.slotsTrue = true := by
  have s0 : (start1.aboutOf #[]).heap[0]!.slots.size = 0 := by decide +kernel
  have s1 : (start1.aboutOf #[]).heap[1]!.slots.size = 49 := by decide +kernel
  have s3 : (start1.aboutOf #[]).heap[3]!.slots.size = 15 := by decide +kernel
  have s4 : (start1.aboutOf #[]).heap[4]!.slots.size = 15 := by decide +kernel
  exact true_of (congrArg Array.toList about2_heap) (szs_5 s0 s1 bigC_size s3 s4) (show (4294967390 : Nat) = 0 + 0 + 49 + 4294967311 + 15 + 15 from rfl)
def env2 : Env := launch0.env 0 0 9000000000
theorem room2 {r : Room} (h1 : about2.frames.length + r.frames ≤ launch0.maxFrames) (h2 : 5 + r.cells ≤ launch0.maxCells) (h3 : 4294967390 + r.slots ≤ 9000000000) (h4 : about2.localsInUse + r.locals ≤ launch0.maxStackSlots - stackMargin) (h5 : about2.localsInUse + r.locals + stackMargin ≤ realStackBytes / 8) : about2.hasRoom env2.platform r = true :=
  State.hasRoom_of rfl (Nat.le_trans h1 (Nat.le_max_left _ _)) (Nat.le_trans h4 (Nat.le_max_left _ _)) (Nat.le_trans (show about2.heap.size + r.cells ≤ _ by rw [about2_heap]; exact h2) (Nat.le_max_left _ _)) (Nat.le_trans h3 (Nat.le_max_right _ _)) slots2 h5
theorem applies2 {r : Room} (hr : about2.hasRoom env2.platform r = true) : (headSpec (Cond.code x code maxLocals ret :: tables_1) r).applies x env2.platform about2 = true :=
  (Spec.applies_iff rfl).mpr ⟨rfl, rfl, rfl, by decide +kernel, by decide +kernel, by decide +kernel, hr, atoms_intro words2⟩
theorem rest2 : rest_1_c.before start1.args0 about2 = true := by decide +kernel
theorem static2 : (Term.static "BoostForests" "AT_FIRST" "[I").eval start1.args0 about2 none [] about2 = some (.ref 2) := by decide +kernel

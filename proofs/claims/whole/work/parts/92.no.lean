/-! a start that meets every premise of the Statement, and at which it is false: AT_FIRST's cell has 15 + 2^32 slots -/
def bigC : Cell := vp_cell 15 (4294967311, .inl c_FIRST)
def about2 : State := { start1.aboutOf #[] with heap := (start1.aboutOf #[]).heap.setIfInBounds 2 bigC, slotsUsed := 4294967390 }
theorem about2_vm : start1.about.vm = about2.vm := rfl
theorem about2_heap : about2.heap = #[(start1.aboutOf #[]).heap[0]!, (start1.aboutOf #[]).heap[1]!, bigC, (start1.aboutOf #[]).heap[3]!, (start1.aboutOf #[]).heap[4]!] := rfl
theorem bigC_at : about2.heap[2]? = some bigC := rfl
set_option maxRecDepth 100000 in
theorem others2 : tables_1.all (fun c => c.onTables || c.before start1.args0 about2) = true := by decide +kernel
theorem words2 : ∀ c ∈ (Cond.code x code maxLocals ret :: tables_1), c.before start1.args0 about2 = true := by
  intro c hc
  by_cases h : c.onTables = true
  · exact va_tabs h about2_vm (start1.words c hc)
  · rcases List.mem_cons.mp hc with h1 | h1
    · rw [h1] at h
      exact absurd rfl h
    · have h2 := List.all_eq_true.mp others2 c h1
      rcases Bool.or_eq_true_iff.mp h2 with h3 | h3
      · exact absurd h3 h
      · exact h3

/-! the word that whole_with_word adds holds at the claim's own witness: its premises can be met, and whole_with_word isn't empty -/
theorem word_met : word_1.before start1.args0 start1.about = true := by decide +kernel
theorem pre_met : (Cond.and (Cond.and given_1 narrow_1) word_1).before start1.args0 start1.about = true := by decide +kernel
theorem rest_met : rest_1_c.before start1.args0 start1.about = true := by decide +kernel
theorem start_met : ∃ l p e s m a b, AtStart classFile x code maxLocals ret World_1 tables_1 room_1 Calls_1 rest_1 PreX l p e s m a b := by
  obtain ⟨h1, h2, h3, h4, h5, h6, h7, h8, h9, h10, h11, h12, -⟩ := start1.atStart
  exact ⟨_, _, _, _, _, _, _, h1, h2, h3, h4, h5, h6, h7, h8, h9, h10, h11, h12, pre_met⟩

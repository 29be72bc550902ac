def goesL (v cut side : Int32) : Bool := if 0 ≤ v then decide (¬ cut < v) else decide (side = 0)
theorem p_goesLeft {Q : Int32 → gM → Prop} {M : gM} {v cut side : Int32} (h : Q (bI (goesL v cut side)) M) : wp_MD_goesLeft Q v cut side M := by
  unfold goesL at h
  refine ⟨fun c => ?_, fun c => ?_⟩
  · rw [if_pos c] at h
    exact ⟨fun d => bI_0 h (by simpa using d), fun d => bI_1 h (by simpa using d)⟩
  · rw [if_neg c] at h
    exact ⟨fun d => bI_0 h (by simpa using d), fun d => bI_1 h (by simpa using d)⟩
/-- the node below, of node i of tree r, for numbers nm -/
def stp (M : gM) (r : Nat) (nm : Nat → Int32) (i : Nat) : Nat := if M.1 288 (32 * r + i) < 0 then i else (M.1 291 (32 * r + i)).toNatClampNeg + (if goesL (nm (M.1 288 (32 * r + i)).toNatClampNeg) (M.1 289 (32 * r + i)) (M.1 290 (32 * r + i)) = true then 0 else 1)
theorem stp_leaf {M : gM} {r i : Nat} {nm : Nat → Int32} (h : M.1 288 (32 * r + i) = -1) : stp M r nm i = i := by
  unfold stp
  rw [if_pos (by rw [h]; decide)]
theorem stp_node {M : gM} {r s i c l m d : Nat} {nm : Nat → Int32} (hs : s ≤ 31) (h : nodeC M r s i c l m d) : stp M r nm i = l + (if goesL (nm c) (M.1 289 (32 * r + i)) (M.1 290 (32 * r + i)) = true then 0 else 1) := by
  unfold stp
  have hc := h.1.1
  have hl := h.2.1.2.2
  rw [h.1.2, if_neg (nI_pos (by omega)), h.2.1.1, nI_clamp (by omega), nI_clamp (by omega)]
theorem stp_lt {M : gM} {r s i : Nat} {nm : Nat → Int32} (hs : treeS M r s) (hi : i < s) : stp M r nm i < s := by
  rcases (hs.2.2.2.2.2 i hi).2.2.2 with h | ⟨c, l, m, d, h⟩
  · rw [stp_leaf h]; exact hi
  · rw [stp_node hs.2.1 h]
    have := h.2.1.2.2
    split <;> omega
/-- the numbers of a row or of a question, at the cell nb -/
def nums (M : gM) (nb : Nat) (nm : Nat → Int32) : Prop := ∀ c, c < 4 → M.1 nb c = nm c ∧ isC (nm c) = true
theorem isC_cases {v : Int32} (h : isC v = true) : v = -1 ∨ 0 ≤ v := by
  obtain ⟨g1, -⟩ := inR_t.mp h
  rw [i_le, show (-1 : Int32).toInt = -1 from rfl] at g1
  by_cases e : v.toInt = -1
  · exact Or.inl (Int32.toInt_inj.mp (e.trans rfl))
  · right
    rw [i_le, show (0 : Int32).toInt = 0 from rfl]
    omega
theorem q_step {Q : Int32 → gM → Prop} {M : gM} {r s i nb : Nat} {nm : Nat → Int32} (hr : r < 12) (hs : treeS M r s) (hi : i < s) (hn : nums M nb nm) (hq : Q (nI (stp M r nm i)) M) : wp_TR_stepFrom Q (116 + 13 * r) nb (nI i) M := by
  have s31 := hs.2.1
  have hE := (hs.2.2.2.2.2 i hi).1
  refine ⟨vp_in_nI (by omega) (by omega), ?_⟩
  rw [nI_clamp (by omega), hE.1.1, hE.1.2.1, hE.1.2.2.1]
  rcases (hs.2.2.2.2.2 i hi).2.2.2 with h | ⟨c, l, m, d, h⟩
  · rw [h]
    rw [stp_leaf h] at hq
    exact ⟨fun q => absurd rfl q, fun _ => hq⟩
  · rw [stp_node s31 h] at hq
    obtain ⟨⟨hc, ec⟩, ⟨el, l1, l2⟩, hside, -⟩ := h
    rw [ec]
    have last : ∀ v : Int32, (v = 0 ∧ goesL (nm c) (M.1 289 (32 * r + i)) (M.1 290 (32 * r + i)) = true) ∨ (v = 1 ∧ goesL (nm c) (M.1 289 (32 * r + i)) (M.1 290 (32 * r + i)) = false) → wp_TR_stepFrom_65 Q (116 + 13 * r) nb (nI i) v M := by
      intro v hv
      refine ⟨vp_in_nI (by omega) (by omega), ?_⟩
      rw [nI_clamp (by omega), hE.1.2.2.2, el]
      rcases hv with ⟨rfl, hv⟩ | ⟨rfl, hv⟩
      · rw [hv, if_pos rfl] at hq
        refine ⟨fun _ => ?_, fun q => absurd rfl q⟩
        show Q (nI l + 0) M
        rw [Int32.add_zero]
        exact hq
      · rw [hv, if_neg (by decide)] at hq
        refine ⟨fun q => absurd q (by decide), fun _ => ?_⟩
        show Q (nI l + 1) M
        rw [nI_1]
        exact hq
    refine ⟨fun _ => ⟨vp_in_nI hc (by omega), ?_⟩, fun q => absurd q (fun z => by
      have := congrArg Int32.toInt z
      rw [nI_toInt (by omega), show (-1 : Int32).toInt = -1 from rfl] at this
      omega)⟩
    rw [nI_clamp (by omega), (hn c hc).1]
    rcases isC_cases (hn c hc).2 with e | e
    · refine ⟨fun q => absurd e q, fun _ => ?_⟩
      have g : goesL (nm c) (M.1 289 (32 * r + i)) (M.1 290 (32 * r + i)) = decide (M.1 290 (32 * r + i) = 0) := by
        unfold goesL
        rw [e, if_neg (by decide)]
      refine ⟨fun q => last 0 (Or.inl ⟨rfl, ?_⟩), fun q => last 1 (Or.inr ⟨rfl, ?_⟩)⟩
      · rw [g]
        rcases hside with z | z
        · simpa using z
        · exact absurd z q
      · rw [g, q]
        decide
    · have g : goesL (nm c) (M.1 289 (32 * r + i)) (M.1 290 (32 * r + i)) = decide (¬ M.1 289 (32 * r + i) < nm c) := by
        unfold goesL
        rw [if_pos e]
      refine ⟨fun _ => ⟨fun q => last 0 (Or.inl ⟨rfl, ?_⟩), fun q => last 1 (Or.inr ⟨rfl, ?_⟩)⟩, fun q => ?_⟩
      · rw [g]
        simp only [decide_eq_true_eq]
        intro z
        rw [i_lt] at z
        rw [i_le] at q
        omega
      · rw [g]
        simp only [decide_eq_false_iff_not, Classical.not_not]
        rw [i_lt]
        rw [i_le] at q
        omega
      · rw [q] at e
        exact absurd e (by decide)
def lfj (M : gM) (r : Nat) (nm : Nat → Int32) : Nat → Nat
  | 0 => 0
  | j + 1 => stp M r nm (lfj M r nm j)
theorem lfj_lt {M : gM} {r s : Nat} {nm : Nat → Int32} (hs : treeS M r s) (j : Nat) : lfj M r nm j < s := by
  induction j with
  | zero => exact hs.1
  | succ j ih => exact stp_lt hs ih
theorem q_leafOf {Q : Int32 → gM → Prop} {M : gM} {r s nb : Nat} {nm : Nat → Int32} (hr : r < 12) (hs : treeS M r s) (hn : nums M nb nm) (hq : Q (nI (lfj M r nm 4)) M) : wp_TR_leafOf Q (116 + 13 * r) nb M := by
  have go : ∀ z j, j + z = 4 → wp_TR_leafOf_4 Q (116 + 13 * r) nb (z + 1) (nI (lfj M r nm j)) (nI j) M := by
    intro z
    induction z with
    | zero =>
      intro j hj
      have : j = 4 := by omega
      subst this
      exact ⟨fun _ => hq, fun c => absurd (show (4 : Int32) ≤ nI 4 by decide) c⟩
    | succ z ih =>
      intro j hj
      refine ⟨fun c => ?_, fun _ => q_step hr hs (lfj_lt hs j) hn ?_⟩
      · rw [show (4 : Int32) = nI 4 from rfl, nI_leI (by omega) (by omega)] at c; omega
      · show wp_TR_leafOf_4 Q (116 + 13 * r) nb (z + 1) (nI (lfj M r nm (j + 1))) (nI j + 1) M
        rw [nI_1]
        exact ih (j + 1) (by omega)
  exact ⟨5, go 4 0 (by omega)⟩
theorem lfj_stay {M : gM} {r j : Nat} {nm : Nat → Int32} (h : M.1 288 (32 * r + lfj M r nm j) = -1) : ∀ d, lfj M r nm (j + d) = lfj M r nm j := by
  intro d
  induction d with
  | zero => rfl
  | succ d ih =>
    show stp M r nm (lfj M r nm (j + d)) = _
    rw [ih, stp_leaf h]
theorem lfj_deep {M : gM} {r s : Nat} {nm : Nat → Int32} (hs : treeS M r s) : ∀ j, j ≤ 4 → ¬ M.1 288 (32 * r + lfj M r nm j) = -1 → M.1 294 (32 * r + lfj M r nm j) = nI j := by
  intro j
  induction j with
  | zero => exact fun _ _ => hs.2.2.2.2.1
  | succ j ih =>
    intro hj hne
    have hne' : ¬ M.1 288 (32 * r + lfj M r nm j) = -1 := fun q => hne (by rw [show lfj M r nm (j + 1) = lfj M r nm j from lfj_stay q 1]; exact q)
    have hd := ih (by omega) hne'
    rcases (hs.2.2.2.2.2 _ (lfj_lt hs (nm := nm) j)).2.2.2 with h | ⟨c, l, m, d, h⟩
    · exact absurd h hne'
    · have e := stp_node (nm := nm) hs.2.1 h
      have ed := h.2.2.2.2.2.1
      rw [hd, nI_eq (by omega) (by have := h.2.2.2.2.1; omega)] at ed
      subst ed
      show M.1 294 (32 * r + stp M r nm (lfj M r nm j)) = _
      rw [e]
      split
      · exact h.2.2.2.2.2.2.1
      · exact h.2.2.2.2.2.2.2
theorem q_mleafOf {Q : Int32 → gM → Prop} {M : gM} {r s : Nat} {n0 n1 n2 n3 : Int32} (hr : r < 12) (hs : treeS M r s) (hq : Q (nI (lfj M r (fun c => nb c n0 n1 n2 n3) 4)) M) : wp_MD_leafOf Q (nI r) n0 n1 n2 n3 M := by
  have s31 := hs.2.1
  have go : ∀ z j, j + z = 4 → wp_MD_leafOf_3 Q (z + 1) (nI r) n0 n1 n2 n3 (nI (lfj M r (fun c => nb c n0 n1 n2 n3) j)) M := by
    intro z
    induction z with
    | zero =>
      intro j hj
      have : j = 4 := by omega
      subst this
      have hlt := lfj_lt hs (nm := fun c => nb c n0 n1 n2 n3) 4
      unfold wp_MD_leafOf_3
      rw [ix32]
      refine ⟨in384 hr (by omega), ?_⟩
      rw [nI_clamp (by omega)]
      refine ⟨fun _ => hq, fun c => ?_⟩
      exfalso
      have hne : ¬ M.1 288 (32 * r + lfj M r (fun c => nb c n0 n1 n2 n3) 4) = -1 := fun q => c (by rw [q]; decide)
      have hd := lfj_deep hs 4 (by omega) hne
      rcases (hs.2.2.2.2.2 _ hlt).2.2.2 with h | ⟨k, l, m, d, h⟩
      · exact hne h
      · have ed := h.2.2.2.2.2.1
        have d4 := h.2.2.2.2.1
        rw [hd, nI_eq (by omega) (by omega)] at ed
        omega
    | succ z ih =>
      intro j hj
      have hlt := lfj_lt hs (nm := fun c => nb c n0 n1 n2 n3) j
      have nx := ih (j + 1) (by omega)
      unfold wp_MD_leafOf_3
      rw [ix32]
      refine ⟨in384 hr (by omega), ?_⟩
      rw [nI_clamp (by omega)]
      rcases (hs.2.2.2.2.2 _ hlt).2.2.2 with h | ⟨k, l, m, d, h⟩
      · refine ⟨fun _ => ?_, fun c => absurd (by rw [h]; decide) c⟩
        have e := lfj_stay h (z + 1)
        rw [show j + (z + 1) = 4 by omega] at e
        rw [e] at hq
        exact hq
      · refine ⟨fun c => ?_, fun _ => ?_⟩
        · rw [h.1.2] at c
          exact absurd c (nI_pos (by have := h.1.1; omega))
        · rw [h.1.2]
          have e := stp_node (nm := fun c => nb c n0 n1 n2 n3) s31 h
          have nx2 : wp_MD_leafOf_3 Q (z + 1) (nI r) n0 n1 n2 n3 (nI (stp M r (fun c => nb c n0 n1 n2 n3) (lfj M r (fun c => nb c n0 n1 n2 n3) j))) M := nx
          rw [e] at nx2
          refine p_number h.1.1 (p_goesLeft ⟨fun g => ?_, fun g => ?_⟩)
          · rw [bI_z g, if_neg (by decide), ← nI_1] at nx2
            rw [h.2.1.1]
            exact nx2
          · rw [bI_nz g, if_pos rfl] at nx2
            rw [h.2.1.1]
            show wp_MD_leafOf_3 Q (z + 1) (nI r) n0 n1 n2 n3 (nI l + 0) M
            rw [Int32.add_zero]
            exact nx2
  exact ⟨5, go 4 0 (by omega)⟩
theorem s_leaf {P : Int32 → Int32 → gM → Prop} {M : gM} {a1 a2 a3 a4 a5 : Int32} (hS : Sim M) (hP : ∀ r M2, frQ M M2 → P r r M2) : wp_BF_leaf (fun r M1 => wp_MD_leaf (fun r' M2 => P r r' M2) a1 a2 a3 a4 a5 M1) a1 a2 a3 a4 a5 M := by
  obtain ⟨t, hM⟩ := simR_MF hS.2.2
  have m0 := hM.1
  unfold wp_BF_leaf
  rw [hM.2.1]
  refine p_isIndex ⟨fun e => p_isTree ⟨fun _ => hP _ _ frQ_rf, fun e2 => ?_⟩, fun e => p_areCells ⟨fun e3 => ?_, fun e3 => ?_⟩⟩
  · rw [hM.2.2.1] at e2; exact absurd e e2
  · obtain ⟨r, hr, rfl⟩ := inX_nat (by omega) (bI_nz e)
    have f := frQ_kA (M := M) (a := a2) (b := a3) (c := a4) (d := a5)
    have hM' := MF_fr (frQ_agR f) hM
    obtain ⟨s, hs⟩ := hM'.2.2.2.1 r hr
    refine ⟨vp_in_nI (by omega) (by omega), ?_⟩
    rw [nI_clamp (by omega)]
    refine q_leafOf (M := kA M a2 a3 a4 a5) (nm := fun c => nb c a2 a3 a4 a5) (by omega) hs (fun c hc => ⟨kA_at hc, areC_nb (bI_nz e3) hc⟩) ?_
    refine p_isTree ⟨fun e4 => ?_, fun _ => p_areNumbers ⟨fun e5 => absurd e5 e3, fun _ => q_mleafOf (by omega) hs (hP _ _ f)⟩⟩
    rw [hM'.2.2.1] at e4
    exact absurd e4 e
  · exact p_isTree ⟨fun _ => hP _ _ frQ_rf, fun _ => p_areNumbers ⟨fun _ => hP _ _ frQ_rf, fun e5 => absurd e3 e5⟩⟩

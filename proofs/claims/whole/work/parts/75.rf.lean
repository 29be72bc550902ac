/-- a node put at the end of a tree of the program -/
def apR (M M' : gM) (b s : Nat) (dp : Int32) : Prop := (∀ k j, ¬ (k = b ∧ j = 2) → ¬ ((k = b + 2 ∨ k = b + 3 ∨ k = b + 4 ∨ k = b + 5 ∨ k = b + 8) ∧ j = s) → M'.1 k j = M.1 k j) ∧ (∀ k j, ¬ (k = b + 12 ∧ j = s) → M'.2 k j = M.2 k j) ∧ M'.1 b 2 = nI (s + 1) ∧ (M'.1 (b + 2) s = -1 ∧ M'.1 (b + 3) s = -1 ∧ M'.1 (b + 4) s = -1 ∧ M'.1 (b + 5) s = -1 ∧ M'.1 (b + 8) s = dp) ∧ M'.2 (b + 12) s = 0
theorem p_append {Q : gM → Prop} {M : gM} {b s : Nat} {dp : Int32} (hs : s < 31) (h : M.1 b 2 = nI s) (hq : ∀ M', apR M M' b s dp → Q M') : wp_TR_appendNode Q b dp M := by
  unfold wp_TR_appendNode
  rw [h]
  refine ⟨vp_in_nI hs (by omega), ?_⟩
  rw [nI_clamp (by omega), nI_1]
  have b1 : ∀ {A : gM} {v : Int64} {x y : Nat}, (wl A (b + 12) s v).1 x y = A.1 x y := rfl
  refine hq _ ⟨fun k j q1 q2 => ?_, fun k j q => ?_, ?_, ⟨?_, ?_, ?_, ?_, ?_⟩, ?_⟩
  · rw [wi_ne (by omega), b1, wi_ne (by omega), wi_ne (by omega), wi_ne (by omega), wi_ne (by omega), wi_ne (by omega)]
  · show (wl _ _ _ _).2 k j = _
    rw [wl_ne (by omega)]
    rfl
  · rw [wi_eq]
  · rw [wi_ne (by omega), b1, wi_ne (by omega), wi_ne (by omega), wi_ne (by omega), wi_ne (by omega), wi_eq]
  · rw [wi_ne (by omega), b1, wi_ne (by omega), wi_ne (by omega), wi_ne (by omega), wi_eq]
  · rw [wi_ne (by omega), b1, wi_ne (by omega), wi_ne (by omega), wi_eq]
  · rw [wi_ne (by omega), b1, wi_ne (by omega), wi_eq]
  · rw [wi_ne (by omega), b1, wi_eq]
  · show (wl _ _ _ _).2 _ _ = _
    rw [wl_eq]
/-- a node's split, and two nodes below it -/
def dvR (M M' : gM) (b k s : Nat) (B : gS4) (dp : Int32) : Prop := (∀ a j, ¬ (a = b ∧ j = 2) → ¬ ((a = b + 2 ∨ a = b + 3 ∨ a = b + 4 ∨ a = b + 5) ∧ j = k) → ¬ ((a = b + 2 ∨ a = b + 3 ∨ a = b + 4 ∨ a = b + 5 ∨ a = b + 8) ∧ (j = s ∨ j = s + 1)) → M'.1 a j = M.1 a j) ∧ (∀ a j, ¬ (a = b + 12 ∧ (j = k ∨ j = s ∨ j = s + 1)) → M'.2 a j = M.2 a j) ∧ M'.1 b 2 = nI (s + 2) ∧ (M'.1 (b + 2) k = B.2.1 ∧ M'.1 (b + 3) k = B.2.2.1 ∧ M'.1 (b + 4) k = B.2.2.2 ∧ M'.1 (b + 5) k = nI s ∧ M'.2 (b + 12) k = B.1) ∧ ∀ i, i = s ∨ i = s + 1 → (M'.1 (b + 2) i = -1 ∧ M'.1 (b + 3) i = -1 ∧ M'.1 (b + 4) i = -1 ∧ M'.1 (b + 5) i = -1 ∧ M'.1 (b + 8) i = dp + 1) ∧ M'.2 (b + 12) i = 0
theorem p_divide {Q : gM → Prop} {M : gM} {b k s : Nat} {B : gS4} {dp : Int32} (hb : 116 ≤ b) (hs : s + 2 ≤ 31) (hk : k < s) (h : M.1 b 2 = nI s) (hP : atP M B) (hd : M.1 (b + 8) k = dp) (hq : ∀ M', dvR M M' b k s B dp → Q M') : wp_TR_divide Q b (nI k) M := by
  refine ⟨vp_in_nI (by omega) (by omega), ?_⟩
  rw [nI_clamp (by omega), wi_ne (M := M) (k := b + 2) (a := 108) (by omega), wi_ne (M := wi M (b + 2) k (M.1 108 0)) (a := 108) (by omega), wi_ne (M := M) (k := b + 2) (a := 108) (by omega), hP.1, hP.2.1, hP.2.2.1, hP.2.2.2]
  rw [wi_ne (M := wi (wi M (b + 2) k B.2.1) (b + 3) k B.2.2.1) (a := b) (by omega), wi_ne (M := wi M (b + 2) k B.2.1) (a := b) (by omega), wi_ne (M := M) (a := b) (by omega), h]
  obtain ⟨M1, hM1⟩ : ∃ M1, M1 = wi (wi (wi (wi M (b + 2) k B.2.1) (b + 3) k B.2.2.1) (b + 4) k B.2.2.2) (b + 5) k (nI s) := ⟨_, rfl⟩
  rw [← hM1]
  have m0 : ∀ a j, ¬ ((a = b + 2 ∨ a = b + 3 ∨ a = b + 4 ∨ a = b + 5) ∧ j = k) → M1.1 a j = M.1 a j := fun a j q => by rw [hM1, wi_ne (by omega), wi_ne (by omega), wi_ne (by omega), wi_ne (by omega)]
  have m2 : M1.1 (b + 2) k = B.2.1 := by rw [hM1, wi_ne (by omega), wi_ne (by omega), wi_ne (by omega), wi_eq]
  have m3 : M1.1 (b + 3) k = B.2.2.1 := by rw [hM1, wi_ne (by omega), wi_ne (by omega), wi_eq]
  have m4 : M1.1 (b + 4) k = B.2.2.2 := by rw [hM1, wi_ne (by omega), wi_eq]
  have m5 : M1.1 (b + 5) k = nI s := by rw [hM1, wi_eq]
  have mm : ∀ a j, M1.2 a j = M.2 a j := fun a j => by rw [hM1]; rfl
  have dm : M1.1 (b + 8) k = dp := by rw [m0 _ _ (by omega)]; exact hd
  rw [dm]
  refine p_append (s := s) (by omega) (by show M1.1 b 2 = _; rw [m0 _ _ (by omega)]; exact h) (fun M3 a3 => ?_)
  obtain ⟨a1, a2, a4, a5, a6⟩ := a3
  have d3 : M3.1 (b + 8) k = dp := by rw [a1 _ _ (by omega) (by omega)]; exact dm
  rw [d3]
  refine p_append (s := s + 1) (by omega) a4 (fun M5 c3 => ?_)
  obtain ⟨c1, c2, c4, c5, c6⟩ := c3
  have r1 : ∀ a j, ¬ (a = b ∧ j = 2) → ¬ ((a = b + 2 ∨ a = b + 3 ∨ a = b + 4 ∨ a = b + 5 ∨ a = b + 8) ∧ (j = s ∨ j = s + 1)) → M5.1 a j = M1.1 a j := fun a j q1 q2 => (c1 a j q1 (by omega)).trans (a1 a j q1 (by omega))
  refine hq M5 ⟨fun a j q1 q2 q3 => (r1 a j q1 q3).trans (m0 a j q2), fun a j q => ?_, c4, ⟨?_, ?_, ?_, ?_, ?_⟩, fun i hi => ?_⟩
  · rw [c2 _ _ (by omega), a2 _ _ (by omega), wl_ne (by omega)]; exact mm a j
  · rw [r1 _ _ (by omega) (by omega)]; exact m2
  · rw [r1 _ _ (by omega) (by omega)]; exact m3
  · rw [r1 _ _ (by omega) (by omega)]; exact m4
  · rw [r1 _ _ (by omega) (by omega)]; exact m5
  · rw [c2 _ _ (by omega), a2 _ _ (by omega), wl_eq]
  · rcases hi with rfl | rfl
    · rw [c1 _ _ (by omega) (by omega), c1 _ _ (by omega) (by omega), c1 _ _ (by omega) (by omega), c1 _ _ (by omega) (by omega), c1 _ _ (by omega) (by omega), c2 _ _ (by omega)]
      exact ⟨a5, a6⟩
    · exact ⟨c5, c6⟩
/-- a tree of the program, the first k nodes with their sums -/
def cdT (M : gM) (b s k : Nat) (T : gM) (D : tD) : Prop := (∀ i, i < s → (M.1 (b + 2) i = T.1 0 i ∧ M.1 (b + 3) i = T.1 1 i ∧ M.1 (b + 4) i = T.1 2 i ∧ M.1 (b + 5) i = T.1 3 i) ∧ M.1 (b + 8) i = T.1 6 i ∧ M.2 (b + 12) i = T.2 1 i) ∧ ∀ i, i < k → i < s → (M.1 (b + 6) i = T.1 4 i ∧ M.1 (b + 7) i = T.1 5 i) ∧ M.2 (b + 10) i = T.2 0 i ∧ M.2 (b + 11) i = valJ (T.2 0 i) (T.1 5 i) (D.2.2 3 2)
theorem cdT_fr {M M' : gM} {b s k : Nat} {T : gM} {D : tD} (h : cdT M b s k T D) (e1 : ∀ a j, b ≤ a → a ≤ b + 12 → M'.1 a j = M.1 a j) (e2 : ∀ a j, b ≤ a → a ≤ b + 12 → M'.2 a j = M.2 a j) : cdT M' b s k T D := by
  refine ⟨fun i hi => ?_, fun i hi his => ?_⟩
  · rw [e1 _ _ (by omega) (by omega), e1 _ _ (by omega) (by omega), e1 _ _ (by omega) (by omega), e1 _ _ (by omega) (by omega), e1 _ _ (by omega) (by omega), e2 _ _ (by omega) (by omega)]
    exact h.1 i hi
  · rw [e1 _ _ (by omega) (by omega), e1 _ _ (by omega) (by omega), e2 _ _ (by omega) (by omega), e2 _ _ (by omega) (by omega)]
    exact h.2 i hi his
/-- what growing the tree at b leaves as it was -/
def frR (Ms : gM) (b : Nat) (M : gM) : Prop := (∀ k j, k ≠ 100 → ¬ (102 ≤ k ∧ k ≤ 106) → k ≠ 108 → ¬ (b ≤ k ∧ k ≤ b + 12) → M.1 k j = Ms.1 k j) ∧ ∀ k j, k ≠ 101 → ¬ (102 ≤ k ∧ k ≤ 106) → k ≠ 108 → ¬ (b ≤ k ∧ k ≤ b + 12) → M.2 k j = Ms.2 k j
def cGr (Ms : gM) (b : Nat) (D : tD) (F : Nat → Int64) (k : Nat) (X : gT3) (M : gM) : Prop := cX M D F X.2.2 ∧ M.1 b 2 = nI X.1 ∧ cdT M b X.1 k X.2.1 D ∧ frR Ms b M
theorem keepS {Q : gM → Prop} {M : gM} {D : tD} {b k s : Nat} {T : gM} {t : tri} (hb : 116 ≤ b) (hk : okD D) (h94 : M.1 94 2 = D.2.2 3 2) (hs : s ≤ 31) (hks : k < s) (hS : atS M 102 t) (ok : okTr t) (hT : T.1 4 k = nI t.2.2 ∧ T.1 5 k = nI t.2.1 ∧ T.2 0 k = t.1) (hc : cdT M b s k T D) (hq : ∀ M', (∀ a j, a ≠ b + 6 → a ≠ b + 7 → M'.1 a j = M.1 a j) → (∀ a j, a ≠ b + 10 → a ≠ b + 11 → M'.2 a j = M.2 a j) → cdT M' b s (k + 1) T D → Q M') : wp_TR_keepSums Q b 102 (nI k) (M.1 94 2) M := by
  obtain ⟨a, -, ha, ea⟩ := okD_nat hk (k := 2) (lo := 0) (hi := 1000) (by omega) rfl rfl (by omega) (by omega)
  refine ⟨vp_in_nI (by omega) (by omega), ?_⟩
  rw [nI_clamp (by omega), wi_ne (by omega), hS.1, hS.2.1, hS.2.2, h94, ea]
  obtain ⟨M1, hM1⟩ : ∃ M1, M1 = wl (wi (wi M (b + 6) k (nI t.2.2)) (b + 7) k (nI t.2.1)) (b + 10) k t.1 := ⟨_, rfl⟩
  rw [← hM1]
  have m1 : ∀ x j, ¬ ((x = b + 6 ∨ x = b + 7) ∧ j = k) → M1.1 x j = M.1 x j := fun x j q => by
    rw [hM1]
    show (wi (wi M (b + 6) k (nI t.2.2)) (b + 7) k (nI t.2.1)).1 x j = _
    rw [wi_ne (by omega), wi_ne (by omega)]
  have m6 : M1.1 (b + 6) k = nI t.2.2 := by
    rw [hM1]
    show (wi (wi M (b + 6) k (nI t.2.2)) (b + 7) k (nI t.2.1)).1 (b + 6) k = _
    rw [wi_ne (by omega), wi_eq]
  have m7 : M1.1 (b + 7) k = nI t.2.1 := by
    rw [hM1]
    show (wi (wi M (b + 6) k (nI t.2.2)) (b + 7) k (nI t.2.1)).1 (b + 7) k = _
    rw [wi_eq]
  have m10 : M1.2 (b + 10) k = t.1 := by rw [hM1, wl_eq]
  have m2 : ∀ x j, ¬ (x = b + 10 ∧ j = k) → M1.2 x j = M.2 x j := fun x j q => by rw [hM1, wl_ne (by omega)]; rfl
  refine p_vWith (t := t) ⟨(m1 _ _ (by omega)).trans hS.1, (m1 _ _ (by omega)).trans hS.2.1, (m2 _ _ (by omega)).trans hS.2.2⟩ ok ha ?_
  refine hq _ (fun x j q1 q2 => m1 x j (by omega)) (fun x j q1 q2 => by rw [wl_ne (by omega)]; exact m2 x j (by omega)) ⟨fun i hi => ?_, fun i hi his => ?_⟩
  · have := hc.1 i hi
    rw [wl_ne (by omega), m2 _ _ (by omega)]
    show (M1.1 _ i = _ ∧ M1.1 _ i = _ ∧ M1.1 _ i = _ ∧ M1.1 _ i = _) ∧ M1.1 _ i = _ ∧ _
    rw [m1 _ _ (by omega), m1 _ _ (by omega), m1 _ _ (by omega), m1 _ _ (by omega), m1 _ _ (by omega)]
    exact this
  · by_cases e : i = k
    · subst e
      refine ⟨⟨m6.trans hT.1.symm, m7.trans hT.2.1.symm⟩, ?_, ?_⟩
      · rw [wl_ne (by omega)]; exact m10.trans hT.2.2.symm
      · rw [wl_eq, hT.2.1, hT.2.2, ea]
    · have := hc.2 i (by omega) his
      rw [wl_ne (by omega), wl_ne (by omega), m2 _ _ (by omega), m2 _ _ (by omega)]
      show (M1.1 _ i = _ ∧ M1.1 _ i = _) ∧ _
      rw [m1 _ _ (by omega), m1 _ _ (by omega)]
      exact this

/-! ===== what a training has left, in both systems ===== -/
def valJ (g : Int64) (h ad : Int32) : Int64 := if h = 0 then 0 else (-g) / ((h + ad).toInt64)
def nodeE (M : gM) (r i : Nat) : Prop := (M.1 (116 + 13 * r + 2) i = M.1 288 (32 * r + i) ∧ M.1 (116 + 13 * r + 3) i = M.1 289 (32 * r + i) ∧ M.1 (116 + 13 * r + 4) i = M.1 290 (32 * r + i) ∧ M.1 (116 + 13 * r + 5) i = M.1 291 (32 * r + i)) ∧ (M.1 (116 + 13 * r + 6) i = M.1 292 (32 * r + i) ∧ M.1 (116 + 13 * r + 7) i = M.1 293 (32 * r + i) ∧ M.1 (116 + 13 * r + 8) i = M.1 294 (32 * r + i)) ∧ M.2 (116 + 13 * r + 10) i = M.2 295 (32 * r + i) ∧ M.2 (116 + 13 * r + 11) i = valJ (M.2 295 (32 * r + i)) (M.1 293 (32 * r + i)) (M.1 283 2) ∧ M.2 (116 + 13 * r + 12) i = M.2 296 (32 * r + i)
/-- a node that is split: by column c, with l the number of its left one, m rows, at depth d -/
def nodeC (M : gM) (r s i c l m d : Nat) : Prop := (c < 4 ∧ M.1 288 (32 * r + i) = nI c) ∧ (M.1 291 (32 * r + i) = nI l ∧ i < l ∧ l + 1 < s) ∧ (M.1 290 (32 * r + i) = 0 ∨ M.1 290 (32 * r + i) = 1) ∧ (M.1 292 (32 * r + i) = nI m ∧ 0 < m ∧ m ≤ 40) ∧ d < 4 ∧ M.1 294 (32 * r + i) = nI d ∧ M.1 294 (32 * r + l) = nI (d + 1) ∧ M.1 294 (32 * r + (l + 1)) = nI (d + 1)
def nodeK (M : gM) (r s i : Nat) : Prop := (∃ h, h ≤ 320 ∧ M.1 293 (32 * r + i) = nI h) ∧ (∃ m, m ≤ 40 ∧ M.1 292 (32 * r + i) = nI m) ∧ (M.1 288 (32 * r + i) = -1 ∨ ∃ c l m d, nodeC M r s i c l m d)
def treeS (M : gM) (r s : Nat) : Prop := 1 ≤ s ∧ s ≤ 31 ∧ M.1 (116 + 13 * r) 2 = nI s ∧ M.1 287 r = nI s ∧ M.1 294 (32 * r) = 0 ∧ ∀ i, i < s → nodeE M r i ∧ nodeK M r s i
def tookS (M : gM) (t i : Nat) : Prop := ∃ mk : Nat, mk < 2 ^ t ∧ M.1 111 i = nI mk ∧ ∀ r, r < t → (mk.testBit r = true ↔ ¬ M.1 286 (40 * r + i) = 0)
def rowR (M : gM) (t i : Nat) : Prop := (∀ c, c < 4 → M.1 (51 + i) c = M.1 279 (4 * i + c) ∧ isC (M.1 (51 + i) c) = true) ∧ (M.1 93 i = M.1 282 i ∧ (M.1 93 i = 0 ∨ M.1 93 i = 1)) ∧ tookS M t i
def TF (M : gM) (n t : Nat) : Prop := (M.1 47 8 = 1 ∧ M.1 273 6 = 1) ∧ (n ≤ 40 ∧ M.1 49 4 = nI n ∧ M.1 273 7 = nI n) ∧ (t ≤ 12 ∧ M.1 47 9 = nI t ∧ M.1 273 14 = nI t) ∧ (∀ i, i < n → rowR M t i) ∧ (∀ k, k < 15 → M.1 94 k = M.1 283 k ∧ inR (c_LOWEST k) (c_HIGHEST k) (M.1 94 k) = true) ∧ (∀ k, k ≤ t → M.2 113 k = M.2 285 k ∧ M.2 114 k = M.2 285 (13 + k)) ∧ ∀ r, r < t → ∃ s, treeS M r s
def UF (M : gM) : Prop := (M.1 47 8 = 0 ∧ M.1 273 6 = 0) ∧ (M.1 47 9 = 0 ∧ M.1 273 14 = 0) ∧ M.1 273 7 = 0 ∧ M.1 283 9 = 0
def simR (M : gM) : Prop := UF M ∨ ∃ n t, TF M n t
def agR (M M' : gM) : Prop := (∀ k j, (k = 47 ∧ (j = 8 ∨ j = 9)) ∨ (49 ≤ k ∧ k ≤ 94) ∨ k = 111 ∨ (116 ≤ k ∧ k < 272) ∨ (k = 273 ∧ (j = 6 ∨ j = 7 ∨ j = 14)) ∨ k = 279 ∨ k = 282 ∨ k = 283 ∨ (286 ≤ k ∧ k ≤ 294) → M'.1 k j = M.1 k j) ∧ ∀ k j, k = 113 ∨ k = 114 ∨ (116 ≤ k ∧ k < 272) ∨ k = 285 ∨ k = 295 ∨ k = 296 → M'.2 k j = M.2 k j
theorem nodeE_fr {M M' : gM} (a : agR M M') {r i : Nat} (hr : r < 12) (h : nodeE M r i) : nodeE M' r i := by
  obtain ⟨e1, e2⟩ := a
  unfold nodeE
  rw [e1 (116 + 13 * r + 2) _ (by omega), e1 (116 + 13 * r + 3) _ (by omega), e1 (116 + 13 * r + 4) _ (by omega), e1 (116 + 13 * r + 5) _ (by omega), e1 (116 + 13 * r + 6) _ (by omega), e1 (116 + 13 * r + 7) _ (by omega), e1 (116 + 13 * r + 8) _ (by omega), e1 288 _ (by omega), e1 289 _ (by omega), e1 290 _ (by omega), e1 291 _ (by omega), e1 292 _ (by omega), e1 293 _ (by omega), e1 294 _ (by omega), e2 (116 + 13 * r + 10) _ (by omega), e2 (116 + 13 * r + 11) _ (by omega), e2 (116 + 13 * r + 12) _ (by omega), e2 295 _ (by omega), e2 296 _ (by omega), e1 283 _ (by omega)]
  exact h
theorem nodeK_fr {M M' : gM} (a : agR M M') {r s i : Nat} (h : nodeK M r s i) : nodeK M' r s i := by
  obtain ⟨e1, e2⟩ := a
  unfold nodeK nodeC at *
  rw [e1 288 _ (by omega), e1 290 _ (by omega), e1 291 _ (by omega), e1 292 _ (by omega), e1 293 _ (by omega), e1 294 _ (by omega)]
  obtain ⟨h1, h2, h3⟩ := h
  refine ⟨h1, h2, h3.elim Or.inl fun ⟨c, l, m, d, g⟩ => Or.inr ⟨c, l, m, d, ?_⟩⟩
  rw [e1 294 (32 * r + l) (by omega), e1 294 (32 * r + (l + 1)) (by omega)]
  exact g
theorem treeS_fr {M M' : gM} (a : agR M M') {r s : Nat} (hr : r < 12) (h : treeS M r s) : treeS M' r s := by
  obtain ⟨h1, h2, h3, h4, h5, h6⟩ := h
  exact ⟨h1, h2, by rw [a.1 _ _ (by omega)]; exact h3, by rw [a.1 _ _ (by omega)]; exact h4, by rw [a.1 _ _ (by omega)]; exact h5, fun i hi => ⟨nodeE_fr a hr (h6 i hi).1, nodeK_fr a (h6 i hi).2⟩⟩
theorem rowR_fr {M M' : gM} (a : agR M M') {t i : Nat} (hi : i < 40) (h : rowR M t i) : rowR M' t i := by
  obtain ⟨h1, h2, mk, g1, g2, g3⟩ := h
  refine ⟨fun c hc => ?_, ?_, mk, g1, ?_, fun r hr => ?_⟩
  · rw [a.1 _ _ (by omega), a.1 279 _ (by omega)]; exact h1 c hc
  · rw [a.1 93 _ (by omega), a.1 282 _ (by omega)]; exact h2
  · rw [a.1 _ _ (by omega)]; exact g2
  · rw [a.1 _ _ (by omega)]; exact g3 r hr
theorem TF_fr {M M' : gM} (a : agR M M') {n t : Nat} (h : TF M n t) : TF M' n t := by
  obtain ⟨h1, h2, h3, h4, h5, h6, h7⟩ := h
  refine ⟨?_, ?_, ?_, fun i hi => rowR_fr a (by omega) (h4 i hi), fun k hk => ?_, fun k hk => ?_, fun r hr => ?_⟩
  · rw [a.1 _ _ (by omega), a.1 _ _ (by omega)]; exact h1
  · rw [a.1 _ _ (by omega), a.1 _ _ (by omega)]; exact h2
  · rw [a.1 _ _ (by omega), a.1 _ _ (by omega)]; exact h3
  · rw [a.1 _ _ (by omega), a.1 _ _ (by omega)]; exact h5 k hk
  · rw [a.2 _ _ (by omega), a.2 _ _ (by omega), a.2 _ _ (by omega), a.2 _ _ (by omega)]; exact h6 k hk
  · obtain ⟨s, hs⟩ := h7 r hr
    exact ⟨s, treeS_fr a (by omega) hs⟩
theorem UF_fr {M M' : gM} (a : agR M M') (h : UF M) : UF M' := by
  unfold UF
  rw [a.1 47 _ (by omega), a.1 47 _ (by omega), a.1 273 _ (by omega), a.1 273 _ (by omega), a.1 273 _ (by omega), a.1 283 _ (by omega)]
  exact h
theorem simR_fr {M M' : gM} (a : agR M M') (h : simR M) : simR M' := h.elim (fun h => Or.inl (UF_fr a h)) (fun ⟨n, t, h⟩ => Or.inr ⟨n, t, TF_fr a h⟩)
/-- both systems agree -/
def Sim (M : gM) : Prop := (∃ n, simT M n) ∧ simS M ∧ simR M
theorem Sim_T {M M' : gM} (h : Sim M) (h1 : ∃ n, simT M' n) (f : frT M M') : Sim M' := ⟨h1, simS_fr h.2.1 (fun k j hk => f.1 k j (by omega)), simR_fr ⟨fun k j hk => f.1 k j (by omega), fun k j _ => f.2 k j⟩ h.2.2⟩
theorem Sim_S {M M' : gM} (h : Sim M) (h1 : simS M') (f : frS M M') : Sim M' := by
  obtain ⟨⟨n, hn⟩, -, h3⟩ := h
  exact ⟨⟨n, simT_fr hn (fun k j hk => f.1 k j (by omega) (by omega))⟩, h1, simR_fr ⟨fun k j hk => f.1 k j (by omega) (by omega), fun k j _ => f.2 k j⟩ h3⟩
/-- what a question may leave changed: the four numbers, and what nodes have told -/
def frQ (M M' : gM) : Prop := (∀ k j, k ≠ 272 → M'.1 k j = M.1 k j) ∧ ∀ k j, k ≠ 115 → k ≠ 298 → M'.2 k j = M.2 k j
theorem frQ_rf {M : gM} : frQ M M := ⟨fun _ _ _ => rfl, fun _ _ _ _ => rfl⟩
theorem frQ_tr {M M' M'' : gM} (h1 : frQ M M') (h2 : frQ M' M'') : frQ M M'' := ⟨fun k j h => (h2.1 k j h).trans (h1.1 k j h), fun k j h g => (h2.2 k j h g).trans (h1.2 k j h g)⟩
theorem frQ_kA {M : gM} {a b c d : Int32} : frQ M (kA M a b c d) := ⟨fun _ _ h => kA_ne h, fun _ _ _ _ => rfl⟩
theorem frQ_agR {M M' : gM} (f : frQ M M') : agR M M' := ⟨fun k j hk => f.1 k j (by omega), fun k j hk => f.2 k j (by omega) (by omega)⟩
theorem Sim_Q {M M' : gM} (h : Sim M) (f : frQ M M') : Sim M' := by
  obtain ⟨⟨n, hn⟩, h2, h3⟩ := h
  exact ⟨⟨n, simT_fr hn (fun k j hk => f.1 k j (by omega))⟩, simS_fr h2 (fun k j hk => f.1 k j (by omega)), simR_fr (frQ_agR f) h3⟩

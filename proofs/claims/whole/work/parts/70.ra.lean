/-! ===== training: the program ===== -/
/-- slopes, weights, rows: added up together -/
abbrev tri : Type := Int64 × Nat × Nat
def tA (a b : tri) : tri := (a.1 + b.1, a.2.1 + b.2.1, a.2.2 + b.2.2)
theorem tA_0 (a : tri) : tA a (0, 0, 0) = a := Prod.ext (Int64.add_zero _) (Prod.ext (Nat.add_zero _) (Nat.add_zero _))
theorem tA_r (a b c : tri) : tA (tA a b) c = tA (tA a c) b := by
  unfold tA
  refine Prod.ext ?_ (Prod.ext ?_ ?_)
  · show a.1 + b.1 + c.1 = a.1 + c.1 + b.1
    rw [Int64.add_assoc, Int64.add_comm b.1, ← Int64.add_assoc]
  · show a.2.1 + b.2.1 + c.2.1 = a.2.1 + c.2.1 + b.2.1
    omega
  · show a.2.2 + b.2.2 + c.2.2 = a.2.2 + c.2.2 + b.2.2
    omega
def sm (f : Nat → tri) : Nat → tri
  | 0 => (0, 0, 0)
  | i + 1 => tA (sm f i) (f i)
theorem sm_congr {f g : Nat → tri} : ∀ n, (∀ i, i < n → f i = g i) → sm f n = sm g n := by
  intro n
  induction n with
  | zero => exact fun _ => rfl
  | succ n ih =>
    intro e
    show tA (sm f n) (f n) = tA (sm g n) (g n)
    rw [ih (fun i hi => e i (by omega)), e n (by omega)]
theorem sm_stay {f : Nat → tri} {p : Nat} : ∀ d, (∀ q, p ≤ q → q < p + d → f q = (0, 0, 0)) → sm f (p + d) = sm f p := by
  intro d
  induction d with
  | zero => exact fun _ => rfl
  | succ d ih =>
    intro e
    show tA (sm f (p + d)) (f (p + d)) = _
    rw [e (p + d) (by omega) (by omega), tA_0]
    exact ih (fun q a b => e q a (by omega))
def rw1 (D : tD) (F : Nat → Int64) (S : Nat → Bool) (i : Nat) : tri := if S i = true then (slp D F i, wN D i, 1) else (0, 0, 0)
theorem rw1_t {D : tD} {F : Nat → Int64} {S : Nat → Bool} {i : Nat} (h : S i = true) : rw1 D F S i = (slp D F i, wN D i, 1) := if_pos h
theorem rw1_f {D : tD} {F : Nat → Int64} {S : Nat → Bool} {i : Nat} (h : S i = false) : rw1 D F S i = (0, 0, 0) := if_neg (by rw [h]; decide)
/-- the sums of a kind of rows -/
def sT (D : tD) (F : Nat → Int64) (S : Nat → Bool) : tri := (sG D F S D.1, sH D S D.1, sN S D.1)
theorem sm_rw1 {D : tD} {F : Nat → Int64} {S : Nat → Bool} : ∀ n, sm (rw1 D F S) n = (sG D F S n, sH D S n, sN S n) := by
  intro n
  induction n with
  | zero => rfl
  | succ n ih =>
    show tA (sm (rw1 D F S) n) (rw1 D F S n) = _
    rw [ih]
    cases h : S n
    · rw [rw1_f h, tA_0, sG_f h, sH_f h, sN_f h]
    · rw [rw1_t h, sG_t h, sH_t h, sN_t h]
      rfl
/-- an order of the first m rows by column c: every sum over it is the sum over the rows; cells do not fall -/
def ordO (D : tD) (c m : Nat) (o : Nat → Nat) : Prop := (∀ q, q < m → o q < m) ∧ (∀ f : Nat → tri, sm (fun q => f (o q)) m = sm f m) ∧ ∀ q q', q < q' → q' < m → D.2.1 (o q) c ≤ D.2.1 (o q') c
/-- m put in at place j -/
def insO (o : Nat → Nat) (m j : Nat) : Nat → Nat := fun q => if q < j then o q else if q = j then m else o (q - 1)
theorem insO_sm {o : Nat → Nat} {m j : Nat} (f : Nat → tri) : ∀ d, sm (fun q => f (insO o m j q)) (j + d + 1) = tA (sm (fun q => f (o q)) (j + d)) (f m) := by
  intro d
  induction d with
  | zero =>
    show tA (sm (fun q => f (insO o m j q)) j) (f (insO o m j j)) = _
    rw [sm_congr (g := fun q => f (o q)) j (fun i hi => by show f (insO o m j i) = _; unfold insO; rw [if_pos hi])]
    have : insO o m j j = m := by unfold insO; rw [if_neg (by omega), if_pos rfl]
    rw [this]
    rfl
  | succ d ih =>
    show tA (sm (fun q => f (insO o m j q)) (j + d + 1)) (f (insO o m j (j + (d + 1)))) = tA (tA (sm (fun q => f (o q)) (j + d)) (f (o (j + d)))) (f m)
    rw [ih]
    have : insO o m j (j + (d + 1)) = o (j + d) := by unfold insO; rw [if_neg (by omega), if_neg (by omega)]; congr 1
    rw [this, tA_r]
theorem insO_ord {D : tD} {c m j : Nat} {o : Nat → Nat} (h : ordO D c m o) (hj : j ≤ m) (ha : ∀ q, j ≤ q → q < m → D.2.1 m c ≤ D.2.1 (o q) c) (hb : 0 < j → D.2.1 (o (j - 1)) c ≤ D.2.1 m c) : ordO D c (m + 1) (insO o m j) := by
  obtain ⟨h1, h2, h3⟩ := h
  have tr : ∀ {a b c : Int32}, a ≤ b → b ≤ c → a ≤ c := fun {a b c} x y => by rw [i_le] at *; omega
  have below : ∀ q, q < j → D.2.1 (o q) c ≤ D.2.1 m c := by
    intro q hq
    have hb := hb (by omega)
    by_cases e : q = j - 1
    · rw [e]; exact hb
    · exact tr (h3 q (j - 1) (by omega) (by omega)) hb
  refine ⟨fun q hq => ?_, fun f => ?_, fun q q' a b => ?_⟩
  · unfold insO
    split
    · have := h1 q (by omega); omega
    · split
      · omega
      · have := h1 (q - 1) (by omega); omega
  · obtain ⟨d, rfl⟩ : ∃ d, m = j + d := ⟨m - j, by omega⟩
    rw [insO_sm, h2]
    rfl
  · unfold insO
    by_cases q1 : q < j
    · rw [if_pos q1]
      by_cases q2 : q' < j
      · rw [if_pos q2]; exact h3 q q' a (by omega)
      · rw [if_neg q2]
        by_cases q3 : q' = j
        · rw [if_pos q3]; exact below q q1
        · rw [if_neg q3]; exact h3 q (q' - 1) (by omega) (by omega)
    · rw [if_neg q1, if_neg (show ¬ q' < j by omega), if_neg (show ¬ q' = j by omega)]
      by_cases q3 : q = j
      · rw [if_pos q3]; exact ha (q' - 1) (by omega) (by omega)
      · rw [if_neg q3]; exact h3 (q - 1) (q' - 1) (by omega) (by omega)
/-- the program's copy of rows and settings -/
def cdD (M : gM) (D : tD) : Prop := M.1 49 4 = nI D.1 ∧ (∀ i, i < D.1 → (∀ c, c < 4 → M.1 (51 + i) c = D.2.1 i c) ∧ M.1 91 i = D.2.2 0 i ∧ M.1 92 i = D.2.2 1 i ∧ M.1 93 i = D.2.2 2 i) ∧ ∀ k, k < 15 → M.1 94 k = D.2.2 3 k
theorem cdD_fr {M M' : gM} {D : tD} (n40 : D.1 ≤ 40) (h : cdD M D) (e : ∀ k j, (k = 49 ∧ j = 4) ∨ (51 ≤ k ∧ k ≤ 94) → M'.1 k j = M.1 k j) : cdD M' D := by
  obtain ⟨h1, h2, h3⟩ := h
  refine ⟨by rw [e _ _ (by omega)]; exact h1, fun i hi => ?_, fun k hk => by rw [e _ _ (by omega)]; exact h3 k hk⟩
  rw [e 91 _ (by omega), e 92 _ (by omega), e 93 _ (by omega)]
  exact ⟨fun c hc => by rw [e _ _ (by omega)]; exact (h2 i hi).1 c hc, (h2 i hi).2⟩
def ordM (M : gM) (D : tD) (c m : Nat) : Prop := ∃ o : Nat → Nat, (∀ q, q < m → M.1 (96 + c) q = nI (o q)) ∧ ordO D c m o
/-- while rows are put in order: the first c columns are -/
def srR (Ms : gM) (D : tD) (c m : Nat) (M : gM) : Prop := (∀ k j, ¬ (96 ≤ k ∧ k ≤ 99) → M.1 k j = Ms.1 k j) ∧ (∀ k j, M.2 k j = Ms.2 k j) ∧ (∀ b, b < c → ordM M D b D.1) ∧ ordM M D c m
theorem ordM_fr {M M' : gM} {D : tD} {c m : Nat} (h : ordM M D c m) (e : ∀ q, q < m → M'.1 (96 + c) q = M.1 (96 + c) q) : ordM M' D c m := by
  obtain ⟨o, h1, h2⟩ := h
  exact ⟨o, fun q hq => by rw [e q hq]; exact h1 q hq, h2⟩
theorem ordM_0 {M : gM} {D : tD} {c : Nat} : ordM M D c 0 := ⟨fun _ => 0, fun q hq => absurd hq (by omega), fun q hq => absurd hq (by omega), fun f => rfl, fun q q' a b => absurd b (by omega)⟩
theorem q_sort {Q : gM → Prop} {Ms : gM} {D : tD} (hk : okD D) (hD : cdD Ms D) (hq : ∀ M', (∀ k j, ¬ (96 ≤ k ∧ k ≤ 99) → M'.1 k j = Ms.1 k j) → (∀ k j, M'.2 k j = Ms.2 k j) → (∀ c, c < 4 → ordM M' D c D.1) → Q M') : wp_GR_sortRows Q Ms := by
  have n40 := hk.1
  -- put row m into its place
  have put : ∀ (k2 : Int32 → gM → Prop) (k9 : Int32 → Int32 → gM → Prop) (c m : Nat), c < 4 → m < D.1 → ∀ (o : Nat → Nat) (M0 : gM), ordO D c m o → (∀ k j, ¬ (96 ≤ k ∧ k ≤ 99) → M0.1 k j = Ms.1 k j) → (∀ M', (∀ k j, k ≠ 96 + c → M'.1 k j = M0.1 k j) → (∀ k j, M'.2 k j = M0.2 k j) → ordM M' D c (m + 1) → k9 (nI c) (nI (m + 1)) M') → ∀ z j M, j ≤ z → j ≤ m → (∀ k i, k ≠ 96 + c → M.1 k i = M0.1 k i) → (∀ k i, M.2 k i = M0.2 k i) → (∀ q, q < j → M.1 (96 + c) q = nI (o q)) → (∀ q, j < q → q ≤ m → M.1 (96 + c) q = nI (o (q - 1))) → (∀ q, j ≤ q → q < m → D.2.1 m c ≤ D.2.1 (o q) c) → wp_GR_sortRows_22 Q k2 k9 (z + 1) (nI c) (nI m) (nI j) M := by
    intro k2 k9 c m hc hm o M0 ho hM0 hk9
    have fin : ∀ j M, j ≤ m → (∀ k i, k ≠ 96 + c → M.1 k i = M0.1 k i) → (∀ k i, M.2 k i = M0.2 k i) → (∀ q, q < j → M.1 (96 + c) q = nI (o q)) → (∀ q, j < q → q ≤ m → M.1 (96 + c) q = nI (o (q - 1))) → (∀ q, j ≤ q → q < m → D.2.1 m c ≤ D.2.1 (o q) c) → (0 < j → D.2.1 (o (j - 1)) c ≤ D.2.1 m c) → wp_GR_sortRows_84 Q k2 k9 (nI c) (nI m) (nI j) M := by
      intro j M hj f1 f2 a1 a2 ha hb
      refine ⟨vp_in_nI hc (by omega), vp_in_nI (by omega) (by omega), ?_⟩
      rw [nI_clamp (by omega), nI_clamp (by omega), nI_1]
      refine hk9 _ (fun k i q => by rw [wi_ne (Or.inl q)]; exact f1 k i q) f2 ⟨insO o m j, fun q hq2 => ?_, insO_ord ho hj ha hb⟩
      unfold insO
      by_cases e : q = j
      · rw [e, wi_eq, if_neg (by omega), if_pos rfl]
      · rw [wi_ne (Or.inr e)]
        by_cases e2 : q < j
        · rw [if_pos e2]; exact a1 q e2
        · rw [if_neg e2, if_neg e]; exact a2 q (by omega) (by omega)
    intro z
    induction z with
    | zero =>
      intro j M hz hj f1 f2 a1 a2 ha
      have e : j = 0 := by omega
      subst e
      exact ⟨fun _ => fin 0 M hj f1 f2 a1 a2 ha (fun z => absurd z (by omega)), fun w => absurd (by decide) w⟩
    | succ z ih =>
      intro j M hz hj f1 f2 a1 a2 ha
      rcases Nat.eq_zero_or_pos j with rfl | jp
      · exact ⟨fun _ => fin 0 M hj f1 f2 a1 a2 ha (fun z => absurd z (by omega)), fun w => absurd (by decide) w⟩
      · have e1 : nI j - 1 = nI (j - 1) := by rw [show (1 : Int32) = nI 1 from rfl, pk_sub (by omega)]
        have e2 : nI j + -1 = nI (j - 1) := by rw [← e1]; exact (Int32.sub_eq_add_neg _ _).symm
        have om := ho.1 (j - 1) (by omega)
        refine ⟨fun w => ?_, fun _ => ⟨vp_in_nI hc (by omega), ?_⟩⟩
        · rw [show (0 : Int32) = nI 0 from rfl, nI_leI (by omega) (by omega)] at w; omega
        · rw [e1, e2, nI_clamp (show c < 2 ^ 31 by omega), nI_clamp (show j - 1 < 2 ^ 31 by omega), nI_clamp (show j < 2 ^ 31 by omega), nI_clamp (show m < 2 ^ 31 by omega), a1 (j - 1) (by omega), nI_clamp (show o (j - 1) < 2 ^ 31 by omega)]
          have v1 : M.1 (51 + o (j - 1)) c = D.2.1 (o (j - 1)) c := by rw [f1 _ _ (by omega), hM0 _ _ (by omega)]; exact (hD.2.1 _ (by omega)).1 c hc
          have v2 : M.1 (51 + m) c = D.2.1 m c := by rw [f1 _ _ (by omega), hM0 _ _ (by omega)]; exact (hD.2.1 _ (by omega)).1 c hc
          rw [v1, v2]
          refine ⟨vp_in_nI (by omega) (by omega), vp_in_nI (by omega) (by omega), vp_in_nI (by omega) (by omega), fun w => fin j M hj f1 f2 a1 a2 ha (fun _ => w), fun w => ⟨vp_in_nI (by omega) (by omega), ?_⟩⟩
          refine ih (j - 1) _ (by omega) (by omega) (fun k i q => by rw [wi_ne (Or.inl q)]; exact f1 k i q) f2 (fun q hq2 => by rw [wi_ne (by omega)]; exact a1 q (by omega)) (fun q q1 q2 => ?_) (fun q q1 q2 => ?_)
          · by_cases e : q = j
            · rw [e, wi_eq]
            · rw [wi_ne (Or.inr e)]; exact a2 q (by omega) q2
          · by_cases e : q = j - 1
            · rw [e]; rw [i_le] at w ⊢; omega
            · exact ha q (by omega) q2
  have rows : ∀ (k2 : Int32 → gM → Prop) (c : Nat), c < 4 → (∀ M', srR Ms D (c + 1) 0 M' → k2 (nI (c + 1)) M') → ∀ z m M, m + z = D.1 → srR Ms D c m M → wp_GR_sortRows_9 Q k2 (z + 1) (nI c) (nI m) M := by
    intro k2 c hc hk2 z
    induction z with
    | zero =>
      intro m M hz v
      have e : m = D.1 := by omega
      subst e
      have h49 : M.1 49 4 = nI D.1 := by rw [v.1 _ _ (by omega)]; exact hD.1
      refine ⟨fun _ => ?_, fun w => absurd (by rw [h49]; exact nI_le (Nat.le_refl _) (by omega)) w⟩
      rw [nI_1]
      refine hk2 M ⟨v.1, v.2.1, fun b hb => ?_, ordM_0⟩
      by_cases e : b = c
      · rw [e]; exact v.2.2.2
      · exact v.2.2.1 b (by omega)
    | succ z ih =>
      intro m M hz v
      have h49 : M.1 49 4 = nI D.1 := by rw [v.1 _ _ (by omega)]; exact hD.1
      obtain ⟨o, o1, o2⟩ := v.2.2.2
      refine ⟨fun w => ?_, fun _ => ⟨m + 1, ?_⟩⟩
      · rw [h49, nI_leI (by omega) (by omega)] at w; omega
      · refine put k2 _ c m hc (by omega) o M o2 v.1 (fun M' g1 g2 g3 => ih (m + 1) M' (by omega) ⟨fun k j q => by rw [g1 _ _ (by omega)]; exact v.1 k j q, fun k j => by rw [g2]; exact v.2.1 k j, fun b hb => ordM_fr (v.2.2.1 b hb) (fun q _ => g1 _ _ (by omega)), g3⟩) m m M (Nat.le_refl _) (Nat.le_refl _) (fun _ _ _ => rfl) (fun _ _ => rfl) (fun q hq2 => o1 q hq2) (fun q a b => absurd b (by omega)) (fun q a b => absurd b (by omega))
  have cols : ∀ z c M, c + z = 4 → srR Ms D c 0 M → wp_GR_sortRows_2 Q (z + 1) (nI c) M := by
    intro z
    induction z with
    | zero =>
      intro c M hz v
      have e : c = 4 := by omega
      subst e
      exact ⟨fun _ => hq M v.1 v.2.1 v.2.2.1, fun w => absurd (show (4 : Int32) ≤ nI 4 by decide) w⟩
    | succ z ih =>
      intro c M hz v
      refine ⟨fun w => ?_, fun _ => ⟨D.1 + 1, rows _ c (by omega) (fun M' v' => ih (c + 1) M' (by omega) v') D.1 0 M (by omega) v⟩⟩
      rw [show (4 : Int32) = nI 4 from rfl, nI_leI (by omega) (by omega)] at w; omega
  exact ⟨5, cols 4 0 Ms (by omega) ⟨fun _ _ _ => rfl, fun _ _ => rfl, fun b hb => absurd hb (by omega), ordM_0⟩⟩

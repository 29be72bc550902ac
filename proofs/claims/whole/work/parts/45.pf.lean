def cntN (h : Nat → Int32) : Nat → Nat
  | 0 => 0
  | i + 1 => cntN h i + (if h i = 0 then 0 else 1)
theorem cntN_congr {h g : Nat → Int32} {n : Nat} (e : ∀ i, i < n → h i = g i) : cntN h n = cntN g n := by
  induction n with
  | zero => rfl
  | succ n ih =>
    show cntN h n + _ = cntN g n + _
    rw [ih (fun i hi => e i (by omega)), e n (by omega)]
theorem cntN_le (h : Nat → Int32) (n : Nat) : cntN h n ≤ n := by
  induction n with
  | zero => exact Nat.le_refl 0
  | succ n ih =>
    show cntN h n + _ ≤ _
    split <;> omega
theorem cntN_0 {h : Nat → Int32} {i : Nat} (e : h i = 0) : cntN h (i + 1) = cntN h i := by
  show cntN h i + _ = _
  rw [if_pos e]
  rfl
theorem cntN_1 {h : Nat → Int32} {i : Nat} (e : ¬ h i = 0) : cntN h (i + 1) = cntN h i + 1 := by
  show cntN h i + _ = _
  rw [if_neg e]
theorem q_held_loop {Q : Int32 → gM → Prop} {M : gM} {b n : Nat} (hn : n ≤ 40) (h1 : M.1 b 4 = nI n) (hq : Q (nI (cntN (M.1 (b + 44)) n)) M) : ∀ z i, i + z = n → wp_TB_heldRows_4 Q b (z + 1) (nI (cntN (M.1 (b + 44)) i)) (nI i) M := by
  intro z
  induction z with
  | zero =>
    intro i hi
    have : i = n := by omega
    subst this
    refine ⟨fun _ => hq, fun c => absurd ?_ c⟩
    rw [h1]
    exact nI_le (Nat.le_refl _) (by omega)
  | succ z ih =>
    intro i hi
    have hv : vp_in (nI i) 40 := vp_in_nI (by omega) (by omega)
    refine ⟨fun c => ?_, fun _ => ⟨hv, ?_⟩⟩
    · rw [h1, nI_leI (by omega) (by omega)] at c; omega
    · rw [nI_clamp (by omega)]
      refine ⟨fun c => ?_, fun c => ?_⟩
      · show wp_TB_heldRows_4 Q b (z + 1) _ (nI i + 1) M
        rw [nI_1, ← cntN_0 c]
        exact ih (i + 1) (by omega)
      · show wp_TB_heldRows_4 Q b (z + 1) (nI _ + 1) (nI i + 1) M
        rw [nI_1, nI_1, ← cntN_1 c]
        exact ih (i + 1) (by omega)
theorem q_held {Q : Int32 → gM → Prop} {M : gM} {b n : Nat} (hn : n ≤ 40) (h1 : M.1 b 4 = nI n) (hq : Q (nI (cntN (M.1 (b + 44)) n)) M) : wp_TB_heldRows Q b M := ⟨n + 1, q_held_loop hn h1 hq n 0 (by omega)⟩
def cFin (Q : Int32 → gM → Prop) (x1 x2 : Int32) (M : gM) : Prop := (¬ x1 = 0 → ((¬ x1 = 1 → ((¬ x1 = 2 → ((¬ x1 = 3 → (vp_in (x1 - 4) 15 ∧ (Q (M.1 278 ((x1 - 4).toNatClampNeg)) M))) ∧ (x1 = 3 → (Q (M.1 273 7) M)))) ∧ (x1 = 2 → (Q (M.1 273 14) M)))) ∧ (x1 = 1 → (Q x2 M)))) ∧ (x1 = 0 → (Q (M.1 273 0) M))
theorem q_mcount_loop {Q : Int32 → gM → Prop} {M : gM} {n : Nat} {x1 : Int32} (hn : n ≤ 40) (h1 : M.1 273 0 = nI n) (hq : cFin Q x1 (nI (cntN (M.1 277) n)) M) : ∀ z i, i + z = n → wp_MD_count_17 Q (z + 1) x1 (nI (cntN (M.1 277) i)) (nI i) M := by
  intro z
  induction z with
  | zero =>
    intro i hi
    have : i = n := by omega
    subst this
    refine ⟨fun _ => hq, fun c => absurd ?_ c⟩
    rw [h1]
    exact nI_le (Nat.le_refl _) (by omega)
  | succ z ih =>
    intro i hi
    have hv : vp_in (nI i) 40 := vp_in_nI (by omega) (by omega)
    refine ⟨fun c => ?_, fun _ => ⟨hv, ?_⟩⟩
    · rw [h1, nI_leI (by omega) (by omega)] at c; omega
    · rw [nI_clamp (by omega)]
      refine ⟨fun c => ?_, fun c => ?_⟩
      · show wp_MD_count_17 Q (z + 1) x1 (nI _ + 0) (nI i + 1) M
        rw [nI_1, Int32.add_zero, ← cntN_0 c]
        exact ih (i + 1) (by omega)
      · show wp_MD_count_17 Q (z + 1) x1 (nI _ + 1) (nI i + 1) M
        rw [nI_1, nI_1, ← cntN_1 c]
        exact ih (i + 1) (by omega)
/-- the trees, trained or not -/
def SF (M : gM) : Prop := ∀ k, k < 15 → M.1 94 k = M.1 283 k ∧ inR (c_LOWEST k) (c_HIGHEST k) (M.1 94 k) = true
def MF (M : gM) (t : Nat) : Prop := t ≤ 12 ∧ M.1 47 9 = nI t ∧ M.1 273 14 = nI t ∧ (∀ r, r < t → ∃ s, treeS M r s) ∧ (0 < t → SF M)
theorem simR_MF {M : gM} (h : simR M) : ∃ t, MF M t := by
  rcases h with h | ⟨n, t, h⟩
  · exact ⟨0, by omega, h.2.1.1, h.2.1.2, fun r hr => absurd hr (by omega), fun h => absurd h (by omega)⟩
  · exact ⟨t, h.2.2.1.1, h.2.2.1.2.1, h.2.2.1.2.2, h.2.2.2.2.2.2, fun _ => h.2.2.2.2.1⟩
theorem MF_fr {M M' : gM} (a : agR M M') {t : Nat} (h : MF M t) : MF M' t := by
  obtain ⟨h0, h1, h2, h3, h4⟩ := h
  refine ⟨h0, by rw [a.1 _ _ (by omega)]; exact h1, by rw [a.1 _ _ (by omega)]; exact h2, fun r hr => ?_, fun ht k hk => by rw [a.1 _ _ (by omega), a.1 _ _ (by omega)]; exact h4 ht k hk⟩
  obtain ⟨s, hs⟩ := h3 r hr
  exact ⟨s, treeS_fr a (by omega) hs⟩
theorem q_count {Q : Int32 → gM → Prop} {M : gM} {n : Nat} {a1 : Int32} (hn : n ≤ 40) (h1 : M.1 1 4 = nI n) (h0 : a1 = 0 → Q (nI n) M) (hh : a1 = 1 → Q (nI (cntN (M.1 45) n)) M) (h2 : a1 = 2 → Q (M.1 47 9) M) (h3 : a1 = 3 → (M.1 47 8 = 0 → Q 0 M) ∧ (¬ M.1 47 8 = 0 → Q (M.1 49 4) M)) (h4 : ∀ j, j < 15 → a1 = nI (j + 4) → Q (M.1 46 j) M) (hb : inX 19 a1 = false → Q (-2) M) : wp_BF_count Q a1 M := by
  refine ⟨fun c => by rw [h1]; exact h0 c, fun c0 => ⟨fun c => q_held hn h1 (hh c), fun c1 => ⟨fun c => h2 c, fun c2 => ⟨fun c => h3 c, fun c3 => p_isWithin ⟨fun e => hb ?_, fun e => ?_⟩⟩⟩⟩⟩
  · refine inX_f fun q => ?_
    have g1 := (i_le _ _).mp q.1
    have g2 := (i_lt _ _).mp q.2
    rw [show (0 : Int32).toInt = 0 from rfl] at g1
    rw [show (19 : Int32).toInt = 19 from rfl] at g2
    have ne : ∀ v : Int32, ¬ a1 = v → ¬ a1.toInt = v.toInt := fun v hv q => hv (Int32.toInt_inj.mp q)
    have n0 := ne 0 c0
    have n1 := ne 1 c1
    have n2 := ne 2 c2
    have n3 := ne 3 c3
    rw [show (0 : Int32).toInt = 0 from rfl] at n0
    rw [show (1 : Int32).toInt = 1 from rfl] at n1
    rw [show (2 : Int32).toInt = 2 from rfl] at n2
    rw [show (3 : Int32).toInt = 3 from rfl] at n3
    have := bI_z e
    rw [inR_t.mpr ⟨(i_le _ _).mpr (by rw [show (4 : Int32).toInt = 4 from rfl]; omega), (i_le _ _).mpr (by rw [show (18 : Int32).toInt = 18 from rfl]; omega)⟩] at this
    cases this
  · obtain ⟨g1, g2⟩ := inR_t.mp (bI_nz e)
    rw [i_le, show (4 : Int32).toInt = 4 from rfl] at g1
    rw [i_le, show (18 : Int32).toInt = 18 from rfl] at g2
    obtain ⟨j, hj, rfl⟩ := nI_of (x := a1) (fun q => by rw [i_lt, show (0 : Int32).toInt = 0 from rfl] at q; omega)
    rw [nI_toInt hj] at g1 g2
    obtain ⟨q, rfl⟩ : ∃ q, j = q + 4 := ⟨j - 4, by omega⟩
    have e4 : nI (q + 4) - 4 = nI q := by rw [show (4 : Int32) = nI 4 from rfl, pk_sub (by omega)]; congr 1
    rw [e4]
    refine ⟨vp_in_nI (by omega) (by omega), ?_⟩
    rw [nI_clamp (by omega)]
    exact h4 q (by omega) rfl
theorem q_mcount {Q : Int32 → gM → Prop} {M : gM} {n : Nat} {a1 : Int32} (hn : n ≤ 40) (h1 : M.1 273 0 = nI n) (h0 : a1 = 0 → Q (nI n) M) (hh : a1 = 1 → Q (nI (cntN (M.1 277) n)) M) (h2 : a1 = 2 → Q (M.1 273 14) M) (h3 : a1 = 3 → Q (M.1 273 7) M) (h4 : ∀ j, j < 15 → a1 = nI (j + 4) → Q (M.1 278 j) M) (hb : inX 19 a1 = false → Q (-2) M) : wp_MD_count Q a1 M := by
  refine ⟨fun c => hb (inX_f fun q => ?_), fun c => ⟨fun c2 => ⟨n + 1, q_mcount_loop hn h1 ?_ n 0 (by omega)⟩, fun c2 => hb (inX_f fun q => c2 q.2)⟩⟩
  · have g1 := (i_le _ _).mp q.1
    rw [i_lt] at c
    omega
  · refine ⟨fun c0 => ⟨fun c1 => ⟨fun d2 => ⟨fun c3 => ?_, fun c => h3 c⟩, fun c => h2 c⟩, fun c => hh c⟩, fun c => by rw [h1]; exact h0 c⟩
    obtain ⟨j, hj, rfl⟩ := nI_of (x := a1) c
    rw [show (19 : Int32) = nI 19 from rfl, nI_ltI hj (by omega)] at c2
    rw [← nI_0, nI_eq hj (by omega)] at c0
    rw [show (1 : Int32) = nI 1 from rfl, nI_eq hj (by omega)] at c1
    rw [show (2 : Int32) = nI 2 from rfl, nI_eq hj (by omega)] at d2
    rw [show (3 : Int32) = nI 3 from rfl, nI_eq hj (by omega)] at c3
    obtain ⟨q, rfl⟩ : ∃ q, j = q + 4 := ⟨j - 4, by omega⟩
    have e4 : nI (q + 4) - 4 = nI q := by rw [show (4 : Int32) = nI 4 from rfl, pk_sub (by omega)]; congr 1
    rw [e4]
    refine ⟨vp_in_nI (by omega) (by omega), ?_⟩
    rw [nI_clamp (by omega)]
    exact h4 q (by omega) rfl
theorem s_count {P : Int32 → Int32 → gM → Prop} {M : gM} {a1 : Int32} (hS : Sim M) (hP : ∀ r, P r r M) : wp_BF_count (fun r M1 => wp_MD_count (fun r' M2 => P r r' M2) a1 M1) a1 M := by
  obtain ⟨⟨n, t0, t1, t2, t3⟩, hs, hr⟩ := hS
  have small : ∀ {a b : Nat}, a < 32 → b < 32 → nI a = nI b → a = b := fun ha hb h => by rwa [nI_eq (by omega) (by omega)] at h
  have x0 : (0 : Int32) = nI 0 := rfl
  have x1 : (1 : Int32) = nI 1 := rfl
  have x2 : (2 : Int32) = nI 2 := rfl
  have x3 : (3 : Int32) = nI 3 := rfl
  have x19 : (19 : Int32) = nI 19 := rfl
  have big : ∀ j, j < 19 → inX 19 (nI j) = false → False := fun j hj h => by rw [x19, inX_in (a := 0) (by omega) hj] at h; cases h
  refine q_count t0 t1 (fun c => ?_) (fun c => ?_) (fun c => ?_) (fun c => ?_) (fun j hj c => ?_) (fun hb => ?_)
  · subst c
    exact q_mcount t0 t2 (fun _ => hP _) (fun c => absurd c (by decide)) (fun c => absurd c (by decide)) (fun c => absurd c (by decide)) (fun j hj c => absurd (small (a := 0) (by omega) (by omega) c) (by omega)) (fun h => (big 0 (by omega) h).elim)
  · subst c
    have e : cntN (M.1 45) n = cntN (M.1 277) n := cntN_congr fun i hi => (t3 i hi).2.2.2.1
    rw [e]
    exact q_mcount t0 t2 (fun c => absurd c (by decide)) (fun _ => hP _) (fun c => absurd c (by decide)) (fun c => absurd c (by decide)) (fun j hj c => absurd (small (a := 1) (by omega) (by omega) c) (by omega)) (fun h => (big 1 (by omega) h).elim)
  · subst c
    obtain ⟨t, m0, m1, m2, m3⟩ := simR_MF hr
    rw [m1]
    exact q_mcount t0 t2 (fun c => absurd c (by decide)) (fun c => absurd c (by decide)) (fun _ => by rw [m2]; exact hP _) (fun c => absurd c (by decide)) (fun j hj c => absurd (small (a := 2) (by omega) (by omega) c) (by omega)) (fun h => (big 2 (by omega) h).elim)
  · subst c
    have go : ∀ v, v = M.1 273 7 → wp_MD_count (fun r' M2 => P v r' M2) 3 M := fun v hv => by
      subst hv
      exact q_mcount t0 t2 (fun c => absurd c (by decide)) (fun c => absurd c (by decide)) (fun c => absurd c (by decide)) (fun _ => hP _) (fun j hj c => absurd (small (a := 3) (by omega) (by omega) c) (by omega)) (fun h => (big 3 (by omega) h).elim)
    rcases hr with h | ⟨n', t, h⟩
    · exact ⟨fun _ => go 0 h.2.2.1.symm, fun c => absurd h.1.1 c⟩
    · refine ⟨fun c => ?_, fun _ => go _ ?_⟩
      · rw [h.1.1] at c; exact absurd c (by decide)
      · rw [h.2.1.2.1, h.2.1.2.2]
  · subst c
    rw [(hs j hj).1]
    exact q_mcount t0 t2 (fun c => absurd (small (b := 0) (by omega) (by omega) c) (by omega)) (fun c => absurd (small (b := 1) (by omega) (by omega) c) (by omega)) (fun c => absurd (small (b := 2) (by omega) (by omega) c) (by omega)) (fun c => absurd (small (b := 3) (by omega) (by omega) c) (by omega)) (fun j' hj' c => by have := small (by omega) (by omega) c; have : j = j' := (by omega); subst this; exact hP _) (fun h => (big (j + 4) (by omega) h).elim)
  · refine q_mcount t0 t2 (fun c => ?_) (fun c => ?_) (fun c => ?_) (fun c => ?_) (fun j hj c => ?_) (fun _ => hP _)
    · subst c; exact (big 0 (by omega) hb).elim
    · subst c; exact (big 1 (by omega) hb).elim
    · subst c; exact (big 2 (by omega) hb).elim
    · subst c; exact (big 3 (by omega) hb).elim
    · subst c; exact (big (j + 4) (by omega) hb).elim

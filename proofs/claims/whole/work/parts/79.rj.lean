/-- rows copied in the program, the first i -/
def cpC (Ms : gM) (D : tD) (i : Nat) (M : gM) : Prop := (∀ k j, ¬ (49 ≤ k ∧ k ≤ 93) → M.1 k j = Ms.1 k j) ∧ (∀ k j, M.2 k j = Ms.2 k j) ∧ M.1 49 4 = nI i ∧ ∀ q, q < i → (∀ c, c < 4 → M.1 (51 + q) c = D.2.1 q c) ∧ M.1 91 q = D.2.2 0 q ∧ M.1 92 q = D.2.2 1 q ∧ M.1 93 q = D.2.2 2 q
theorem q_copyC {Q : gM → Prop} {Ms : gM} {D : tD} (hk : okD D) (h0 : Ms.1 1 4 = nI D.1) (hrow : ∀ i, i < D.1 → (∀ c, c < 4 → Ms.1 (3 + i) c = D.2.1 i c) ∧ Ms.1 43 i = D.2.2 0 i ∧ Ms.1 44 i = D.2.2 1 i ∧ Ms.1 45 i = D.2.2 2 i) (hq : ∀ M', cpC Ms D D.1 M' → Q M') : wp_TB_copyFrom Q 49 1 Ms := by
  have n40 := hk.1
  have go : ∀ z i M, i + z = D.1 → cpC Ms D i M → wp_TB_copyFrom_7 Q 49 1 (z + 1) (nI i) M := by
    intro z
    induction z with
    | zero =>
      intro i M hz v
      have e : i = D.1 := by omega
      subst e
      exact ⟨fun _ => hq M v, fun w => absurd (by rw [v.1 _ _ (by omega), h0]; exact nI_le (Nat.le_refl _) (by omega)) w⟩
    | succ z ih =>
      intro i M hz v
      obtain ⟨v1, v2, v3, v4⟩ := v
      obtain ⟨r1, r2, r3, r4⟩ := hrow i (by omega)
      have h2 := (hk.2.1 i (by omega)).2.2.2
      have n2 : vp_nar .boolean (D.2.2 2 i) = D.2.2 2 i := by
        rcases h2 with e | e
        · rw [e]; exact nar0
        · rw [e]; exact nar1
      refine ⟨fun w => ?_, fun _ => ⟨vp_in_nI (by omega) (by omega), ?_⟩⟩
      · rw [v1 _ _ (by omega), h0, nI_leI (by omega) (by omega)] at w; omega
      rw [nI_clamp (by omega)]
      unfold wp_TB_append
      rw [v3]
      refine ⟨fun _ => ⟨vp_in_nI (by omega) (by omega), ?_⟩, fun w => absurd (by rw [show (40 : Int32) = nI 40 from rfl, nI_ltI (by omega) (by omega)]; omega) w⟩
      rw [nI_clamp (by omega), nar0, nI_1]
      show wp_TB_copyFrom_7 Q 49 1 (z + 1) (nI (i + 1)) (wi (wi (wi (wi (wi (wc M (3 + i) (51 + i) 0 0 4) 91 i (M.1 43 i)) 92 i (M.1 44 i)) 93 i 0) 49 4 (nI (i + 1))) 93 i (vp_nar .boolean ((wi (wi (wi (wi (wc M (3 + i) (51 + i) 0 0 4) 91 i (M.1 43 i)) 92 i (M.1 44 i)) 93 i 0) 49 4 (nI (i + 1))).1 45 i)))
      rw [wi_ne (a := 45) (by omega), wi_ne (a := 45) (by omega), wi_ne (a := 45) (by omega), wi_ne (a := 45) (by omega), wc_ne (a := 45) (by omega), v1 43 _ (by omega), v1 44 _ (by omega), v1 45 _ (by omega), r2, r3, r4, n2]
      refine ih (i + 1) _ (by omega) ⟨fun k j q => ?_, fun k j => v2 k j, ?_, fun q hq2 => ?_⟩
      · rw [wi_ne (by omega), wi_ne (by omega), wi_ne (by omega), wi_ne (by omega), wi_ne (by omega), wc_ne (by omega)]; exact v1 k j q
      · rw [wi_ne (by omega), wi_eq]
      · by_cases e : q = i
        · subst e
          refine ⟨fun c hc => ?_, ?_, ?_, ?_⟩
          · rw [wi_ne (by omega), wi_ne (by omega), wi_ne (by omega), wi_ne (by omega), wi_ne (by omega), wc_eq hc, v1 _ _ (by omega)]; exact r1 c hc
          · rw [wi_ne (by omega), wi_ne (by omega), wi_ne (by omega), wi_ne (by omega), wi_eq]
          · rw [wi_ne (by omega), wi_ne (by omega), wi_ne (by omega), wi_eq]
          · rw [wi_eq]
        · obtain ⟨y1, y2, y3, y4⟩ := v4 q (by omega)
          refine ⟨fun c hc => ?_, ?_, ?_, ?_⟩
          · rw [wi_ne (by omega), wi_ne (by omega), wi_ne (by omega), wi_ne (by omega), wi_ne (by omega), wc_ne (by omega)]; exact y1 c hc
          · rw [wi_ne (by omega), wi_ne (by omega), wi_ne (by omega), wi_ne (by omega), wi_ne (by omega), wc_ne (by omega)]; exact y2
          · rw [wi_ne (by omega), wi_ne (by omega), wi_ne (by omega), wi_ne (by omega), wi_ne (by omega), wc_ne (by omega)]; exact y3
          · rw [wi_ne (by omega), wi_ne (by omega), wi_ne (by omega), wi_ne (by omega), wi_ne (by omega), wc_ne (by omega)]; exact y4
  exact ⟨D.1 + 1, go D.1 0 _ (by omega) ⟨fun k j q => by rw [wi_ne (by omega)], fun _ _ => rfl, by rw [wi_eq]; rfl, fun q hq2 => absurd hq2 (by omega)⟩⟩
theorem cnt_any {D : tD} {h : Nat → Int32} : ∀ n, (∀ i, i < n → h i = D.2.2 2 i) → (cntN h n = 0 ↔ anyH D n = false) := by
  intro n
  induction n with
  | zero => exact fun _ => ⟨fun _ => rfl, fun _ => rfl⟩
  | succ n ih =>
    intro e
    have ih := ih (fun i hi => e i (by omega))
    have en := e n (by omega)
    have ea : anyH D (n + 1) = (anyH D n || decide (¬ D.2.2 2 n = 0)) := rfl
    rw [ea]
    by_cases z : h n = 0
    · rw [cntN_0 z, decide_eq_false (show ¬ ¬ D.2.2 2 n = 0 from fun y => y (by rw [← en]; exact z)), Bool.or_false]
      exact ih
    · rw [cntN_1 z, decide_eq_true (show ¬ D.2.2 2 n = 0 from fun y => z (by rw [en]; exact y)), Bool.or_true]
      exact ⟨fun y => by omega, fun y => by cases y⟩
theorem q_runC {Q : gM → Prop} {Ms : gM} {D : tD} (hk : okD D) (h0 : Ms.1 1 4 = nI D.1) (hrow : ∀ i, i < D.1 → (∀ c, c < 4 → Ms.1 (3 + i) c = D.2.1 i c) ∧ Ms.1 43 i = D.2.2 0 i ∧ Ms.1 44 i = D.2.2 1 i ∧ Ms.1 45 i = D.2.2 2 i) (hset : ∀ k, k < 15 → Ms.1 46 k = D.2.2 3 k) (hN : atS Ms 107 (0, 0, 0)) (hq : ∀ M', rC Ms D (stopR D 0 12) M' → Q M') : wp_TG_run Q Ms := by
  have n40 := hk.1
  refine q_copyC hk h0 hrow (fun M17 v => ?_)
  obtain ⟨v1, v2, v3, v4⟩ := v
  obtain ⟨M1, hM1⟩ : ∃ M1, M1 = wi (wi (wc M17 46 94 0 0 15) 47 8 1) 47 9 0 := ⟨_, rfl⟩
  have m1 : ∀ k j, ¬ (k = 47 ∧ (j = 8 ∨ j = 9)) → k ≠ 94 → M1.1 k j = M17.1 k j := fun k j q1 q2 => by rw [hM1, wi_ne (by omega), wi_ne (by omega), wc_ne q2]
  have m2 : ∀ k j, M1.2 k j = Ms.2 k j := fun k j => by rw [hM1]; exact v2 k j
  have m94 : ∀ k, k < 15 → M1.1 94 k = D.2.2 3 k := fun k hk2 => by rw [hM1, wi_ne (by omega), wi_ne (by omega), wc_eq hk2, v1 _ _ (by omega)]; exact hset k hk2
  have m478 : M1.1 47 8 = 1 := by rw [hM1, wi_ne (by omega), wi_eq]
  have m479 : M1.1 47 9 = nI 0 := by rw [hM1, wi_eq]; rfl
  have hD1 : cdD M1 D := by
    refine ⟨by rw [m1 _ _ (by omega) (by omega)]; exact v3, fun i hi => ?_, m94⟩
    obtain ⟨y1, y2, y3, y4⟩ := v4 i hi
    exact ⟨fun c hc => by rw [m1 _ _ (by omega) (by omega)]; exact y1 c hc, by rw [m1 _ _ (by omega) (by omega)]; exact y2, by rw [m1 _ _ (by omega) (by omega)]; exact y3, by rw [m1 _ _ (by omega) (by omega)]; exact y4⟩
  have beg : ∀ (Q1 : gM → Prop), (∀ M', (∀ k j, k ≠ 111 → ¬ (96 ≤ k ∧ k ≤ 99) → M'.1 k j = M1.1 k j) → (∀ k j, k ≠ 110 → k ≠ 113 → k ≠ 114 → M'.2 k j = M1.2 k j) → (∀ i, i < D.1 → M'.2 110 i = Fr D 0 i ∧ M'.1 111 i = 0) → M'.2 113 0 = lsN D (Fr D 0) false D.1 → M'.2 114 0 = lsH D 0 → (∀ c, c < 4 → ordM M' D c D.1) → Q1 M') → ∃ z : Nat, wp_TG_begin_12 Q1 z 0 M1 := by
    intro Q1 hQ1
    have go : ∀ z i M, i + z = D.1 → (∀ k j, k ≠ 111 → M.1 k j = M1.1 k j) → (∀ k j, k ≠ 110 → M.2 k j = M1.2 k j) → (∀ q, q < i → M.2 110 q = Fr D 0 q ∧ M.1 111 q = 0) → wp_TG_begin_12 Q1 (z + 1) (nI i) M := by
      intro z
      induction z with
      | zero =>
        intro i M hz u1 u2 u3
        have e : i = D.1 := by omega
        subst e
        have hDM : cdD M D := cdD_fr n40 hD1 (fun k j q => u1 k j (by omega))
        refine ⟨fun _ => ?_, fun w => absurd (by rw [hDM.1]; exact nI_le (Nat.le_refl _) (by omega)) w⟩
        refine q_lossC (F := Fr D 0) (t := 0) hk (by omega) hDM (fun i hi => (u3 i hi).1) (by rw [u1 _ _ (by omega)]; exact m479) (fun M2 l => ?_)
        obtain ⟨l1, l2, l3, l4⟩ := l
        refine q_sort hk (cdD_fr n40 hDM (fun k j _ => l1 k j)) (fun M4 t1 t2 t3 => hQ1 M4 (fun k j q1 q2 => ?_) (fun k j q1 q2 q3 => ?_) (fun i hi => ?_) ?_ ?_ t3)
        · rw [t1 _ _ q2, l1]; exact u1 k j q1
        · rw [t2, l2 _ _ (by omega)]; exact u2 k j q1
        · rw [t2, l2 _ _ (by omega), t1 _ _ (by omega), l1]; exact u3 i hi
        · rw [t2]; exact l3
        · rw [t2]; exact l4
      | succ z ih =>
        intro i M hz u1 u2 u3
        refine ⟨fun w => ?_, fun _ => ?_⟩
        · rw [u1 _ _ (by omega), hD1.1, nI_leI (by omega) (by omega)] at w; omega
        · refine ⟨vp_in_nI (by omega) (by omega), ?_⟩
          rw [nI_clamp (by omega), nI_1, u1 _ _ (by omega), m94 9 (by omega)]
          refine ih (i + 1) _ (by omega) (fun k j n => by rw [wi_ne (Or.inl n)]; exact u1 k j n) (fun k j n => ?_) (fun q hq2 => ?_)
          · show (wl M 110 i _).2 k j = _
            rw [wl_ne (Or.inl n)]; exact u2 k j n
          · show (wl M 110 i _).2 110 q = _ ∧ _
            by_cases e : q = i
            · subst e
              rw [wl_eq, wi_eq]
              exact ⟨rfl, rfl⟩
            · rw [wl_ne (Or.inr e), wi_ne (Or.inr e)]
              exact u3 q (by omega)
    exact ⟨D.1 + 1, go D.1 0 M1 (by omega) (fun _ _ _ => rfl) (fun _ _ _ => rfl) (fun q hq2 => absurd hq2 (by omega))⟩
  unfold wp_TG_begin
  rw [← hM1]
  refine beg _ (fun M' b1 b2 b3 b4 b5 b6 => ?_)
  have hD' : cdD M' D := cdD_fr n40 hD1 (fun k j q => b1 k j (by omega) (by omega))
  have st : rC Ms D 0 M' := by
    refine ⟨⟨hD', fun i hi => (b3 i hi).1, by rw [b1 _ _ (by omega) (by omega)]; exact m479, by rw [b1 _ _ (by omega) (by omega)]; exact m478⟩, ⟨b6, ?_, ?_, ?_⟩, fun k hk2 => ?_, fun q hq2 => absurd hq2 (by omega), fun i hi => ⟨0, by omega, by rw [(b3 i hi).2]; rfl, fun x hx => absurd hx (by omega)⟩, fun k j q => ?_, fun k j q => ?_⟩
    · rw [b1 _ _ (by omega) (by omega), m1 _ _ (by omega) (by omega), v1 _ _ (by omega)]; exact hN.1
    · rw [b1 _ _ (by omega) (by omega), m1 _ _ (by omega) (by omega), v1 _ _ (by omega)]; exact hN.2.1
    · rw [b2 _ _ (by omega) (by omega) (by omega), m2]; exact hN.2.2
    · have : k = 0 := by omega
      subst this
      exact ⟨b4, b5⟩
    · rw [b1 _ _ (by omega) (by omega), m1 _ _ (by omega) (by omega), v1 _ _ (by omega)]
    · rw [b2 _ _ (by omega) (by omega) (by omega), m2]
  have loop : wp_TG_run_62 Q 13 (patC D) (lst D 0) (nI (idl D 0)) (nI 0) M' := q_roundsC hk 12 0 M' (by omega) st hq
  have e114 : M'.2 114 0 = lst D 0 := b5
  have ch := cnt_any (D := D) (h := M'.1 93) D.1 (fun i hi => (hD'.2.1 i hi).2.2.2)
  have cle : cntN (M'.1 (49 + 44)) D.1 ≤ D.1 := cntN_le _ _
  have fin : ∀ p, p = patC D → wp_TG_run_45 Q p M' := fun p hp => by
    subst hp
    refine ⟨13, ?_⟩
    rw [e114]
    exact loop
  refine q_held (b := 49) n40 hD'.1 ⟨fun w => fin 0 ?_, fun w => fin _ ?_⟩
  · rw [show (0 : Int32) = nI 0 from rfl, nI_leI (by omega) (by omega)] at w
    have w : cntN (M'.1 93) D.1 ≤ 0 := w
    unfold patC
    rw [if_neg (by rw [ch.mp (by omega)]; decide)]
  · rw [show (0 : Int32) = nI 0 from rfl, nI_leI (by omega) (by omega)] at w
    have w : ¬ cntN (M'.1 93) D.1 ≤ 0 := w
    unfold patC
    rw [if_pos, hD'.2.2 8 (by omega)]
    cases h : anyH D D.1
    · have := ch.mpr h; omega
    · rfl

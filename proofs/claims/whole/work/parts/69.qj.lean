/-- rows and settings as they stand ahead of a training, in the reference -/
def dtM (M : gM) (n : Nat) : tD := (n, fun i c => M.1 274 (4 * i + c), fun k i => if k = 0 then M.1 275 i else if k = 1 then M.1 276 i else if k = 2 then M.1 277 i else M.1 278 i)
theorem q_msome {Q : Int32 → gM → Prop} {M : gM} {n : Nat} (n40 : n ≤ 40) (h0 : M.1 273 0 = nI n) (hy : ¬ cntN (M.1 277) n = n → ∃ z : Nat, wp_MD_train_59 Q z 0 (wi (wi M 273 6 1) 273 7 (nI n))) (hb : cntN (M.1 277) n = n → Q (-2) M) : wp_MD_train Q M := by
  have go : ∀ z i, i + z = n → wp_MD_train_4 Q (z + 1) (if cntN (M.1 277) i = i then 0 else 1) (nI i) M := by
    intro z
    induction z with
    | zero =>
      intro i hi
      have e : i = n := by omega
      subst e
      refine ⟨fun _ => ?_, fun q => absurd ?_ q⟩
      · rw [h0]
        by_cases c : cntN (M.1 277) i = i
        · rw [if_pos c]; exact ⟨fun z => absurd rfl z, fun _ => hb c⟩
        · rw [if_neg c]; exact ⟨fun _ => hy c, fun z => absurd z (by decide)⟩
      · rw [h0]; exact nI_le (Nat.le_refl _) (by omega)
    | succ z ih =>
      intro i hi
      have nx := ih (i + 1) (by omega)
      have hle := cntN_le (M.1 277) i
      have fwd : ∀ v, v = (if cntN (M.1 277) (i + 1) = i + 1 then 0 else 1) → wp_MD_train_4 Q (z + 1) v (nI i + 1) M := fun v hv => by rw [hv, nI_1]; exact nx
      refine ⟨fun q => ?_, fun _ => ?_⟩
      · rw [h0, nI_leI (by omega) (by omega)] at q; omega
      · by_cases c : cntN (M.1 277) i = i
        · rw [if_pos c]
          refine ⟨fun z => absurd rfl z, fun _ => ⟨vp_in_nI (by omega) (by omega), ?_⟩⟩
          rw [nI_clamp (by omega)]
          refine ⟨fun q => fwd 0 ?_, fun q => fwd 1 ?_⟩
          · rw [cntN_1 q, if_pos (by omega)]
          · rw [cntN_0 q, if_neg (by omega)]
        · rw [if_neg c]
          refine ⟨fun _ => fwd 1 ?_, fun z => absurd z (by decide)⟩
          rw [if_neg]
          show ¬ cntN (M.1 277) i + _ = i + 1
          split <;> omega
  refine ⟨n + 1, ?_⟩
  have := go n 0 (by omega)
  exact this
/-- rows copied, the first i; of row i the first c columns -/
def cpR (Ms : gM) (D : tD) (i c : Nat) (M : gM) : Prop := (∀ k j, k < 279 ∨ k = 283 ∨ 284 < k → M.1 k j = Ms.1 k j) ∧ (∀ k j, k ≠ 284 → M.2 k j = Ms.2 k j) ∧ (∀ q, q < i → (∀ b, b < 4 → M.1 279 (4 * q + b) = D.2.1 q b) ∧ M.1 280 q = D.2.2 0 q ∧ M.1 281 q = D.2.2 1 q ∧ M.1 282 q = D.2.2 2 q ∧ M.2 284 q = 256 * (D.2.2 3 9).toInt64) ∧ ∀ b, b < c → M.1 279 (4 * i + b) = D.2.1 i b
theorem q_mcopy {Q : Int32 → gM → Prop} {Ms : gM} {D : tD} (hk : okD D) (h0 : Ms.1 273 0 = nI D.1) (hrow : ∀ i, i < D.1 → (∀ c, c < 4 → Ms.1 274 (4 * i + c) = D.2.1 i c) ∧ Ms.1 275 i = D.2.2 0 i ∧ Ms.1 276 i = D.2.2 1 i ∧ Ms.1 277 i = D.2.2 2 i) (h9 : Ms.1 283 9 = D.2.2 3 9)
    (hq : ∀ M', cpR Ms D D.1 0 M' → wp_MD_keepLosses (fun M33 => ∃ z : Nat, wp_MD_train_234 Q z (bI (anyH D D.1)) (M33.2 285 13) 0 0 M33) (wi M' 273 14 0)) : ∀ z i M, i + z = D.1 → cpR Ms D i 0 M → wp_MD_train_87 Q (z + 1) (bI (anyH D i)) (nI i) M := by
  have n40 := hk.1
  intro z
  induction z with
  | zero =>
    intro i M hz v
    have e : i = D.1 := by omega
    subst e
    refine ⟨fun _ => hq M v, fun q => absurd ?_ q⟩
    rw [v.1 _ _ (by omega), h0]
    exact nI_le (Nat.le_refl _) (by omega)
  | succ z ih =>
    intro i M hz v
    obtain ⟨r1, r2, r3, r4⟩ := hrow i (by omega)
    have h2 := (hk.2.1 i (by omega)).2.2.2
    have inner : ∀ y c M1, c + y = 4 → cpR Ms D i c M1 → wp_MD_train_98 Q (wp_MD_train_87 Q (z + 1)) (y + 1) (bI (anyH D i)) (nI i) (nI c) M1 := by
      intro y
      induction y with
      | zero =>
        intro c M1 hy v1
        have e : c = 4 := by omega
        subst e
        have n2 : vp_nar .boolean (D.2.2 2 i) = D.2.2 2 i := by
          rcases h2 with e | e
          · rw [e]; exact nar0
          · rw [e]; exact nar1
        refine ⟨fun _ => ⟨vp_in_nI (by omega) (by omega), ?_⟩, fun q => absurd (show (4 : Int32) ≤ nI 4 by decide) q⟩
        rw [nI_clamp (by omega), v1.1 275 _ (by omega), v1.1 276 _ (by omega), v1.1 277 _ (by omega), r2, r3, r4, n2]
        have fin : ∀ b, b = anyH D (i + 1) → wp_MD_train_186 Q (wp_MD_train_87 Q (z + 1)) (nI i) (bI b) (wi (wi (wi M1 280 i (D.2.2 0 i)) 281 i (D.2.2 1 i)) 282 i (D.2.2 2 i)) := by
          intro b hb
          subst hb
          refine ⟨vp_in_nI (by omega) (by omega), ?_⟩
          rw [nI_clamp (by omega), nI_1]
          obtain ⟨M2, hM2⟩ : ∃ M2, M2 = wi (wi (wi M1 280 i (D.2.2 0 i)) 281 i (D.2.2 1 i)) 282 i (D.2.2 2 i) := ⟨_, rfl⟩
          rw [← hM2]
          have m1 : ∀ k j, ¬ ((280 ≤ k ∧ k ≤ 282) ∧ j = i) → M2.1 k j = M1.1 k j := fun k j q => by rw [hM2, wi_ne (by omega), wi_ne (by omega), wi_ne (by omega)]
          have m2 : ∀ k j, M2.2 k j = M1.2 k j := fun k j => by rw [hM2]; rfl
          rw [m1 283 _ (by omega), v1.1 283 _ (by omega), h9]
          refine ih (i + 1) _ (by omega) ⟨fun k j q => ?_, fun k j q => ?_, fun q hq2 => ?_, fun b hb => absurd hb (by omega)⟩
          · show M2.1 k j = _
            rw [m1 _ _ (by omega)]; exact v1.1 k j q
          · rw [wl_ne (by omega), m2]; exact v1.2.1 k j q
          · by_cases e : q = i
            · subst e
              refine ⟨fun b hb => ?_, ?_, ?_, ?_, wl_eq⟩
              · show M2.1 279 _ = _
                rw [m1 _ _ (by omega)]; exact v1.2.2.2 b hb
              · show M2.1 280 q = _
                rw [hM2, wi_ne (by omega), wi_ne (by omega), wi_eq]
              · show M2.1 281 q = _
                rw [hM2, wi_ne (by omega), wi_eq]
              · show M2.1 282 q = _
                rw [hM2, wi_eq]
            · obtain ⟨y1, y2, y3, y4, y5⟩ := v1.2.2.1 q (by omega)
              refine ⟨fun b hb => ?_, ?_, ?_, ?_, ?_⟩
              · show M2.1 279 _ = _
                rw [m1 _ _ (by omega)]; exact y1 b hb
              · show M2.1 280 q = _
                rw [m1 _ _ (by omega)]; exact y2
              · show M2.1 281 q = _
                rw [m1 _ _ (by omega)]; exact y3
              · show M2.1 282 q = _
                rw [m1 _ _ (by omega)]; exact y4
              · rw [wl_ne (by omega), m2]; exact y5
        have ea : anyH D (i + 1) = (anyH D i || decide (¬ D.2.2 2 i = 0)) := rfl
        refine ⟨fun q => fin true ?_, fun q => ⟨fun q2 => fin false ?_, fun q2 => fin true ?_⟩⟩
        · rw [ea, bI_nz q]; rfl
        · rw [ea, bI_z q, decide_eq_false (fun z => z q2)]; rfl
        · rw [ea, decide_eq_true q2, Bool.or_true]
      | succ y ih2 =>
        intro c M1 hy v1
        refine ⟨fun q => ?_, fun _ => ?_⟩
        · rw [show (4 : Int32) = nI 4 from rfl, nI_leI (by omega) (by omega)] at q; omega
        · rw [show (4 : Int32) = nI 4 from rfl, pk_mul, nI_add]
          refine ⟨vp_in_nI (by omega) (by omega), ?_⟩
          rw [nI_clamp (by omega), nI_1, v1.1 274 _ (by omega), r1 c (by omega)]
          refine ih2 (c + 1) _ (by omega) ⟨fun k j q => by rw [wi_ne (by omega)]; exact v1.1 k j q, v1.2.1, fun q hq2 => ?_, fun b hb => ?_⟩
          · obtain ⟨y1, y2, y3, y4, y5⟩ := v1.2.2.1 q hq2
            exact ⟨fun b hb => by rw [wi_ne (by omega)]; exact y1 b hb, by rw [wi_ne (by omega)]; exact y2, by rw [wi_ne (by omega)]; exact y3, by rw [wi_ne (by omega)]; exact y4, y5⟩
          · by_cases e : b = c
            · subst e; rw [wi_eq]
            · rw [wi_ne (by omega)]; exact v1.2.2.2 b (by omega)
    refine ⟨fun q => ?_, fun _ => ⟨5, inner 4 0 M (by omega) ⟨v.1, v.2.1, v.2.2.1, fun b hb => absurd hb (by omega)⟩⟩⟩
    rw [v.1 _ _ (by omega), h0, nI_leI (by omega) (by omega)] at q; omega
/-- the reference's training, whole -/
theorem q_mtrain {Q : Int32 → gM → Prop} {Ms : gM} {n : Nat} (hk : okD (dtM Ms n)) (h0 : Ms.1 273 0 = nI n) (hb : cntN (Ms.1 277) n = n → Q (-2) Ms) (hy : ¬ cntN (Ms.1 277) n = n → ∀ M', rS Ms (dtM Ms n) (stopR (dtM Ms n) 0 12) M' → Q (nI (stopR (dtM Ms n) 0 12)) M') : wp_MD_train Q Ms := by
  have n40 : n ≤ 40 := hk.1
  refine q_msome n40 h0 (fun c => ⟨16, ?_⟩) hb
  have hy := hy c
  obtain ⟨D, hD⟩ : ∃ D, D = dtM Ms n := ⟨_, rfl⟩
  rw [← hD] at hk hy
  have eD1 : D.1 = n := by rw [hD]; rfl
  -- settings
  have go : ∀ z k M, k + z = 15 → ((∀ a j, ¬ (a = 273 ∧ (j = 6 ∨ j = 7)) → a ≠ 283 → M.1 a j = Ms.1 a j) ∧ (∀ a j, M.2 a j = Ms.2 a j) ∧ M.1 273 6 = 1 ∧ M.1 273 7 = nI n ∧ ∀ q, q < k → M.1 283 q = Ms.1 278 q) → wp_MD_train_59 Q (z + 1) (nI k) M := by
    intro z
    induction z with
    | zero =>
      intro k M hz v
      have e : k = 15 := by omega
      subst e
      obtain ⟨v1, v2, v3, v4, v5⟩ := v
      have s3 : ∀ q, q < 15 → M.1 283 q = D.2.2 3 q := fun q hq2 => by rw [v5 q hq2, hD]; rfl
      refine ⟨fun _ => ⟨n + 1, ?_⟩, fun q => absurd (show (15 : Int32) ≤ nI 15 by decide) q⟩
      refine q_mcopy (Ms := M) (D := D) hk (by rw [v1 _ _ (by omega) (by omega), eD1]; exact h0) (fun i hi => ?_) (s3 9 (by omega)) (fun M' w => ?_) n 0 M (by rw [eD1]; omega) ⟨fun _ _ _ => rfl, fun _ _ _ => rfl, fun q hq2 => absurd hq2 (by omega), fun b hb2 => absurd hb2 (by omega)⟩
      · rw [v1 275 _ (by omega) (by omega), v1 276 _ (by omega) (by omega), v1 277 _ (by omega) (by omega), hD]
        exact ⟨fun c hc => by rw [v1 274 _ (by omega) (by omega)]; rfl, rfl, rfl, rfl⟩
      · obtain ⟨w1, w2, w3, w4⟩ := w
        obtain ⟨M3, hM3⟩ : ∃ M3, M3 = wi M' 273 14 0 := ⟨_, rfl⟩
        rw [← hM3]
        have m1 : ∀ k j, ¬ (k = 273 ∧ j = 14) → M3.1 k j = M'.1 k j := fun k j q => by rw [hM3, wi_ne (by omega)]
        have m2 : ∀ k j, M3.2 k j = M'.2 k j := fun k j => by rw [hM3]; rfl
        have h14 : M3.1 273 14 = nI 0 := by rw [hM3, wi_eq]; rfl
        have hd : mdD M3 D := by
          refine ⟨by rw [m1 _ _ (by omega), w1 _ _ (by omega), v4, eD1], fun i hi => ?_, fun k hk2 => by rw [m1 _ _ (by omega), w1 _ _ (by omega)]; exact s3 k hk2⟩
          obtain ⟨y1, y2, y3, y4, y5⟩ := w3 i hi
          exact ⟨fun c hc => by rw [m1 _ _ (by omega)]; exact y1 c hc, by rw [m1 _ _ (by omega)]; exact y2, by rw [m1 _ _ (by omega)]; exact y3, by rw [m1 _ _ (by omega)]; exact y4⟩
        have hF : ∀ i, i < D.1 → M3.2 284 i = Fr D 0 i := fun i hi => by rw [m2]; exact (w3 i hi).2.2.2.2
        refine q_keepLosses (F := Fr D 0) (t := 0) hk (by omega) hd hF h14 (fun M4 l => ⟨14, ?_⟩)
        obtain ⟨l1, l2, l3, l4⟩ := l
        have e13 : M4.2 285 13 = lst D 0 := l4
        rw [e13]
        refine q_mrounds hk 12 0 M4 (by omega) ⟨⟨mdD_fr hd (fun k j _ => l1 k j), fun i hi => by rw [l2 _ _ (by omega)]; exact hF i hi, by rw [l1]; exact h14, by rw [l1, m1 _ _ (by omega), w1 _ _ (by omega)]; exact v3⟩, fun k hk2 => ?_, fun q hq2 => absurd hq2 (by omega), fun k j q => ?_, fun k j q => ?_⟩ hy
        · have : k = 0 := by omega
          subst this
          exact ⟨l3, l4⟩
        · rw [l1, m1 _ _ (by omega), w1 _ _ (by omega), v1 _ _ (by omega) (by omega)]
        · rw [l2 _ _ (by omega), m2, w2 _ _ (by omega), v2]
    | succ z ih =>
      intro k M hz v
      obtain ⟨v1, v2, v3, v4, v5⟩ := v
      refine ⟨fun q => ?_, fun _ => ⟨vp_in_nI (by omega) (by omega), ?_⟩⟩
      · rw [show (15 : Int32) = nI 15 from rfl, nI_leI (by omega) (by omega)] at q; omega
      · rw [nI_clamp (by omega), nI_1, v1 278 _ (by omega) (by omega)]
        refine ih (k + 1) _ (by omega) ⟨fun a j q1 q2 => by rw [wi_ne (by omega)]; exact v1 a j q1 q2, v2, by rw [wi_ne (by omega)]; exact v3, by rw [wi_ne (by omega)]; exact v4, fun q hq2 => ?_⟩
        by_cases e : q = k
        · subst e; rw [wi_eq]
        · rw [wi_ne (by omega)]; exact v5 q (by omega)
  refine go 15 0 _ (by omega) ⟨fun a j q1 q2 => by rw [wi_ne (by omega), wi_ne (by omega)], fun _ _ => rfl, by rw [wi_ne (by omega), wi_eq], by rw [wi_eq], fun q hq2 => absurd hq2 (by omega)⟩

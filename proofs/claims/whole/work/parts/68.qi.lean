/-! ===== training: the reference's rounds ===== -/
/-- behind r rounds of the reference -/
def rS (Ms : gM) (D : tD) (r : Nat) (M : gM) : Prop := (mdD M D ∧ (∀ i, i < D.1 → M.2 284 i = Fr D r i) ∧ M.1 273 14 = nI r ∧ M.1 273 6 = 1) ∧ (∀ k, k ≤ r → M.2 285 k = lsN D (Fr D k) false D.1 ∧ M.2 285 (13 + k) = lsH D k) ∧ (∀ q, q < r → M.1 287 q = nI (treT D (Fr D q) q).1 ∧ mdT M q (treT D (Fr D q) q).1 (treT D (Fr D q) q).2.1 ∧ ∀ i, i < D.1 → M.1 286 (40 * q + i) = bI (prt D q i)) ∧ (∀ k j, k < 273 ∨ (k = 273 ∧ j = 0) ∨ (274 ≤ k ∧ k ≤ 278) → M.1 k j = Ms.1 k j) ∧ ∀ k j, k < 273 → M.2 k j = Ms.2 k j
theorem mdD_fr {M M' : gM} {D : tD} (h : mdD M D) (e1 : ∀ k j, (k = 273 ∧ j = 7) ∨ (279 ≤ k ∧ k ≤ 283) → M'.1 k j = M.1 k j) : mdD M' D := by
  obtain ⟨h1, h2, h3⟩ := h
  refine ⟨by rw [e1 _ _ (by omega)]; exact h1, fun i hi => ?_, fun k hk => by rw [e1 _ _ (by omega)]; exact h3 k hk⟩
  rw [e1 280 _ (by omega), e1 281 _ (by omega), e1 282 _ (by omega)]
  exact ⟨fun c hc => by rw [e1 _ _ (by omega)]; exact (h2 i hi).1 c hc, (h2 i hi).2⟩
theorem mdT_fr {M M' : gM} {r s : Nat} {T : gM} (h : mdT M r s T) (e1 : ∀ k j, 288 ≤ k ∧ k ≤ 294 → 32 * r ≤ j → j < 32 * r + s → M'.1 k j = M.1 k j) (e2 : ∀ k j, k = 295 ∨ k = 296 → 32 * r ≤ j → j < 32 * r + s → M'.2 k j = M.2 k j) : mdT M' r s T := by
  intro i hi
  rw [e1 288 _ (by omega) (by omega) (by omega), e1 289 _ (by omega) (by omega) (by omega), e1 290 _ (by omega) (by omega) (by omega), e1 291 _ (by omega) (by omega) (by omega), e1 292 _ (by omega) (by omega) (by omega), e1 293 _ (by omega) (by omega) (by omega), e1 294 _ (by omega) (by omega) (by omega), e2 295 _ (by omega) (by omega) (by omega), e2 296 _ (by omega) (by omega) (by omega)]
  exact h i hi
theorem lst_t {D : tD} {r : Nat} (h : lst D r ≤ lsH D (r + 1)) : lst D (r + 1) = lst D r ∧ idl D (r + 1) = idl D r + 1 := ⟨if_pos h, if_pos h⟩
theorem lst_f {D : tD} {r : Nat} (h : ¬ lst D r ≤ lsH D (r + 1)) : lst D (r + 1) = lsH D (r + 1) ∧ idl D (r + 1) = 0 := ⟨if_neg h, if_neg h⟩
theorem idl_le {D : tD} (r : Nat) : idl D r ≤ r := by
  induction r with
  | zero => exact Nat.le_refl 0
  | succ r ih =>
    show (if lst D r ≤ lsH D (r + 1) then idl D r + 1 else 0) ≤ r + 1
    split <;> omega
/-- the four numbers of a row -/
theorem nb_row {D : tD} {i c : Nat} (hc : c < 4) : nb c (D.2.1 i 0) (D.2.1 i 1) (D.2.1 i 2) (D.2.1 i 3) = D.2.1 i c := by
  have : c = 0 ∨ c = 1 ∨ c = 2 ∨ c = 3 := by omega
  rcases this with rfl | rfl | rfl | rfl <;> rfl
theorem q_mround {Q : Int32 → gM → Prop} {Ms : gM} {D : tD} {r : Nat} {k234 : Int32 → Int64 → Int32 → Int32 → gM → Prop} (hk : okD D) (hr : r < 12) (hq : ∀ M', rS Ms D (r + 1) M' → k234 (bI (anyH D D.1)) (lst D (r + 1)) (nI (idl D (r + 1))) (bI (endR D (r + 1))) M') {M : gM} (hS : rS Ms D r M) : wp_MD_makeTree (fun M22 => ∃ z : Nat, wp_MD_train_263 Q k234 z (bI (anyH D D.1)) (lst D r) (nI (idl D r)) 0 M22) (nI r) M := by
  have n40 := hk.1
  obtain ⟨⟨s1, s2, s3, s4⟩, s5, s6, s7, s8⟩ := hS
  refine q_makeTree hk hr s1 s2 (fun M1 g => ⟨D.1 + 1, ?_⟩)
  obtain ⟨⟨g1, g2⟩, g3, g4, g5, g6, g7⟩ := g
  have str := treT_str (F := Fr D r) (r := r) hk
  have s31 := str.1.2
  -- F grows
  have go : ∀ z i M2, i + z = D.1 → ((∀ k j, M2.1 k j = M1.1 k j) ∧ (∀ k j, k ≠ 284 → M2.2 k j = M1.2 k j) ∧ ∀ q, q < D.1 → M2.2 284 q = if q < i then Fr D (r + 1) q else Fr D r q) → wp_MD_train_263 Q k234 (z + 1) (bI (anyH D D.1)) (lst D r) (nI (idl D r)) (nI i) M2 := by
    intro z
    induction z with
    | zero =>
      intro i M2 hz v
      have e : i = D.1 := by omega
      subst e
      have h14 : M2.1 273 14 = nI r := by rw [v.1, g6 _ _ (by omega) (by omega) (by omega) (by omega) (by omega)]; exact s3
      refine ⟨fun _ => ?_, fun q => absurd ?_ q⟩
      · rw [h14, nI_1]
        obtain ⟨M3, hM3⟩ : ∃ M3, M3 = wi M2 273 14 (nI (r + 1)) := ⟨_, rfl⟩
        rw [← hM3]
        have m1 : ∀ k j, ¬ (k = 273 ∧ j = 14) → M3.1 k j = M1.1 k j := fun k j q => by rw [hM3, wi_ne (by omega)]; exact v.1 k j
        have m2 : ∀ k j, M3.2 k j = M2.2 k j := fun k j => by rw [hM3]; rfl
        have h3 : mdD M3 D := mdD_fr g1 (fun k j q => m1 k j (by omega))
        have h314 : M3.1 273 14 = nI (r + 1) := by rw [hM3, wi_eq]
        have hF3 : ∀ i, i < D.1 → M3.2 284 i = Fr D (r + 1) i := fun i hi => by rw [m2, v.2.2 i hi, if_pos hi]
        refine q_keepLosses (F := Fr D (r + 1)) (t := r + 1) hk (by omega) h3 hF3 h314 (fun M4 l => ?_)
        obtain ⟨l1, l2, l3, l4⟩ := l
        rw [l1, h314, show (13 : Int32) = nI 13 from rfl, nI_add]
        refine ⟨vp_in_nI (by omega) (by omega), ?_⟩
        rw [nI_clamp (by omega), l4]
        have hS4 : rS Ms D (r + 1) M4 := by
          refine ⟨⟨mdD_fr h3 (fun k j _ => l1 k j), fun i hi => by rw [l2 _ _ (by omega)]; exact hF3 i hi, by rw [l1]; exact h314, ?_⟩, fun k hk2 => ?_, fun q hq2 => ?_, fun k j q => ?_, fun k j q => ?_⟩
          · rw [l1, m1 _ _ (by omega), g6 _ _ (by omega) (by omega) (by omega) (by omega) (by omega)]; exact s4
          · by_cases e : k = r + 1
            · subst e; exact ⟨l3, l4⟩
            · rw [l2 _ _ (by omega), l2 _ _ (by omega), m2, m2, v.2.1 _ _ (by omega), v.2.1 _ _ (by omega), g7 _ _ (by omega) (by omega), g7 _ _ (by omega) (by omega)]
              exact s5 k (by omega)
          · by_cases e : q = r
            · subst e
              refine ⟨by rw [l1, m1 _ _ (by omega)]; exact g3, mdT_fr g4 (fun k j a _ _ => by rw [l1, m1 _ _ (by omega)]) (fun k j a _ _ => by rw [l2 _ _ (by omega), m2, v.2.1 _ _ (by omega)]), fun i hi => by rw [l1, m1 _ _ (by omega)]; exact g5 i hi⟩
            · obtain ⟨t1, t2, t3⟩ := s6 q (by omega)
              have q31 := (treT_str (F := Fr D q) (r := q) hk).1.2
              refine ⟨by rw [l1, m1 _ _ (by omega), g6 _ _ (by omega) (by omega) (by omega) (by omega) (by omega)]; exact t1, mdT_fr t2 (fun k j a b c => by rw [l1, m1 _ _ (by omega), g6 _ _ (by omega) (by omega) (by omega) (by omega) (by omega)]) (fun k j a b c => by rw [l2 _ _ (by omega), m2, v.2.1 _ _ (by omega), g7 _ _ (by omega) (by omega)]), fun i hi => by rw [l1, m1 _ _ (by omega), g6 _ _ (by omega) (by omega) (by omega) (by omega) (by omega)]; exact t3 i hi⟩
          · rw [l1, m1 _ _ (by omega), g6 _ _ (by omega) (by omega) (by omega) (by omega) (by omega)]; exact s7 k j q
          · rw [l2 _ _ (by omega), m2, v.2.1 _ _ (by omega), g7 _ _ (by omega) (by omega)]; exact s8 k j q
        have hd4 := hS4.1.1.2.2 8 (by omega)
        have fin : ∀ (x3 : Int64) (x5 : Nat), x3 = lst D (r + 1) → x5 = idl D (r + 1) → wp_MD_train_419 Q k234 (bI (anyH D D.1)) x3 (nI x5) M4 := by
          intro x3 x5 e3 e5
          subst e3
          subst e5
          have nx := hq M4 hS4
          unfold wp_MD_train_419
          rw [hd4]
          refine ⟨fun q => ?_, fun q => ⟨fun q2 => ?_, fun q2 => ⟨fun q3 => ?_, fun q3 => ?_⟩⟩⟩
          · have e : endR D (r + 1) = false := by unfold endR; rw [decide_eq_false (fun z => z q)]; rfl
            rw [e] at nx; exact nx
          · have e : endR D (r + 1) = false := by unfold endR; rw [bI_z q2]; simp
            rw [e] at nx; exact nx
          · have e : endR D (r + 1) = false := by unfold endR; rw [decide_eq_false (p := ¬ nI (idl D (r + 1)) < D.2.2 3 8) (fun z => z q3)]; simp
            rw [e] at nx; exact nx
          · have e : endR D (r + 1) = true := by unfold endR; rw [decide_eq_true q, bI_nz q2, decide_eq_true q3]; rfl
            rw [e] at nx; exact nx
        refine ⟨fun q => ?_, fun q => ?_⟩
        · obtain ⟨e1, e2⟩ := lst_t q
          refine ⟨fun _ => ⟨fun _ => ?_, fun z => absurd rfl z⟩, fun z => absurd rfl z⟩
          rw [nI_1]
          exact fin _ _ e1.symm e2.symm
        · obtain ⟨e1, e2⟩ := lst_f q
          refine ⟨fun z => absurd z (by decide), fun _ => ?_⟩
          rw [l1, h314, show (13 : Int32) = nI 13 from rfl, nI_add]
          refine ⟨vp_in_nI (by omega) (by omega), ?_⟩
          rw [nI_clamp (by omega), l4]
          exact ⟨fun z => absurd z (by decide), fun _ => fin _ 0 e1.symm e2.symm⟩
      · rw [v.1, g1.1]
        exact nI_le (Nat.le_refl _) (by omega)
    | succ z ih =>
      intro i M2 hz v
      have hT2 : mdT M2 r (treT D (Fr D r) r).1 (treT D (Fr D r) r).2.1 := mdT_fr g4 (fun k j _ _ _ => v.1 k j) (fun k j a _ _ => v.2.1 k j (by omega))
      have hD2 : mdD M2 D := mdD_fr g1 (fun k j _ => v.1 k j)
      have h14 : M2.1 273 14 = nI r := by rw [v.1, g6 _ _ (by omega) (by omega) (by omega) (by omega) (by omega)]; exact s3
      have c4 := (hD2.2.1 i (by omega)).1
      have c0 := c4 0 (by omega)
      rw [Nat.add_zero] at c0
      refine ⟨fun q => ?_, fun _ => ⟨vp_in_nI (by omega) (by omega), ?_⟩⟩
      · rw [hD2.1, nI_leI (by omega) (by omega)] at q; omega
      · rw [show (4 : Int32) = nI 4 from rfl, show (1 : Int32) = nI 1 from rfl, show (2 : Int32) = nI 2 from rfl, show (3 : Int32) = nI 3 from rfl, pk_mul, nI_add, nI_add, nI_add]
        refine ⟨vp_in_nI (by omega) (by omega), vp_in_nI (by omega) (by omega), vp_in_nI (by omega) (by omega), vp_in_nI (by omega) (by omega), ?_⟩
        rw [nI_clamp (show 4 * i < 2 ^ 31 by omega), nI_clamp (show 4 * i + 1 < 2 ^ 31 by omega), nI_clamp (show 4 * i + 2 < 2 ^ 31 by omega), nI_clamp (show 4 * i + 3 < 2 ^ 31 by omega), nI_clamp (show i < 2 ^ 31 by omega), c0, c4 1 (by omega), c4 2 (by omega), c4 3 (by omega), h14, v.2.2 i (by omega), if_neg (by omega)]
        refine q_mleafT hr str hT2 ?_
        rw [lfT_congr str (fun c hc => nb_row (D := D) (i := i) hc) 4]
        refine q_maddT hk hD2 hr str hT2 (lfT_lt str 4) ?_
        show wp_MD_train_263 Q k234 (z + 1) _ _ _ (nI i + nI 1) _
        rw [nI_add]
        refine ih (i + 1) _ (by omega) ⟨v.1, fun k j a => by rw [wl_ne (by omega)]; exact v.2.1 k j a, fun q hq2 => ?_⟩
        by_cases e : q = i
        · subst e
          rw [wl_eq, if_pos (by omega)]
          rfl
        · rw [wl_ne (by omega), v.2.2 q hq2]
          by_cases e2 : q < i
          · rw [if_pos e2, if_pos (by omega)]
          · rw [if_neg e2, if_neg (by omega)]
  exact go D.1 0 M1 (by omega) ⟨fun _ _ => rfl, fun _ _ _ => rfl, fun q hq2 => by rw [if_neg (by omega)]; exact g2 q hq2⟩
theorem q_mrounds {Q : Int32 → gM → Prop} {Ms : gM} {D : tD} (hk : okD D) : ∀ z r M, r + z = 12 → rS Ms D r M → (∀ M', rS Ms D (stopR D r z) M' → Q (nI (stopR D r z)) M') → wp_MD_train_234 Q (z + 2) (bI (anyH D D.1)) (lst D r) (nI (idl D r)) 0 M := by
  obtain ⟨ro, -, hro, ero⟩ := okD_nat hk (k := 4) (lo := 0) (hi := 12) (by omega) rfl rfl (by omega) (by omega)
  intro z
  induction z with
  | zero =>
    intro r M hz hS hq
    have : r = 12 := by omega
    subst this
    have e4 := hS.1.1.2.2 4 (by omega)
    refine ⟨fun _ => ?_, fun q => absurd ?_ q⟩
    · show Q (M.1 273 14) M
      rw [hS.1.2.2.1]
      exact hq M hS
    · rw [e4, hS.1.2.2.1, ero]
      exact nI_le hro (by omega)
  | succ z ih =>
    intro r M hz hS hq
    have e4 := hS.1.1.2.2 4 (by omega)
    refine ⟨fun q => ?_, fun q => ⟨fun q2 => absurd rfl q2, fun _ => ?_⟩⟩
    · rw [e4, hS.1.2.2.1] at q
      have e : stopR D r (z + 1) = r := if_pos q
      rw [e] at hq
      show Q (M.1 273 14) M
      rw [hS.1.2.2.1]
      exact hq M hS
    · rw [e4, hS.1.2.2.1] at q
      rw [hS.1.2.2.1]
      refine q_mround hk (by omega) (fun M' hS' => ?_) hS
      have e4' := hS'.1.1.2.2 4 (by omega)
      by_cases c : endR D (r + 1) = true
      · have e : stopR D r (z + 1) = r + 1 := (if_neg q).trans (if_pos c)
        rw [e] at hq
        rw [c]
        have fin : wp_MD_train_457 Q M' := by
          show Q (M'.1 273 14) M'
          rw [hS'.1.2.2.1]
          exact hq M' hS'
        exact ⟨fun _ => fin, fun _ => ⟨fun _ => fin, fun w => absurd w (by decide)⟩⟩
      · have e : stopR D r (z + 1) = stopR D (r + 1) z := (if_neg q).trans (if_neg c)
        rw [e] at hq
        rw [show endR D (r + 1) = false by simpa using c]
        exact ih (r + 1) M' (by omega) hS' hq

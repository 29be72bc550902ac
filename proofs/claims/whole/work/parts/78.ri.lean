/-- the program behind r rounds -/
def rC (Ms : gM) (D : tD) (r : Nat) (M : gM) : Prop := (cdD M D ∧ (∀ i, i < D.1 → M.2 110 i = Fr D r i) ∧ M.1 47 9 = nI r ∧ M.1 47 8 = 1) ∧ ((∀ c, c < 4 → ordM M D c D.1) ∧ atS M 107 (0, 0, 0)) ∧ (∀ k, k ≤ r → M.2 113 k = lsN D (Fr D k) false D.1 ∧ M.2 114 k = lsH D k) ∧ (∀ q, q < r → M.1 (116 + 13 * q) 2 = nI (treT D (Fr D q) q).1 ∧ cdT M (116 + 13 * q) (treT D (Fr D q) q).1 (treT D (Fr D q) q).1 (treT D (Fr D q) q).2.1 D) ∧ (∀ i, i < D.1 → tkR D r i (M.1 111 i)) ∧ (∀ k j, k < 47 ∨ 272 ≤ k → M.1 k j = Ms.1 k j) ∧ ∀ k j, 272 ≤ k → M.2 k j = Ms.2 k j
theorem q_addRows {Q : gM → Prop} {M0 : gM} {D : tD} {F : Nat → Int64} {r : Nat} {X : gT3} (hk : okD D) (hr : r < 12) (hD : cdD M0 D) (h94 : M0.1 94 3 = D.2.2 3 3) (hF : ∀ i, i < D.1 → M0.2 110 i = F i) (hp : ∀ i, i < D.1 → (M0.1 100 i = -1 ↔ prt D r i = false)) (str : strT X.2.1 X.1) (hT : cdT M0 (116 + 13 * r) X.1 X.1 X.2.1 D) (htk : ∀ i, i < D.1 → tkR D r i (M0.1 111 i)) (hq : ∀ M, (∀ a j, a ≠ 111 → M.1 a j = M0.1 a j) → (∀ a j, a ≠ 110 → M.2 a j = M0.2 a j) → (∀ i, i < D.1 → M.2 110 i = nxF D F X.2.1 i) → (∀ i, i < D.1 → tkR D (r + 1) i (M.1 111 i)) → wp_TG_keepLosses Q (wi M 47 9 (nI (r + 1)))) : wp_TG_addTree Q (nI r) M0 := by
  have n40 := hk.1
  have go : ∀ z i M, i + z = D.1 → (∀ a j, a ≠ 111 → M.1 a j = M0.1 a j) → (∀ a j, a ≠ 110 → M.2 a j = M0.2 a j) → (∀ q, q < D.1 → M.2 110 q = if q < i then nxF D F X.2.1 q else F q) → (∀ q, q < D.1 → if q < i then tkR D (r + 1) q (M.1 111 q) else M.1 111 q = M0.1 111 q) → wp_TG_addTree_2 Q (z + 1) (nI r) (nI i) M := by
    intro z
    induction z with
    | zero =>
      intro i M hz v1 v2 v3 v4
      have e : i = D.1 := by omega
      subst e
      refine ⟨fun _ => ?_, fun w => absurd (by rw [v1 _ _ (by omega), hD.1]; exact nI_le (Nat.le_refl _) (by omega)) w⟩
      rw [nI_1]
      refine hq M v1 v2 (fun i hi => by rw [v3 i hi, if_pos hi]) (fun i hi => ?_)
      have := v4 i hi
      rw [if_pos hi] at this
      exact this
    | succ z ih =>
      intro i M hz v1 v2 v3 v4
      have hT' : cdT M (116 + 13 * r) X.1 X.1 X.2.1 D := cdT_fr hT (fun a j q1 q2 => v1 a j (by omega)) (fun a j q1 q2 => v2 a j (by omega))
      have f3 := v3 i (by omega)
      rw [if_neg (by omega)] at f3
      have f4 := v4 i (by omega)
      rw [if_neg (by omega)] at f4
      refine ⟨fun w => ?_, fun _ => ⟨vp_in_nI (by omega) (by omega), vp_in_nI hr (by omega), ?_⟩⟩
      · rw [v1 _ _ (by omega), hD.1, nI_leI (by omega) (by omega)] at w; omega
      rw [nI_clamp (show r < 2 ^ 31 by omega), nI_clamp (show i < 2 ^ 31 by omega), f3]
      refine q_addC (nm := D.2.1 i) (T := X.2.1) (by rw [v1 _ _ (by omega)]; exact h94) str hT' (fun c hc => ⟨by rw [v1 _ _ (by omega)]; exact (hD.2.1 i (by omega)).1 c hc, (hk.2.1 i (by omega)).1 c hc⟩) ?_
      refine ⟨vp_in_nI (by omega) (by omega), ?_⟩
      have e100 : M.1 100 i = M0.1 100 i := v1 _ _ (by omega)
      have stp : ∀ M', (∀ a j, a ≠ 111 → M'.1 a j = M0.1 a j) → (∀ j, j ≠ i → M'.1 111 j = M.1 111 j) → M'.2 = (wl M 110 i (F i + adT D X.2.1 (lfT X.2.1 (D.2.1 i) 4))).2 → tkR D (r + 1) i (M'.1 111 i) → wp_TG_addTree_64 Q (wp_TG_addTree_2 Q (z + 1)) (nI r) (nI i) M' := by
        intro M' u1 u2 u3 u4
        show wp_TG_addTree_2 Q (z + 1) (nI r) (nI i + 1) M'
        rw [nI_1]
        refine ih (i + 1) M' (by omega) u1 (fun a j n => by rw [u3, wl_ne (by omega)]; exact v2 a j n) (fun q hq2 => ?_) (fun q hq2 => ?_)
        · rw [u3]
          by_cases e : q = i
          · subst e
            rw [wl_eq, if_pos (by omega)]
            rfl
          · rw [wl_ne (Or.inr e), v3 q hq2]
            by_cases e2 : q < i
            · rw [if_pos e2, if_pos (by omega)]
            · rw [if_neg e2, if_neg (by omega)]
        · by_cases e : q = i
          · subst e
            rw [if_pos (by omega)]
            exact u4
          · have := v4 q hq2
            rw [u2 q e]
            by_cases e2 : q < i
            · rw [if_pos e2] at this
              rw [if_pos (by omega)]
              exact this
            · rw [if_neg e2] at this
              rw [if_neg (by omega)]
              exact this
      have m100 : (wl M 110 i (F i + adT D X.2.1 (lfT X.2.1 (D.2.1 i) 4))).1 100 (nI i).toNatClampNeg = M0.1 100 i := by
        rw [nI_clamp (by omega)]
        exact e100
      rw [m100]
      refine ⟨fun w => ⟨fun _ => stp _ v1 (fun _ _ => rfl) rfl ?_, fun y => absurd rfl y⟩, fun w => ⟨fun y => absurd y (by decide), fun _ => stp _ (fun a j n => by rw [wi_ne (Or.inl n)]; exact v1 a j n) (fun j n => by rw [wi_ne (by omega)]; rfl) rfl ?_⟩⟩
      · show tkR D (r + 1) i (M.1 111 i)
        rw [f4]
        exact tkR_n (htk i (by omega)) ((hp i (by omega)).mp w)
      · rw [wi_eq]
        show tkR D (r + 1) i (M.1 111 i ||| _)
        rw [f4]
        refine tkR_y hr (htk i (by omega)) ?_
        cases h : prt D r i
        · exact absurd ((hp i (by omega)).mpr h) w
        · rfl
  exact ⟨D.1 + 1, go D.1 0 M0 (by omega) (fun _ _ _ => rfl) (fun _ _ _ => rfl) (fun q hq2 => by rw [if_neg (by omega)]; exact hF q hq2) (fun q hq2 => by rw [if_neg (by omega)])⟩
theorem Fr_g {D : tD} {r : Nat} {X : gT3} (h : X = treT D (Fr D r) r) : Fr D (r + 1) = nxF D (Fr D r) X.2.1 := h ▸ rfl
theorem Fr_1 {D : tD} {r : Nat} : Fr D (r + 1) = nxF D (Fr D r) (treT D (Fr D r) r).2.1 := Fr_g rfl
theorem q_roundC {Q : gM → Prop} {Ms M : gM} {D : tD} {r : Nat} (hk : okD D) (hr : r < 12) (hS : rC Ms D r M) (hq : ∀ M', rC Ms D (r + 1) M' → Q M') : wp_GR_growTree (fun M8 => wp_TG_addTree Q (nI r) M8) (116 + 13 * r) (nI r) M := by
  have n40 := hk.1
  obtain ⟨⟨s1, s2, s3, s4⟩, ⟨o1, o2⟩, s5, s6, s7, s8, s9⟩ := hS
  refine q_growC (F := Fr D r) hk (by omega) s1 o1 o2 s2 (fun M8 g => ?_)
  have str := treT_str (F := Fr D r) (r := r) hk
  have tp := fun i => tre_prt (F := Fr D r) (r := r) hk i
  have eF := Fr_1 (D := D) (r := r)
  obtain ⟨X, hX⟩ : ∃ X, X = treT D (Fr D r) r := ⟨_, rfl⟩
  rw [← hX] at g str tp eF
  obtain ⟨g1, g2, g3, g4⟩ := g
  refine q_addRows (F := Fr D r) (X := X) hk hr g1.1 (g1.1.2.2 3 (by omega)) (fun i hi => (g4.2 _ _ (by omega) (by omega) (by omega) (by omega)).trans (s2 i hi)) (fun i hi => by rw [g1.2.2.1 i hi]; exact tp i) str g3 (fun i hi => by rw [g4.1 _ _ (by omega) (by omega) (by omega) (by omega)]; exact s7 i hi) (fun Ma a1 a2 a3 a4 => ?_)
  obtain ⟨Mb, hMb⟩ : ∃ Mb, Mb = wi Ma 47 9 (nI (r + 1)) := ⟨_, rfl⟩
  rw [← hMb]
  have b1 : ∀ a j, ¬ (a = 47 ∧ j = 9) → a ≠ 111 → Mb.1 a j = M8.1 a j := fun a j q1 q2 => by rw [hMb, wi_ne (by omega)]; exact a1 a j q2
  have b2 : ∀ a j, Mb.2 a j = Ma.2 a j := fun a j => by rw [hMb]; rfl
  have b9 : Mb.1 47 9 = nI (r + 1) := by rw [hMb, wi_eq]
  have b111 : ∀ j, Mb.1 111 j = Ma.1 111 j := fun j => by rw [hMb, wi_ne (by omega)]
  have hDb : cdD Mb D := cdD_fr n40 g1.1 (fun k j q => b1 k j (by omega) (by omega))
  rw [← eF] at a3
  refine q_lossC (F := Fr D (r + 1)) (t := r + 1) hk (by omega) hDb (fun i hi => by rw [b2]; exact a3 i hi) b9 (fun M' l => hq M' ?_)
  obtain ⟨l1, l2, l3, l4⟩ := l
  refine ⟨⟨cdD_fr n40 hDb (fun k j _ => l1 k j), fun i hi => ?_, by rw [l1]; exact b9, ?_⟩, ⟨fun c hc => ordM_fr (g1.2.1 c hc) (fun q _ => by rw [l1]; exact b1 _ _ (by omega) (by omega)), ?_⟩, fun k hk2 => ?_, fun q hq2 => ?_, fun i hi => by rw [l1, b111]; exact a4 i hi, fun k j q => ?_, fun k j q => ?_⟩
  · rw [l2 _ _ (by omega), b2]; exact a3 i hi
  · rw [l1, b1 _ _ (by omega) (by omega), g4.1 _ _ (by omega) (by omega) (by omega) (by omega)]; exact s4
  · have z := g1.2.2.2.2
    exact ⟨by rw [l1, b1 _ _ (by omega) (by omega)]; exact z.1, by rw [l1, b1 _ _ (by omega) (by omega)]; exact z.2.1, by rw [l2 _ _ (by omega), b2, a2 _ _ (by omega)]; exact z.2.2⟩
  · by_cases e : k = r + 1
    · subst e
      exact ⟨l3, l4⟩
    · rw [l2 _ _ (by omega), l2 _ _ (by omega), b2, b2, a2 _ _ (by omega), a2 _ _ (by omega), g4.2 _ _ (by omega) (by omega) (by omega) (by omega), g4.2 _ _ (by omega) (by omega) (by omega) (by omega)]
      exact s5 k (by omega)
  · have fr1 : ∀ a j, 116 ≤ a → M'.1 a j = M8.1 a j := fun a j h => by rw [l1]; exact b1 a j (by omega) (by omega)
    have fr2 : ∀ a j, 116 ≤ a → M'.2 a j = M8.2 a j := fun a j h => by rw [l2 _ _ (by omega), b2]; exact a2 a j (by omega)
    by_cases e : q = r
    · subst e
      rw [← hX]
      exact ⟨by rw [fr1 _ _ (by omega)]; exact g2, cdT_fr g3 (fun a j q1 q2 => fr1 a j (by omega)) (fun a j q1 q2 => fr2 a j (by omega))⟩
    · obtain ⟨y1, y2⟩ := s6 q (by omega)
      refine ⟨by rw [fr1 _ _ (by omega), g4.1 _ _ (by omega) (by omega) (by omega) (by omega)]; exact y1, cdT_fr y2 (fun a j q1 q2 => ?_) (fun a j q1 q2 => ?_)⟩
      · rw [fr1 _ _ (by omega), g4.1 _ _ (by omega) (by omega) (by omega) (by omega)]
      · rw [fr2 _ _ (by omega), g4.2 _ _ (by omega) (by omega) (by omega) (by omega)]
  · rw [l1, b1 _ _ (by omega) (by omega), g4.1 _ _ (by omega) (by omega) (by omega) (by omega)]; exact s8 k j q
  · rw [l2 _ _ (by omega), b2, a2 _ _ (by omega), g4.2 _ _ (by omega) (by omega) (by omega) (by omega)]; exact s9 k j q
/-- how long the program waits for a gain -/
def patC (D : tD) : Int32 := if anyH D D.1 = true then D.2.2 3 8 else 0
theorem p_min {Q : Int64 → gM → Prop} {M : gM} {D : tD} {r : Nat} (hq : Q (lst D (r + 1)) M) : wp_JM_min Q (lst D r) (lsH D (r + 1)) M := by
  by_cases c : lst D r ≤ lsH D (r + 1)
  · rw [(lst_t c).1] at hq
    refine ⟨fun w => ?_, fun _ => hq⟩
    exact absurd c (fun c => i64_nlt.mpr c w)
  · rw [(lst_f c).1] at hq
    refine ⟨fun _ => hq, fun w => absurd (i64_nlt.mp w) c⟩
theorem q_roundsC {Q : gM → Prop} {Ms : gM} {D : tD} (hk : okD D) : ∀ z r M, r + z = 12 → rC Ms D r M → (∀ M', rC Ms D (stopR D r z) M' → Q M') → wp_TG_run_62 Q (z + 1) (patC D) (lst D r) (nI (idl D r)) (nI r) M := by
  obtain ⟨ro, -, hro, ero⟩ := okD_nat hk (k := 4) (lo := 0) (hi := 12) (by omega) rfl rfl (by omega) (by omega)
  intro z
  induction z with
  | zero =>
    intro r M hz hS hq
    have : r = 12 := by omega
    subst this
    refine ⟨fun _ => hq M hS, fun q => absurd ?_ q⟩
    rw [hS.1.1.2.2 4 (by omega), ero]
    exact nI_le hro (by omega)
  | succ z ih =>
    intro r M hz hS hq
    refine ⟨fun q => ?_, fun q => ⟨fun w => ?_, fun _ => ⟨vp_in_nI (by omega) (by omega), ?_⟩⟩⟩
    · rw [hS.1.1.2.2 4 (by omega)] at q
      have e : stopR D r (z + 1) = r := if_pos q
      rw [e] at hq
      exact hq M hS
    · rw [show (12 : Int32) = nI 12 from rfl, nI_leI (by omega) (by omega)] at w; omega
    rw [hS.1.1.2.2 4 (by omega)] at q
    rw [nI_clamp (show r < 2 ^ 31 by omega)]
    refine q_roundC hk (by omega) hS (fun M' hS' => ?_)
    have h9 := hS'.1.2.2.1
    have h114 := (hS'.2.2.1 (r + 1) (Nat.le_refl _)).2
    rw [h9, nI_clamp (show r + 1 < 2 ^ 31 by omega), h114]
    have fin : ∀ s0, s0 = nI (idl D (r + 1)) → wp_TG_run_131 Q (wp_TG_run_62 Q (z + 1)) (patC D) (lst D r) (nI r) s0 M' := by
      intro s0 hs0
      subst hs0
      unfold wp_TG_run_131
      rw [h9, nI_clamp (show r + 1 < 2 ^ 31 by omega), h114]
      refine ⟨vp_in_nI (by omega) (by omega), p_min ?_⟩
      have on : ¬ endR D (r + 1) = true → wp_TG_run_164 Q (wp_TG_run_62 Q (z + 1)) (patC D) (lst D (r + 1)) (nI (idl D (r + 1))) (nI r) M' := by
        intro c
        have e : stopR D r (z + 1) = stopR D (r + 1) z := (if_neg q).trans (if_neg c)
        rw [e] at hq
        show wp_TG_run_62 Q (z + 1) (patC D) (lst D (r + 1)) (nI (idl D (r + 1))) (nI r + 1) M'
        rw [nI_1]
        exact ih (r + 1) M' (by omega) hS' hq
      refine ⟨fun c => on (fun y => ?_), fun c => ⟨fun c2 => on (fun y => ?_), fun c2 => ?_⟩⟩
      · unfold endR at y
        rw [Bool.and_eq_true, Bool.and_eq_true, decide_eq_true_iff] at y
        unfold patC at c
        rw [if_pos y.2.1] at c
        exact y.1 c
      · unfold endR at y
        rw [Bool.and_eq_true, Bool.and_eq_true, decide_eq_true_iff, decide_eq_true_iff] at y
        unfold patC at c2
        rw [if_pos y.2.1] at c2
        exact y.2.2 c2
      · have c3 : endR D (r + 1) = true := by
          unfold patC at c c2
          by_cases a : anyH D D.1 = true
          · rw [if_pos a] at c c2
            unfold endR
            rw [decide_eq_true c, a, decide_eq_true c2]
            rfl
          · rw [if_neg a] at c
            exact absurd (by decide) c
        have e : stopR D r (z + 1) = r + 1 := (if_neg q).trans (if_pos c3)
        rw [e] at hq
        exact hq M' hS'
    refine ⟨vp_in_nI (by omega) (by omega), fun c => fin _ ?_, fun c => fin _ ?_⟩
    · rw [(lst_t c).2, nI_1]
    · rw [(lst_f c).2]
      rfl

/-! ===== training: both ===== -/
theorem stopR_le {D : tD} : ∀ z r, stopR D r z ≤ r + z := by
  intro z
  induction z with
  | zero => exact fun r => Nat.le_refl r
  | succ z ih =>
    intro r
    show (if D.2.2 3 4 ≤ nI r then r else if endR D (r + 1) = true then r + 1 else stopR D (r + 1) z) ≤ r + (z + 1)
    by_cases c : D.2.2 3 4 ≤ nI r
    · rw [if_pos c]; omega
    · rw [if_neg c]
      by_cases c2 : endR D (r + 1) = true
      · rw [if_pos c2]; omega
      · rw [if_neg c2]
        have := ih (r + 1); omega
theorem dtM_ok {M : gM} {n : Nat} (hT : simT M n) (hS : simS M) : okD (dtM M n) := by
  obtain ⟨t0, t1, t2, t3⟩ := hT
  refine ⟨t0, fun i hi => ?_, fun k hk => ?_⟩
  · obtain ⟨g1, g2, g3, g4⟩ := t3 i hi
    refine ⟨fun c hc => ?_, ?_, ?_, ?_⟩
    · show isC (M.1 274 (4 * i + c)) = true
      rw [← (g1 c hc).1]; exact (g1 c hc).2
    · show inR (-100) 100 (M.1 275 i) = true
      rw [← g2.1]; exact g2.2
    · show ∃ v, 1 ≤ v ∧ v ≤ 8 ∧ M.1 276 i = nI v
      rw [← g3.1]
      exact inR_nat (lo := 1) (hi := 8) (by omega) (by omega) g3.2
    · show M.1 277 i = 0 ∨ M.1 277 i = 1
      rw [← g4.1]; exact g4.2
  · show inR (c_LOWEST k) (c_HIGHEST k) (M.1 278 k) = true
    rw [← (hS k hk).1]; exact (hS k hk).2
theorem dtM_fr {M M' : gM} {n : Nat} (e : ∀ k j, 272 ≤ k → M'.1 k j = M.1 k j) : dtM M' n = dtM M n := by
  unfold dtM
  refine Prod.ext rfl (Prod.ext ?_ ?_)
  · funext i c
    exact e _ _ (by omega)
  · funext k i
    show (if _ then _ else if _ then _ else if _ then _ else _) = _
    rw [e 275 _ (by omega), e 276 _ (by omega), e 277 _ (by omega), e 278 _ (by omega)]
/-- one tree, in both -/
theorem treeS_of {M : gM} {D : tD} {r s : Nat} {T : gM} (hs : strT T s) (h2 : M.1 283 2 = D.2.2 3 2) (c1 : M.1 (116 + 13 * r) 2 = nI s) (c2 : cdT M (116 + 13 * r) s s T D) (m1 : M.1 287 r = nI s) (m2 : mdT M r s T) : treeS M r s := by
  have m0 := m2 0 hs.1.1
  rw [Nat.add_zero] at m0
  refine ⟨hs.1.1, hs.1.2, c1, m1, m0.2.1.2.2.trans hs.2.1, fun i hi => ⟨?_, ?_⟩⟩
  · obtain ⟨⟨a0, a1, a2, a3⟩, a6, b1⟩ := c2.1 i hi
    obtain ⟨⟨a4, a5⟩, b0, bv⟩ := c2.2 i hi hi
    obtain ⟨⟨x0, x1, x2, x3⟩, ⟨x4, x5, x6⟩, y0, y1⟩ := m2 i hi
    unfold nodeE
    rw [x0, x1, x2, x3, x4, x5, x6, y0, y1, h2]
    exact ⟨⟨a0, a1, a2, a3⟩, ⟨a4, a5, a6⟩, b0, bv, b1⟩
  · obtain ⟨⟨x0, x1, x2, x3⟩, ⟨x4, x5, x6⟩, y0, y1⟩ := m2 i hi
    obtain ⟨k1, k2, k3⟩ := hs.2.2 i hi
    refine ⟨by rw [x5]; exact k1, by rw [x4]; exact k2, ?_⟩
    rw [x0]
    rcases k3 with k3 | ⟨c, l, m, d, k3⟩
    · exact Or.inl k3
    · right
      obtain ⟨z1, z2, z3, z4, z5, z6, z7, z8⟩ := k3
      refine ⟨c, l, m, d, ⟨z1.1, x0.trans z1.2⟩, ⟨x3.trans z2.1, z2.2⟩, by rw [x2]; exact z3, ⟨x4.trans z4.1, z4.2⟩, z5, x6.trans z6, (m2 l (by omega)).2.1.2.2.trans z7, (m2 (l + 1) (by omega)).2.1.2.2.trans z8⟩
theorem TF_of {Ms M1 M2 : gM} {D : tD} {t : Nat} (hk : okD D) (ht : t ≤ 12) (hC : rC Ms D t M1) (hR : rS M1 D t M2) : TF M2 D.1 t := by
  have n40 := hk.1
  obtain ⟨⟨c1, c2, c3, c4⟩, ⟨o1, o2⟩, c5, c6, c7, c8, c9⟩ := hC
  obtain ⟨⟨r1, r2, r3, r4⟩, r5, r6, r7, r8⟩ := hR
  have e1 : ∀ k j, k < 272 → M2.1 k j = M1.1 k j := fun k j h => r7 k j (by omega)
  have e2 : ∀ k j, k < 272 → M2.2 k j = M1.2 k j := fun k j h => r8 k j (by omega)
  refine ⟨⟨by rw [e1 _ _ (by omega)]; exact c4, r4⟩, ⟨n40, by rw [e1 _ _ (by omega)]; exact c1.1, r1.1⟩, ⟨ht, by rw [e1 _ _ (by omega)]; exact c3, r3⟩, fun i hi => ⟨fun c hc => ?_, ?_, ?_⟩, fun k hk2 => ?_, fun k hk2 => ?_, fun r hr => ?_⟩
  · rw [e1 _ _ (by omega), (c1.2.1 i hi).1 c hc, (r1.2.1 i hi).1 c hc]
    exact ⟨rfl, (hk.2.1 i hi).1 c hc⟩
  · rw [e1 _ _ (by omega), (c1.2.1 i hi).2.2.2, (r1.2.1 i hi).2.2.2]
    exact ⟨rfl, (hk.2.1 i hi).2.2.2⟩
  · obtain ⟨mk, h1, h2, h3⟩ := c7 i hi
    refine ⟨mk, h1, by rw [e1 _ _ (by omega)]; exact h2, fun r hr => ?_⟩
    rw [h3 r hr, (r6 r hr).2.2 i hi]
    cases prt D r i
    · exact ⟨fun z => (by cases z), fun z => absurd rfl z⟩
    · exact ⟨fun _ => (by decide), fun _ => rfl⟩
  · rw [e1 _ _ (by omega), c1.2.2 k hk2, r1.2.2 k hk2]
    exact ⟨rfl, hk.2.2 k hk2⟩
  · rw [e2 113 _ (by omega), e2 114 _ (by omega), (c5 k hk2).1, (c5 k hk2).2, (r5 k hk2).1, (r5 k hk2).2]
    exact ⟨rfl, rfl⟩
  · have str := treT_str (F := Fr D r) (r := r) hk
    have x1 := c6 r hr
    have x2 := r6 r hr
    generalize treT D (Fr D r) r = X at str x1 x2
    exact ⟨X.1, treeS_of str (r1.2.2 2 (by omega)) (by rw [e1 _ _ (by omega)]; exact x1.1) (cdT_fr x1.2 (fun a j q1 q2 => e1 a j (by omega)) (fun a j q1 q2 => e2 a j (by omega))) x2.1 x2.2.1⟩
theorem s_train {P : Int32 → Int32 → gM → Prop} {M : gM} (hS : Sim M) (hN : atS M 107 (0, 0, 0)) (hP : ∀ r M2, Sim M2 → atS M2 107 (0, 0, 0) → P r r M2) : wp_BF_train (fun r M1 => wp_MD_train (fun r' M2 => P r r' M2) M1) M := by
  obtain ⟨⟨n, hT⟩, hs, hr⟩ := id hS
  have hk := dtM_ok hT hs
  obtain ⟨t0, t1, t2, t3⟩ := id hT
  have ec : cntN (M.1 (1 + 44)) n = cntN (M.1 277) n := cntN_congr fun i hi => (t3 i hi).2.2.2.1
  have cle := cntN_le (M.1 277) n
  refine q_held (b := 1) t0 t1 ?_
  rw [ec, t1]
  refine ⟨fun c => ?_, fun c => ?_⟩
  · have c' : ¬ cntN (M.1 277) n = n := fun z => c (by rw [z])
    refine q_runC (D := dtM M n) hk t1 (fun i hi => ?_) (fun k hk2 => (hs k hk2).1) hN (fun M1 hC => ?_)
    · obtain ⟨g1, g2, g3, g4⟩ := t3 i hi
      exact ⟨fun c hc => (g1 c hc).1, g2.1, g3.1, g4.1⟩
    · have eD : dtM M1 n = dtM M n := dtM_fr (fun k j q => hC.2.2.2.2.2.1 k j (by omega))
      have hC9 := hC.1.2.2.1
      rw [hC9]
      refine q_mtrain (n := n) (by rw [eD]; exact hk) ((hC.2.2.2.2.2.1 _ _ (by omega)).trans t2) (fun z => ?_) (fun _ M2 hR => ?_)
      · exact absurd ((cntN_congr fun i hi => (hC.2.2.2.2.2.1 277 i (by omega)).symm).trans z) c'
      · rw [eD] at hR ⊢
        have f1 : ∀ k j, k < 47 ∨ (k = 273 ∧ j = 0) ∨ (274 ≤ k ∧ k ≤ 278) → M2.1 k j = M.1 k j := fun k j q => (hR.2.2.2.1 k j (by omega)).trans (hC.2.2.2.2.2.1 k j (by omega))
        refine hP _ M2 ⟨⟨n, simT_fr hT (fun k j q => f1 k j (by omega))⟩, simS_fr hs (fun k j q => f1 k j (by omega)), Or.inr ⟨n, stopR (dtM M n) 0 12, TF_of hk (by have := stopR_le (D := dtM M n) 12 0; omega) hC hR⟩⟩ ?_
        have z := hC.2.1.2
        exact ⟨(hR.2.2.2.1 _ _ (by omega)).trans z.1, (hR.2.2.2.1 _ _ (by omega)).trans z.2.1, (hR.2.2.2.2 _ _ (by omega)).trans z.2.2⟩
  · have c' : cntN (M.1 277) n = n := by
      rw [nI_eq (by omega) (by omega)] at c
      exact c
    exact q_mtrain (n := n) hk t2 (fun _ => hP _ M hS hN) (fun z => absurd c' z)

/-- rows drawn, the first i -/
def dR (D : tD) (r : Nat) (Ms : gM) (i : Nat) (M : gM) : Prop := (∀ k j, k ≠ 297 → ¬ (k = 286 ∧ 40 * r ≤ j ∧ j < 40 * r + 40) → M.1 k j = Ms.1 k j) ∧ (∀ k j, M.2 k j = Ms.2 k j) ∧ ∀ q, q < i → M.1 297 q = nd0 D r q ∧ M.1 286 (40 * r + q) = bI (prt D r q)
theorem nar_bI (b : Bool) : vp_nar .boolean (bI b) = bI b := by cases b <;> decide
/-- behind a round of the reference: the tree, who took part -/
def mTr (Ms : gM) (r : Nat) (D : tD) (F : Nat → Int64) (M : gM) : Prop := (mdD M D ∧ ∀ i, i < D.1 → M.2 284 i = F i) ∧ M.1 287 r = nI (treT D F r).1 ∧ mdT M r (treT D F r).1 (treT D F r).2.1 ∧ (∀ q, q < D.1 → M.1 286 (40 * r + q) = bI (prt D r q)) ∧ (∀ k j, ¬ (k = 273 ∧ (j = 30 ∨ j = 31)) → ¬ (k = 287 ∧ j = r) → ¬ ((288 ≤ k ∧ k ≤ 294) ∧ 32 * r ≤ j ∧ j < 32 * r + 32) → k ≠ 297 → ¬ (k = 286 ∧ 40 * r ≤ j ∧ j < 40 * r + 40) → M.1 k j = Ms.1 k j) ∧ ∀ k j, ¬ (k = 273 ∧ j = 29) → ¬ ((k = 295 ∨ k = 296) ∧ 32 * r ≤ j ∧ j < 32 * r + 32) → M.2 k j = Ms.2 k j
theorem q_makeTree {Q : gM → Prop} {Ms : gM} {D : tD} {F : Nat → Int64} {r : Nat} (hk : okD D) (hr : r < 12) (hD : mdD Ms D) (hF : ∀ i, i < D.1 → Ms.2 284 i = F i) (hq : ∀ M', mTr Ms r D F M' → Q M') : wp_MD_makeTree Q (nI r) Ms := by
  have n40 := hk.1
  have go : ∀ z i M, i + z = D.1 → dR D r Ms i M → wp_MD_makeTree_2 Q (z + 1) (nI r) (nI i) M := by
    intro z
    induction z with
    | zero =>
      intro i M hz v
      have e : i = D.1 := by omega
      subst e
      refine ⟨fun _ => ⟨vp_in_nI hr (by omega), ?_⟩, fun q => absurd ?_ q⟩
      · rw [nI_clamp (by omega)]
        obtain ⟨M1, hM1⟩ : ∃ M1, M1 = wi M 287 r 1 := ⟨_, rfl⟩
        rw [← hM1]
        have m1 : ∀ k j, ¬ (k = 287 ∧ j = r) → M1.1 k j = M.1 k j := fun k j q => by rw [hM1, wi_ne (by omega)]
        have m2 : ∀ k j, M1.2 k j = M.2 k j := fun k j => by rw [hM1]; rfl
        have hX1 : mX M1 D F (nd0 D r) := by
          refine ⟨⟨?_, fun i hi => ?_, fun k hk2 => ?_⟩, fun i hi => ?_, fun i hi => ?_⟩
          · rw [m1 _ _ (by omega), v.1 _ _ (by omega) (by omega)]; exact hD.1
          · rw [m1 280 _ (by omega), m1 281 _ (by omega), m1 282 _ (by omega), v.1 280 _ (by omega) (by omega), v.1 281 _ (by omega) (by omega), v.1 282 _ (by omega) (by omega)]
            exact ⟨fun c hc => by rw [m1 _ _ (by omega), v.1 _ _ (by omega) (by omega)]; exact (hD.2.1 i hi).1 c hc, (hD.2.1 i hi).2⟩
          · rw [m1 _ _ (by omega), v.1 _ _ (by omega) (by omega)]; exact hD.2.2 k hk2
          · rw [m2, v.2.1]; exact hF i hi
          · rw [m1 _ _ (by omega)]; exact (v.2.2 i hi).1
        refine q_layNode (k := 0) hk hX1 hr (by omega) (fun M2 l2 => ⟨32, ?_⟩)
        have g0 : mGr M1 r D F (growT D F r (X0 D F r) 0) M2 := ⟨layR_mX l2 hX1, by rw [l2.1 _ _ (by omega) (by omega), hM1, wi_eq]; rfl, layR_mdT (s := 0) l2 (fun i hi => absurd hi (by omega)), layR_frG (by omega) l2⟩
        refine q_grow (M0 := M1) hk hr (X0_inv hk) (fun M3 g => ?_) 31 0 M2 (by omega) g0
        have g : mGr M1 r D F (treT D F r) M3 := g
        refine hq M3 ⟨⟨g.1.1, g.1.2.1⟩, g.2.1, g.2.2.1, fun q hq2 => ?_, fun k j a b c d e => ?_, fun k j a b => ?_⟩
        · rw [g.2.2.2.1 _ _ (by omega) (by omega) (by omega) (by omega), m1 _ _ (by omega)]; exact (v.2.2 q hq2).2
        · rw [g.2.2.2.1 k j a b c d, m1 _ _ b, v.1 k j d e]
        · rw [g.2.2.2.2 k j a b, m2, v.2.1]
      · rw [v.1 _ _ (by omega) (by omega), hD.1]
        exact nI_le (Nat.le_refl _) (by omega)
    | succ z ih =>
      intro i M hz v
      have last : ∀ b, prt D r i = b → wp_MD_makeTree_44 Q (wp_MD_makeTree_2 Q (z + 1)) (nI r) (nI i) (bI b) M := by
        intro b hb
        unfold wp_MD_makeTree_44
        rw [show (40 : Int32) = nI 40 from rfl, pk_mul, nI_add, nar_bI]
        refine ⟨vp_in_nI (by omega) (by omega), ?_⟩
        rw [nI_clamp (by omega)]
        have fin : ∀ t, nd0 D r i = t → wp_MD_makeTree_71 Q (wp_MD_makeTree_2 Q (z + 1)) (nI r) (nI i) t (nI i) (wi M 286 (40 * r + i) (bI b)) := by
          intro t ht
          refine ⟨vp_in_nI (by omega) (by omega), ?_⟩
          rw [nI_clamp (by omega), nI_1]
          refine ih (i + 1) _ (by omega) ⟨fun k j a c => ?_, v.2.1, fun q hq2 => ?_⟩
          · rw [wi_ne (by omega), wi_ne (by omega)]; exact v.1 k j a c
          · by_cases e : q = i
            · subst e
              refine ⟨by rw [wi_eq, ht], ?_⟩
              rw [wi_ne (by omega), wi_eq, hb]
            · rw [wi_ne (by omega), wi_ne (by omega), wi_ne (by omega), wi_ne (by omega)]
              exact v.2.2 q (by omega)
        refine ⟨fun q => fin _ ?_, fun q => fin _ ?_⟩
        · unfold nd0
          rw [hb, bI_z q, if_neg (by decide)]
        · unfold nd0
          rw [hb, bI_nz q, if_pos rfl]
      refine ⟨fun q => ?_, fun _ => ⟨vp_in_nI (by omega) (by omega), ?_⟩⟩
      · rw [v.1 _ _ (by omega) (by omega), hD.1, nI_leI (by omega) (by omega)] at q; omega
      · rw [nI_clamp (by omega), v.1 282 _ (by omega) (by omega), (hD.2.1 i (by omega)).2.2.2]
        refine ⟨fun q => last false ?_, fun q => p_mdrawn ?_⟩
        · unfold prt
          rw [decide_eq_false q]
          rfl
        · rw [v.1 283 _ (by omega) (by omega), v.1 283 _ (by omega) (by omega), hD.2.2 10 (by omega), hD.2.2 6 (by omega)]
          refine ⟨fun q2 => last false ?_, fun q2 => last true ?_⟩
          · unfold prt
            rw [decide_eq_true q, decide_eq_false (p := ¬ D.2.2 3 6 ≤ drw (D.2.2 3 10) (64 * nI r + nI i)) (fun z => z q2)]
            rfl
          · unfold prt
            rw [decide_eq_true q, decide_eq_true q2]
            rfl
  exact ⟨D.1 + 1, go D.1 0 Ms (by omega) ⟨fun _ _ _ _ => rfl, fun _ _ => rfl, fun q hq2 => absurd hq2 (by omega)⟩⟩
/-- loss of a kind of rows -/
def lsN (D : tD) (F : Nat → Int64) (hb : Bool) : Nat → Int64
  | 0 => 0
  | i + 1 => lsN D F hb i + (if decide (¬ D.2.2 2 i = 0) = hb then (D.2.2 1 i).toInt64 * (F i - 256 * (D.2.2 0 i).toInt64) * (F i - 256 * (D.2.2 0 i).toInt64) else 0)
theorem lsN_t {D : tD} {F : Nat → Int64} {hb : Bool} {i : Nat} (h : decide (¬ D.2.2 2 i = 0) = hb) : lsN D F hb (i + 1) = lsN D F hb i + (D.2.2 1 i).toInt64 * (F i - 256 * (D.2.2 0 i).toInt64) * (F i - 256 * (D.2.2 0 i).toInt64) := by show _ + (if _ then _ else _) = _; rw [if_pos h]
theorem lsN_f {D : tD} {F : Nat → Int64} {hb : Bool} {i : Nat} (h : ¬ decide (¬ D.2.2 2 i = 0) = hb) : lsN D F hb (i + 1) = lsN D F hb i := by show _ + (if _ then _ else _) = _; rw [if_neg h, Int64.add_zero]
/-- the losses behind t trees laid in -/
def lsR (Ms : gM) (t : Nat) (a b : Int64) (M : gM) : Prop := (∀ k j, M.1 k j = Ms.1 k j) ∧ (∀ k j, ¬ (k = 285 ∧ (j = t ∨ j = 13 + t)) → M.2 k j = Ms.2 k j) ∧ M.2 285 t = a ∧ M.2 285 (13 + t) = b
theorem q_keepLosses {Q : gM → Prop} {Ms : gM} {D : tD} {F : Nat → Int64} {t : Nat} (hk : okD D) (ht : t ≤ 12) (hD : mdD Ms D) (hF : ∀ i, i < D.1 → Ms.2 284 i = F i) (h14 : Ms.1 273 14 = nI t) (hq : ∀ M', lsR Ms t (lsN D F false D.1) (lsN D F true D.1) M' → Q M') : wp_MD_keepLosses Q Ms := by
  have n40 := hk.1
  have go : ∀ z i M, i + z = D.1 → lsR Ms t (lsN D F false i) (lsN D F true i) M → wp_MD_keepLosses_25 Q (z + 1) (nI i) M := by
    intro z
    induction z with
    | zero =>
      intro i M hz v
      have e : i = D.1 := by omega
      subst e
      refine ⟨fun _ => hq M v, fun q => absurd ?_ q⟩
      rw [v.1, hD.1]
      exact nI_le (Nat.le_refl _) (by omega)
    | succ z ih =>
      intro i M hz v
      obtain ⟨-, d1, d2, d3⟩ := hD.2.1 i (by omega)
      refine ⟨fun q => ?_, fun _ => ⟨vp_in_nI (by omega) (by omega), ?_⟩⟩
      · rw [v.1, hD.1, nI_leI (by omega) (by omega)] at q; omega
      · rw [nI_clamp (by omega), v.1, v.1, v.1, v.2.1 284 _ (by omega), h14, d1, d3, hF i (by omega), show (13 : Int32) = nI 13 from rfl, nI_add]
        refine ⟨fun q => ⟨vp_in_nI (by omega) (by omega), vp_in_nI (by omega) (by omega), ?_⟩, fun q => ⟨vp_in_nI (by omega) (by omega), vp_in_nI (by omega) (by omega), ?_⟩⟩
        · rw [nI_clamp (by omega), nI_clamp (by omega), v.1, d2, v.2.2.1, nI_1]
          have e : decide (¬ D.2.2 2 i = 0) = false := decide_eq_false (fun z => z q)
          rw [← lsN_t (F := F) e]
          refine ih (i + 1) _ (by omega) ⟨v.1, fun k j a => by rw [wl_ne (by omega)]; exact v.2.1 k j a, wl_eq, ?_⟩
          rw [wl_ne (by omega), v.2.2.2, lsN_f (by rw [e]; decide)]
        · rw [nI_clamp (by omega), nI_clamp (by omega), v.1, d2, v.2.2.2, nI_1]
          have e : decide (¬ D.2.2 2 i = 0) = true := decide_eq_true q
          rw [← lsN_t (F := F) e]
          refine ih (i + 1) _ (by omega) ⟨v.1, fun k j a => by rw [wl_ne (by omega)]; exact v.2.1 k j a, ?_, wl_eq⟩
          rw [wl_ne (by omega), v.2.2.1, lsN_f (by rw [e]; decide)]
  unfold wp_MD_keepLosses
  rw [h14, show (13 : Int32) = nI 13 from rfl, nI_add]
  refine ⟨vp_in_nI (by omega) (by omega), vp_in_nI (by omega) (by omega), D.1 + 1, ?_⟩
  rw [nI_clamp (by omega), nI_clamp (by omega)]
  refine go D.1 0 _ (by omega) ⟨fun _ _ => rfl, fun k j a => by rw [wl_ne (by omega), wl_ne (by omega)], ?_, wl_eq⟩
  rw [wl_ne (by omega)]
  exact wl_eq

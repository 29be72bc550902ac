theorem q_split {Q : gM → Prop} {M0 M : gM} {D : tD} {F : Nat → Int64} {r k : Nat} {X : gT3} (hk : okD D) (hr : r < 12) (hI : gInv D F k X) (hlt : k < X.1) (hG : mGr M0 r D F X M) (hq : ∀ M', mGr M0 r D F (stpT D F r k X) M' → Q M') : wp_MD_split Q (nI r) (nI k) M := by
  obtain ⟨hX, hz, hT, hf⟩ := id hG
  have s31 := hI.1.2
  obtain ⟨d, hd, ed⟩ := hI.2.2.1 k hlt
  obtain ⟨dd1, dd2, dd3⟩ := dpt_ok hk
  obtain ⟨⟨hn, hhn, ehn⟩, -⟩ := hI.2.2.2.2.1 k hlt
  have fr := hI.2.2.2.2.2.1 k (Nat.le_refl _) hlt
  have tk := hT k hlt
  unfold wp_MD_split
  rw [ix32]
  refine ⟨in384 hr (by omega), ?_⟩
  rw [nI_clamp (by omega), tk.2.1.2.2, hX.1.2.2 0 (by omega), hX.1.2.2 5 (by omega)]
  refine ⟨fun c1 => ⟨5, ?_⟩, fun c1 => hq M (by rw [stpT_a c1]; exact hG)⟩
  have hdlt : d < dpt D := by
    rcases Nat.lt_or_ge d (dpt D) with z | z
    · exact z
    · exact absurd (by rw [ed, dd3]; congr 1; omega) c1
  have b0 : bS M (32 * r + k) ((D.2.2 3 5).toInt64, -1, -1, -1) M := ⟨fun _ _ _ _ => rfl, fun _ _ _ _ => rfl, ⟨tk.1.1.trans fr.1.1, tk.1.2.1.trans fr.1.2.1, tk.1.2.2.1.trans fr.1.2.2.1⟩, fun _ => tk.2.2.2.trans fr.1.2.2.2.2, fun z => absurd rfl z⟩
  refine q_cols (T := X.2.1) (B := ((D.2.2 3 5).toInt64, -1, -1, -1)) hk hX (by omega) tk.2.2.1 tk.2.1.2.1 ehn hhn (fun M' b => ?_) 4 0 M (by omega) b0
  have b : bS M (32 * r + k) (best D F X.2.2 X.2.1 r k) M' := b
  show wp_MD_split_35 Q 1 (nI r) (nI k) (nI (32 * r + k)) (best D F X.2.2 X.2.1 r k).1 (nI 4) M'
  have hbo : (best D F X.2.2 X.2.1 r k).2.1 < 0 → best D F X.2.2 X.2.1 r k = ((D.2.2 3 5).toInt64, -1, -1, -1) := by
    intro z
    rcases clL_ok (D := D) (F := F) (nd := X.2.2) (T := X.2.1) (r := r) (k := k) (B0 := ((D.2.2 3 5).toInt64, -1, -1, -1)) 4 (by omega) with e | ⟨c, q, sd, hc, hq2, hsd, hK, eB⟩
    · exact e
    · exfalso
      have : (best D F X.2.2 X.2.1 r k).2.1 = nI c := by unfold best; rw [eB]
      rw [this] at z
      exact nI_pos (by omega) z
  have c1' : ¬ X.2.1.1 6 k = D.2.2 3 0 := c1
  refine ⟨fun _ => ⟨in384 hr (by omega), ?_⟩, fun z => absurd (show (4 : Int32) ≤ nI 4 by decide) z⟩
  rw [nI_clamp (by omega), b.2.2.1.1]
  have hX' := bS_mX b hX
  have z287 : M'.1 287 r = nI X.1 := (b.1 _ _ (by omega) (by omega)).trans hz
  refine ⟨fun c2 => ⟨vp_in_nI hr (by omega), D.1 + 1, ?_⟩, fun c2 => hq M' ?_⟩
  · have c2' : ¬ (best D F X.2.2 X.2.1 r k).2.1 < 0 := fun z => by rw [i_lt] at z; rw [i_le] at c2; omega
    obtain ⟨c, q, sd, hc, hq2, hsd, hK, eB⟩ := best_ok c2'
    rw [stpT_c c1' c2'] at hq
    have room := roomT hk hI hlt ed hdlt
    generalize best D F X.2.2 X.2.1 r k = B at b hq eB c2'
    have hB1 : B.2.1 = nI c := by rw [eB]
    rw [nI_clamp (by omega), z287]
    rw [show nI X.1 + 2 = nI (X.1 + 2) by rw [show (2 : Int32) = nI 2 from rfl, nI_add]]
    obtain ⟨Ms, hMs⟩ : ∃ Ms, Ms = wi (wi M' 291 (32 * r + k) (nI X.1)) 287 r (nI (X.1 + 2)) := ⟨_, rfl⟩
    rw [← hMs]
    have ms : ∀ a j, ¬ (a = 291 ∧ j = 32 * r + k) → ¬ (a = 287 ∧ j = r) → Ms.1 a j = M'.1 a j := fun a j q1 q2 => by rw [hMs, wi_ne (by omega), wi_ne (by omega)]
    have ms291 : Ms.1 291 (32 * r + k) = nI X.1 := by rw [hMs, wi_ne (by omega), wi_eq]
    have ms287 : Ms.1 287 r = nI (X.1 + 2) := by rw [hMs, wi_eq]
    have ms2 : ∀ a j, Ms.2 a j = M'.2 a j := fun a j => by rw [hMs]; rfl
    have hXs : mX Ms D F X.2.2 := mX_fr hX' (fun a j q => ms a j (by omega) (by omega)) (fun j => ms2 _ _)
    refine q_move (F := F) (nd := X.2.2) (B := B) (dp := 0) (c := c) hk hr hXs.1 (by omega) hc room (by omega) ((ms _ _ (by omega) (by omega)).trans b.2.2.1.1) hB1 ((ms _ _ (by omega) (by omega)).trans b.2.2.1.2.1) ((ms _ _ (by omega) (by omega)).trans b.2.2.1.2.2) (fun M2 v => ⟨in384 hr (by omega), ?_⟩) D.1 0 Ms (by omega) ⟨fun _ _ _ => rfl, fun _ _ => rfl, fun j hj => by rw [if_neg (by omega)]; exact hXs.2.2 j hj⟩
    have hX2 : mX M2 D F (mvN D X.2.2 k X.1 B) := by
      obtain ⟨⟨g1, g2, g3⟩, g4, g5⟩ := hXs
      refine ⟨⟨by rw [v.1 _ _ (by omega)]; exact g1, fun i hi => ?_, fun a ha => by rw [v.1 _ _ (by omega)]; exact g3 a ha⟩, fun i hi => by rw [v.2.1]; exact g4 i hi, fun i hi => by rw [v.2.2 i hi, if_pos hi]⟩
      rw [v.1 280 _ (by omega), v.1 281 _ (by omega), v.1 282 _ (by omega)]
      exact ⟨fun c hc => by rw [v.1 _ _ (by omega)]; exact (g2 i hi).1 c hc, (g2 i hi).2⟩
    have rd : ∀ a j, a ≠ 297 → ¬ (a = 291 ∧ j = 32 * r + k) → ¬ (a = 287 ∧ j = r) → ¬ (a = 273 ∧ (j = 30 ∨ j = 31)) → ¬ (j = 32 * r + k ∧ (a = 288 ∨ a = 289 ∨ a = 290)) → M2.1 a j = M.1 a j := fun a j q1 q2 q3 q4 q5 => (v.1 a j q1).trans ((ms a j q2 q3).trans (b.1 a j q4 q5))
    have rd2 : ∀ a j, ¬ (a = 273 ∧ j = 29) → ¬ (a = 296 ∧ j = 32 * r + k) → M2.2 a j = M.2 a j := fun a j q1 q2 => (v.2.1 a j).trans ((ms2 a j).trans (b.2.1 a j q1 q2))
    have dpe : M2.1 294 (32 * r + k) + 1 = X.2.1.1 6 k + 1 := by rw [rd _ _ (by omega) (by omega) (by omega) (by omega) (by omega), tk.2.1.2.2]
    have hT2 : mdT M2 r X.1 (putB X.2.1 k B (nI X.1)) := by
      intro i hi
      by_cases e : i = k
      · subst e
        have PK := putB_at (T := X.2.1) (k := i) (B := B) (l := nI X.1)
        have hne : ¬ B.2.1 = -1 := fun z => by rw [z] at c2'; exact c2' (by decide)
        refine ⟨⟨?_, ?_, ?_, ?_⟩, ⟨?_, ?_, ?_⟩, ?_, ?_⟩
        · rw [PK.1, v.1 _ _ (by omega), ms _ _ (by omega) (by omega)]; exact b.2.2.1.1
        · rw [PK.2.1, v.1 _ _ (by omega), ms _ _ (by omega) (by omega)]; exact b.2.2.1.2.1
        · rw [PK.2.2.1, v.1 _ _ (by omega), ms _ _ (by omega) (by omega)]; exact b.2.2.1.2.2
        · rw [PK.2.2.2.1, v.1 _ _ (by omega)]; exact ms291
        · rw [PK.2.2.2.2.2.1, rd _ _ (by omega) (by omega) (by omega) (by omega) (by omega)]; exact tk.2.1.1
        · rw [PK.2.2.2.2.2.2.1, rd _ _ (by omega) (by omega) (by omega) (by omega) (by omega)]; exact tk.2.1.2.1
        · rw [PK.2.2.2.2.2.2.2.1, rd _ _ (by omega) (by omega) (by omega) (by omega) (by omega)]; exact tk.2.1.2.2
        · rw [PK.2.2.2.2.2.2.2.2, rd2 _ _ (by omega) (by omega)]; exact tk.2.2.1
        · rw [PK.2.2.2.2.1, v.2.1, ms2]; exact b.2.2.2.2 hne
      · have PK := putB_ne (T := X.2.1) (k := k) (i := i) (B := B) (l := nI X.1) e
        rw [PK.1, PK.1, PK.1, PK.1, PK.1, PK.1, PK.1, PK.2, PK.2, rd 288 _ (by omega) (by omega) (by omega) (by omega) (by omega), rd 289 _ (by omega) (by omega) (by omega) (by omega) (by omega), rd 290 _ (by omega) (by omega) (by omega) (by omega) (by omega), rd 291 _ (by omega) (by omega) (by omega) (by omega) (by omega), rd 292 _ (by omega) (by omega) (by omega) (by omega) (by omega), rd 293 _ (by omega) (by omega) (by omega) (by omega) (by omega), rd 294 _ (by omega) (by omega) (by omega) (by omega) (by omega), rd2 295 _ (by omega) (by omega), rd2 296 _ (by omega) (by omega)]
        exact hT i hi
    have hf2 : frG M r M2 := ⟨fun a j q1 q2 q3 q4 => rd a j q4 (by omega) q2 q1 (by omega), fun a j q1 q2 => rd2 a j q1 (by omega)⟩
    rw [dpe]
    refine q_layNode hk hX2 hr (by omega) (fun M3 l3 => ?_)
    have hX3 := layR_mX l3 hX2
    have e3 : M3.1 294 (32 * r + k) + 1 = X.2.1.1 6 k + 1 := by rw [l3.1 _ _ (by omega) (by omega)]; exact dpe
    show wp_MD_layNode Q (nI r) (nI X.1 + 1) (M3.1 294 (32 * r + k) + 1) M3
    rw [e3, nI_1]
    refine q_layNode hk hX3 hr (by omega) (fun M4 l4 => hq M4 ⟨layR_mX l4 hX3, ?_, layR_mdT l4 (layR_mdT l3 hT2), frG_tr hf (frG_tr hf2 (frG_tr (layR_frG (by omega) l3) (layR_frG (by omega) l4)))⟩)
    show M4.1 287 r = nI (X.1 + 2)
    rw [l4.1 _ _ (by omega) (by omega), l3.1 _ _ (by omega) (by omega), v.1 _ _ (by omega)]
    exact ms287
  · have c2' : (best D F X.2.2 X.2.1 r k).2.1 < 0 := by rw [i_lt]; rw [i_le] at c2; omega
    rw [stpT_b c2']
    have eb := hbo c2'
    rw [eb] at b
    refine ⟨hX', z287, fun i hi => ?_, frG_tr hf ⟨fun a j q1 q2 q3 q4 => b.1 a j q1 (by omega), fun a j q1 q2 => b.2.1 a j q1 (by omega)⟩⟩
    by_cases e : i = k
    · subst e
      rw [b.1 291 _ (by omega) (by omega), b.1 292 _ (by omega) (by omega), b.1 293 _ (by omega) (by omega), b.1 294 _ (by omega) (by omega), b.2.1 295 _ (by omega) (by omega)]
      exact ⟨⟨b.2.2.1.1.trans fr.1.1.symm, b.2.2.1.2.1.trans fr.1.2.1.symm, b.2.2.1.2.2.trans fr.1.2.2.1.symm, tk.1.2.2.2⟩, tk.2.1, tk.2.2.1, (b.2.2.2.1 rfl).trans fr.1.2.2.2.2.symm⟩
    · rw [b.1 288 _ (by omega) (by omega), b.1 289 _ (by omega) (by omega), b.1 290 _ (by omega) (by omega), b.1 291 _ (by omega) (by omega), b.1 292 _ (by omega) (by omega), b.1 293 _ (by omega) (by omega), b.1 294 _ (by omega) (by omega), b.2.1 295 _ (by omega) (by omega), b.2.1 296 _ (by omega) (by omega)]
      exact hT i hi
/-- the tree of a round -/
def X0 (D : tD) (F : Nat → Int64) (r : Nat) : gT3 := (1, layN D F (nd0 D r) (fun _ _ => 0, fun _ _ => 0) 0 0, nd0 D r)
def treT (D : tD) (F : Nat → Int64) (r : Nat) : gT3 := growT D F r (X0 D F r) 31
theorem X0_inv {D : tD} {F : Nat → Int64} {r : Nat} (hk : okD D) : gInv D F 0 (X0 D F r) := by
  obtain ⟨d1, d2, d3⟩ := dpt_ok hk
  have L := layN_at (D := D) (F := F) (nd := nd0 D r) (T := (fun _ _ => 0, fun _ _ => 0)) (k := 0) (dp := 0)
  have n40 := hk.1
  have hH := sH_le hk (S := inN (nd0 D r) 0) D.1 (Nat.le_refl _)
  have z : ∀ i, i < (X0 D F r).1 → i = 0 := fun i hi => by have hi : i < 1 := hi; omega
  refine ⟨⟨Nat.le_refl 1, by show 1 ≤ 31; omega⟩, L.2.2.2.2.2.2.2.2, fun i hi => ?_, ?_, fun i hi => ?_, fun i a hi => ?_, fun i a => absurd a (by omega)⟩
  · rw [z i hi]; exact ⟨0, by omega, L.2.2.2.2.2.2.2.2⟩
  · show 0 + (0 + pf D (layN D F (nd0 D r) (fun _ _ => 0, fun _ _ => 0) 0 0) 0) ≤ 31
    rw [pf_at (d := 0) L.2.2.2.2.2.2.2.2 (by omega) d2]
    have : (2 : Nat) ^ (dpt D + 1 - 0) ≤ 2 ^ 5 := Nat.pow_le_pow_right (by omega) (by omega)
    omega
  · rw [z i hi]
    exact ⟨⟨_, by omega, L.2.2.2.2.2.2.1⟩, _, Nat.le_trans (sN_le _) n40, L.2.2.2.2.2.1⟩
  · rw [z i hi]
    exact ⟨⟨L.1, L.2.1, L.2.2.1, L.2.2.2.1, L.2.2.2.2.1⟩, L.2.2.2.2.2.1, L.2.2.2.2.2.2.1, L.2.2.2.2.2.2.2.1⟩
theorem growT_t {D : tD} {F : Nat → Int64} {r k : Nat} {X : gT3} (h : k < (growT D F r X k).1) : growT D F r X (k + 1) = stpT D F r k (growT D F r X k) := if_pos h
theorem growT_f {D : tD} {F : Nat → Int64} {r k : Nat} {X : gT3} (h : ¬ k < (growT D F r X k).1) : growT D F r X (k + 1) = growT D F r X k := if_neg h
theorem growT_inv {D : tD} {F : Nat → Int64} {r : Nat} {X : gT3} (hk : okD D) (h : gInv D F 0 X) : ∀ k, gInv D F (min k (growT D F r X k).1) (growT D F r X k) := by
  intro k
  induction k with
  | zero => rw [Nat.zero_min]; exact h
  | succ k ih =>
    by_cases c : k < (growT D F r X k).1
    · rw [Nat.min_eq_left (by omega)] at ih
      have := stpT_inv (r := r) hk ih c
      rw [growT_t c]
      have hle : k + 1 ≤ (stpT D F r k (growT D F r X k)).1 := by
        by_cases c1 : (growT D F r X k).2.1.1 6 k = D.2.2 3 0
        · rw [stpT_a c1]; omega
        · by_cases c2 : (best D F (growT D F r X k).2.2 (growT D F r X k).2.1 r k).2.1 < 0
          · rw [stpT_b c2]; omega
          · rw [stpT_c c1 c2]; show k + 1 ≤ (growT D F r X k).1 + 2; omega
      rw [Nat.min_eq_left hle]
      exact this
    · rw [growT_f c]
      rw [Nat.min_eq_right (by omega)] at ih ⊢
      exact ih
theorem growT_stay {D : tD} {F : Nat → Int64} {r k : Nat} {X : gT3} (h : ¬ k < (growT D F r X k).1) : ∀ d, growT D F r X (k + d) = growT D F r X k := by
  intro d
  induction d with
  | zero => rfl
  | succ d ih =>
    show growT D F r X (k + d + 1) = _
    rw [growT_f (by rw [ih]; omega), ih]
theorem q_grow {Q : gM → Prop} {M0 : gM} {D : tD} {F : Nat → Int64} {r : Nat} {X : gT3} (hk : okD D) (hr : r < 12) (h : gInv D F 0 X) (hq : ∀ M', mGr M0 r D F (growT D F r X 31) M' → Q M') : ∀ z k M, k + z = 31 → mGr M0 r D F (growT D F r X k) M → wp_MD_makeTree_94 Q (z + 1) (nI r) (nI k) M := by
  intro z
  induction z with
  | zero =>
    intro k M hz g
    have : k = 31 := by omega
    subst this
    refine ⟨vp_in_nI hr (by omega), ?_⟩
    rw [nI_clamp (by omega), g.2.1]
    have := (growT_inv (r := r) hk h 31).1.2
    exact ⟨fun _ => hq M g, fun c => absurd (nI_le this (by omega)) c⟩
  | succ z ih =>
    intro k M hz g
    have i31 := growT_inv (r := r) hk h k
    have s31 := i31.1.2
    refine ⟨vp_in_nI hr (by omega), ?_⟩
    rw [nI_clamp (by omega), g.2.1]
    refine ⟨fun c => ?_, fun c => ?_⟩
    · rw [nI_leI (by omega) (by omega)] at c
      have e := growT_stay (D := D) (F := F) (r := r) (k := k) (X := X) (by omega) (z + 1)
      rw [show k + (z + 1) = 31 by omega] at e
      refine hq M ?_
      rw [e]
      exact g
    · rw [nI_leI (by omega) (by omega)] at c
      rw [Nat.min_eq_left (by omega)] at i31
      refine q_split hk hr i31 (by omega) g (fun M' g' => ?_)
      rw [nI_1]
      refine ih (k + 1) M' (by omega) ?_
      rw [growT_t (by omega)]
      exact g'

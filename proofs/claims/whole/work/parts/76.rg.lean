theorem q_stepG {Q : gM → Prop} {Ms M : gM} {D : tD} {F : Nat → Int64} {b r k : Nat} {X : gT3} (hk : okD D) (hb : 116 ≤ b) (hI : gInv D F k X) (hlt : k < X.1) (hG : cGr Ms b D F k X M) (hq : ∀ M', cGr Ms b D F (k + 1) (stpT D F r k X) M' → Q M') : wp_GR_gatherNode (fun M2 => wp_TR_keepSums (fun M4 => wp_TR_mayDivide (fun r5 M6 => (r5 = 0 → Q M6) ∧ (¬ r5 = 0 → wp_GR_findSplit (fun M8 => (M8.1 108 0 = -1 → Q M8) ∧ (¬ M8.1 108 0 = -1 → wp_TR_divide (fun M10 => wp_GR_moveRows Q b (nI k) M10) b (nI k) M8)) (nI k) (nI r) M6)) b (nI k) (M4.1 94 0) M4) b 102 (nI k) (M2.1 94 2) M2) (nI k) M := by
  have n40 := hk.1
  obtain ⟨hX, hz, hT, hf⟩ := hG
  have s31 := hI.1.2
  obtain ⟨d, hd, ed⟩ := hI.2.2.1 k hlt
  obtain ⟨dd1, dd2, dd3⟩ := dpt_ok hk
  have fr := hI.2.2.2.2.2.1 k (Nat.le_refl _) hlt
  refine q_gather hk hX (fun M2 f2 g2 => ?_)
  have X2 : cX M2 D F X.2.2 := cX_fr n40 hX (fun a j q => f2.1 a j (by omega)) (fun a j q => f2.2 a j (by omega))
  have c2 : cdT M2 b X.1 k X.2.1 D := cdT_fr hT (fun a j q1 q2 => f2.1 a j (by omega)) (fun a j q1 q2 => f2.2 a j (by omega))
  refine keepS hb hk (X2.1.2.2 2 (by omega)) s31 hlt g2 (sT_ok hk) ⟨fr.2.1, fr.2.2.1, fr.2.2.2⟩ c2 (fun M4 e1 e2 c4 => ?_)
  have X4 : cX M4 D F X.2.2 := cX_fr n40 X2 (fun a j q => e1 a j (by omega) (by omega)) (fun a j q => e2 a j (by omega) (by omega))
  have g4 : atS M4 102 (sT D F (inN X.2.2 k)) := ⟨(e1 _ _ (by omega) (by omega)).trans g2.1, (e1 _ _ (by omega) (by omega)).trans g2.2.1, (e2 _ _ (by omega) (by omega)).trans g2.2.2⟩
  have z4 : M4.1 b 2 = nI X.1 := (e1 _ _ (by omega) (by omega)).trans ((f2.1 _ _ (by omega)).trans hz)
  have f4 : frR Ms b M4 := ⟨fun a j q1 q2 q3 q4 => (e1 a j (by omega) (by omega)).trans ((f2.1 a j (by omega)).trans (hf.1 a j q1 q2 q3 q4)), fun a j q1 q2 q3 q4 => (e2 a j (by omega) (by omega)).trans ((f2.2 a j (by omega)).trans (hf.2 a j q1 q2 q3 q4))⟩
  have G4 : cGr Ms b D F (k + 1) X M4 := ⟨X4, z4, c4, f4⟩
  refine ⟨vp_in_nI (by omega) (by omega), ?_⟩
  rw [nI_clamp (by omega), X4.1.2.2 0 (by omega), (c4.1 k hlt).2.1, z4]
  refine ⟨fun q => ⟨fun _ => ?_, fun w => absurd rfl w⟩, fun q => ?_⟩
  · refine hq M4 ?_
    rw [stpT_a]
    · exact G4
    · rw [ed, dd3] at q ⊢
      rw [nI_leI (by omega) (by omega)] at q
      congr 1
      omega
  have c1 : ¬ X.2.1.1 6 k = D.2.2 3 0 := fun z => q (by rw [z, i_le]; omega)
  have hdlt : d < dpt D := by
    rcases Nat.lt_or_ge d (dpt D) with z | z
    · exact z
    · exact absurd (by rw [ed, dd3]; congr 1; omega) c1
  have room := roomT hk hI hlt ed hdlt
  refine ⟨fun w => ?_, fun _ => ⟨fun w => absurd w (by decide), fun _ => ?_⟩⟩
  · rw [show (2 : Int32) = nI 2 from rfl, nI_add, show (31 : Int32) = nI 31 from rfl, nI_ltI (by omega) (by omega)] at w; omega
  refine q_findSplit hk X4 ⟨fr.2.2.2, fr.2.2.1⟩ g4 (fun M8 f8 p8 => ?_)
  have X8 := frL_cX n40 f8 X4
  have z8 : M8.1 b 2 = nI X.1 := (f8.1 _ _ (by omega) (by omega)).trans z4
  have c8 : cdT M8 b X.1 (k + 1) X.2.1 D := cdT_fr c4 (fun a j q1 q2 => f8.1 a j (by omega) (by omega)) (fun a j q1 q2 => f8.2 a j (by omega) (by omega))
  have fr8 : frR Ms b M8 := ⟨fun a j q1 q2 q3 q4 => (f8.1 a j (by omega) (by omega)).trans (f4.1 a j q1 q2 q3 q4), fun a j q1 q2 q3 q4 => (f8.2 a j (by omega) (by omega)).trans (f4.2 a j q1 q2 q3 q4)⟩
  rw [p8.1]
  refine ⟨fun w => hq M8 ?_, fun w => ?_⟩
  · rw [stpT_b (by rw [w]; decide)]
    exact ⟨X8, z8, c8, fr8⟩
  have c2' : ¬ (best D F X.2.2 X.2.1 r k).2.1 < 0 := by
    rcases clL_ok (D := D) (F := F) (nd := X.2.2) (T := X.2.1) (r := r) (k := k) (B0 := ((D.2.2 3 5).toInt64, -1, -1, -1)) 4 (by omega) with e | ⟨c, q, sd, hc, hq2, hsd, hK, eB⟩
    · exact absurd (by unfold best; rw [e]) w
    · have : (best D F X.2.2 X.2.1 r k).2.1 = nI c := by unfold best; rw [eB]
      rw [this]
      exact nI_pos (by omega)
  obtain ⟨c, q2, sd, hc, hq2, hsd, hK, eB⟩ := best_ok c2'
  rw [stpT_c c1 c2'] at hq
  generalize best D F X.2.2 X.2.1 r k = B at p8 hq eB c2' w
  have hB1 : B.2.1 = nI c := by rw [eB]
  have hBs : B.2.2.2 = 0 ∨ B.2.2.2 = 1 := by
    rw [eB]
    rcases (show sd = 0 ∨ sd = 1 by omega) with rfl | rfl
    · exact Or.inl rfl
    · exact Or.inr rfl
  refine p_divide (B := B) hb room hlt z8 p8 (c8.1 k hlt).2.1 (fun M10 v => ?_)
  obtain ⟨v1, v2, v3, v4, v5⟩ := v
  have X10 : cX M10 D F X.2.2 := cX_fr n40 X8 (fun a j q => v1 a j (by omega) (by omega) (by omega)) (fun a j q => v2 a j (by omega))
  refine q_moveC (B := B) (c := c) (l := X.1) hk X10 (by omega) hb hc hB1 (v4.1.trans hB1) v4.2.1 v4.2.2.1 hBs v4.2.2.2.1 (fun M' u1 u2 u3 => hq M' ⟨?_, ?_, ?_, ?_⟩)
  · exact ⟨cdD_fr n40 X10.1 (fun a j q => u1 a j (by omega)), fun c hc => ordM_fr (X10.2.1 c hc) (fun q _ => u1 _ _ (by omega)), u3, fun i hi => (u2 _ _).trans (X10.2.2.2.1 i hi), (u1 _ _ (by omega)).trans X10.2.2.2.2.1, (u1 _ _ (by omega)).trans X10.2.2.2.2.2.1, (u2 _ _).trans X10.2.2.2.2.2.2⟩
  · exact (u1 _ _ (by omega)).trans v3
  · refine cdT_fr (M := M10) ?_ (fun a j q1 q2 => u1 a j (by omega)) (fun a j q1 q2 => u2 a j)
    have nd' := mvN D X.2.2 k X.1 B
    refine ⟨fun i hi => ?_, fun i hi his => ?_⟩
    · have hi : i < X.1 + 2 := hi
      show (M10.1 (b + 2) i = (layN _ _ _ _ _ _).1 0 i ∧ M10.1 (b + 3) i = (layN _ _ _ _ _ _).1 1 i ∧ M10.1 (b + 4) i = (layN _ _ _ _ _ _).1 2 i ∧ M10.1 (b + 5) i = (layN _ _ _ _ _ _).1 3 i) ∧ M10.1 (b + 8) i = (layN _ _ _ _ _ _).1 6 i ∧ M10.2 (b + 12) i = (layN _ _ _ _ _ _).2 1 i
      by_cases e2 : i = X.1 + 1
      · subst e2
        obtain ⟨y1, y2⟩ := v5 (X.1 + 1) (Or.inr rfl)
        have L := layN_at (D := D) (F := F) (nd := mvN D X.2.2 k X.1 B) (T := layN D F (mvN D X.2.2 k X.1 B) (putB X.2.1 k B (nI X.1)) X.1 (X.2.1.1 6 k + 1)) (k := X.1 + 1) (dp := X.2.1.1 6 k + 1)
        rw [L.1, L.2.1, L.2.2.1, L.2.2.2.1, L.2.2.2.2.1, L.2.2.2.2.2.2.2.2]
        exact ⟨⟨y1.1, y1.2.1, y1.2.2.1, y1.2.2.2.1⟩, y1.2.2.2.2, y2⟩
      · have L := layN_ne (D := D) (F := F) (nd := mvN D X.2.2 k X.1 B) (T := layN D F (mvN D X.2.2 k X.1 B) (putB X.2.1 k B (nI X.1)) X.1 (X.2.1.1 6 k + 1)) (k := X.1 + 1) (dp := X.2.1.1 6 k + 1) e2
        rw [L.1, L.1, L.1, L.1, L.1, L.2]
        by_cases e1 : i = X.1
        · subst e1
          obtain ⟨y1, y2⟩ := v5 X.1 (Or.inl rfl)
          have L := layN_at (D := D) (F := F) (nd := mvN D X.2.2 k X.1 B) (T := putB X.2.1 k B (nI X.1)) (k := X.1) (dp := X.2.1.1 6 k + 1)
          rw [L.1, L.2.1, L.2.2.1, L.2.2.2.1, L.2.2.2.2.1, L.2.2.2.2.2.2.2.2]
          exact ⟨⟨y1.1, y1.2.1, y1.2.2.1, y1.2.2.2.1⟩, y1.2.2.2.2, y2⟩
        · have L := layN_ne (D := D) (F := F) (nd := mvN D X.2.2 k X.1 B) (T := putB X.2.1 k B (nI X.1)) (k := X.1) (dp := X.2.1.1 6 k + 1) e1
          rw [L.1, L.1, L.1, L.1, L.1, L.2]
          by_cases e0 : i = k
          · subst e0
            have P := putB_at (T := X.2.1) (k := i) (B := B) (l := nI X.1)
            rw [P.1, P.2.1, P.2.2.1, P.2.2.2.1, P.2.2.2.2.1, P.2.2.2.2.2.2.2.1]
            exact ⟨⟨v4.1, v4.2.1, v4.2.2.1, v4.2.2.2.1⟩, (v1 _ _ (by omega) (by omega) (by omega)).trans (c8.1 i hlt).2.1, v4.2.2.2.2⟩
          · have P := putB_ne (T := X.2.1) (k := k) (i := i) (B := B) (l := nI X.1) e0
            rw [P.1, P.1, P.1, P.1, P.1, P.2, v1 _ _ (by omega) (by omega) (by omega), v1 _ _ (by omega) (by omega) (by omega), v1 _ _ (by omega) (by omega) (by omega), v1 _ _ (by omega) (by omega) (by omega), v1 _ _ (by omega) (by omega) (by omega), v2 _ _ (by omega)]
            exact c8.1 i (by omega)
    · have his : i < X.1 + 2 := his
      show (M10.1 (b + 6) i = (layN _ _ _ _ _ _).1 4 i ∧ M10.1 (b + 7) i = (layN _ _ _ _ _ _).1 5 i) ∧ M10.2 (b + 10) i = (layN _ _ _ _ _ _).2 0 i ∧ M10.2 (b + 11) i = valJ ((layN _ _ _ _ _ _).2 0 i) ((layN _ _ _ _ _ _).1 5 i) (D.2.2 3 2)
      have L := layN_ne (D := D) (F := F) (nd := mvN D X.2.2 k X.1 B) (T := layN D F (mvN D X.2.2 k X.1 B) (putB X.2.1 k B (nI X.1)) X.1 (X.2.1.1 6 k + 1)) (k := X.1 + 1) (i := i) (dp := X.2.1.1 6 k + 1) (by omega)
      have L2 := layN_ne (D := D) (F := F) (nd := mvN D X.2.2 k X.1 B) (T := putB X.2.1 k B (nI X.1)) (k := X.1) (i := i) (dp := X.2.1.1 6 k + 1) (by omega)
      have old := c8.2 i hi (by omega)
      rw [L.1, L.1, L.2, L2.1, L2.1, L2.2, v1 _ _ (by omega) (by omega) (by omega), v1 _ _ (by omega) (by omega) (by omega), v2 _ _ (by omega), v2 _ _ (by omega)]
      by_cases e0 : i = k
      · subst e0
        have P := putB_at (T := X.2.1) (k := i) (B := B) (l := nI X.1)
        rw [P.2.2.2.2.2.1, P.2.2.2.2.2.2.1, P.2.2.2.2.2.2.2.2]
        exact old
      · have P := putB_ne (T := X.2.1) (k := k) (i := i) (B := B) (l := nI X.1) e0
        rw [P.1, P.1, P.2]
        exact old
  · exact ⟨fun a j q1 q2 q3 q4 => (u1 a j q1).trans ((v1 a j (by omega) (by omega) (by omega)).trans (fr8.1 a j q1 q2 q3 q4)), fun a j q1 q2 q3 q4 => (u2 a j).trans ((v2 a j (by omega)).trans (fr8.2 a j q1 q2 q3 q4))⟩

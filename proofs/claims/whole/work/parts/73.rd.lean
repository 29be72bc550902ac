theorem q_tryColumn {Q : gM → Prop} {Ms : gM} {D : tD} {F : Nat → Int64} {nd : Nat → Int32} {T : gM} {k c : Nat} {B : gS4} (hk : okD D) (hX : cX Ms D F nd) (hc : c < 4) (hT : T.2 0 k = sG D F (inN nd k) D.1 ∧ T.1 5 k = nI (sH D (inN nd k) D.1)) (hw : atS Ms 102 (sT D F (inN nd k))) (hP : atP Ms B) (hB : (0 : Int64) ≤ B.1) (hq : ∀ M', frL Ms M' → atP M' (ctL D F nd T k c B 32) → Q M') : wp_GR_tryColumn Q (nI k) (nI c) Ms := by
  have n40 := hk.1
  obtain ⟨o, o1, ho⟩ := hX.2.1 c hc
  have m1 : ∀ v : Nat, v < 32 → ¬ nI v = (-1 : Int32) := fun v hv z => by
    have := congrArg Int32.toInt z
    rw [nI_toInt (by omega), show (-1 : Int32).toInt = -1 from rfl] at this
    omega
  have srt : ∀ q p, q ≤ p → p < D.1 → D.2.1 (o q) c ≤ D.2.1 (o p) c := by
    intro q p a b
    by_cases e : q = p
    · rw [e, i_le]; omega
    · exact ho.2.2 q p (by omega) b
  -- no cut at u: nothing is above
  have noA : ∀ (x3 : Int32) u, (∀ q, q < D.1 → inN nd k (o q) = true → D.2.1 (o q) c ≤ x3) → x3 ≤ nI u → isK D nd k c (nI u) = false := by
    intro x3 u le hu
    have : ¬ hasA D nd k c (nI u) D.1 = true := by
      rw [hasA_iff]
      rintro ⟨i, hi, a, b⟩
      obtain ⟨q, hq2, rfl⟩ := ordO_surj ho hi
      have := le q hq2 a
      rw [i_le] at this hu b
      omega
    unfold isK
    rw [show hasA D nd k c (nI u) D.1 = false by simpa using this, Bool.and_false]
  -- no cut at u: no row has that number
  have noV : ∀ (p : Nat) (x3 : Int32) u, p < D.1 → (∀ q, q < p → inN nd k (o q) = true → D.2.1 (o q) c ≤ x3) → ¬ nI u ≤ x3 → ¬ D.2.1 (o p) c ≤ nI u → isK D nd k c (nI u) = false := by
    intro p x3 u hp le hu hg
    have : ¬ hasV D nd k c (nI u) D.1 = true := by
      rw [hasV_iff]
      rintro ⟨i, hi, a, b⟩
      obtain ⟨q, hq2, rfl⟩ := ordO_surj ho hi
      rcases Nat.lt_or_ge q p with z | z
      · have := le q z a
        rw [b] at this
        exact hu this
      · have := srt p q z hq2
        rw [b] at this
        exact hg this
    unfold isK
    rw [show hasV D nd k c (nI u) D.1 = false by simpa using this, Bool.false_and]
  have go : ∀ z p x3 M, p + z = D.1 → tcI D F nd T k c o B Ms p x3 M → wp_GR_tryColumn_19 Q (z + 1) (nI k) (nI c) x3 (nI p) M := by
    intro z
    induction z with
    | zero =>
      intro p x3 M hz v
      have e : p = D.1 := by omega
      subst e
      obtain ⟨v1, v2, v3, v4, v5⟩ := v
      have h49 : M.1 49 4 = nI D.1 := by rw [v1.1 _ _ (by omega) (by omega)]; exact hX.1.1
      refine ⟨fun _ => hq M v1 ?_, fun w => absurd (by rw [h49]; exact nI_le (Nat.le_refl _) (by omega)) w⟩
      rcases v5 with ⟨e, h⟩ | ⟨v, hv, e, h, -⟩
      · have := ctL_gap (D := D) (F := F) (nd := nd) (T := T) (k := k) (c := c) (B := B) (a := 0) 32 (fun u a b => noA x3 u v4 (by rw [e, i_le, nI_toInt (by omega), show (-1 : Int32).toInt = -1 from rfl]; omega))
        rw [Nat.zero_add] at this
        rw [this]
        exact h
      · have := ctL_gap (D := D) (F := F) (nd := nd) (T := T) (k := k) (c := c) (B := B) (a := v) (32 - v) (fun u a b => noA x3 u v4 (by rw [e, nI_leI (by omega) (by omega)]; omega))
        rw [show v + (32 - v) = 32 by omega] at this
        rw [this]
        exact h
    | succ z ih =>
      intro p x3 M hz v
      obtain ⟨v1, v2, v3, v4, v5⟩ := v
      have XM := frL_cX n40 v1 hX
      have h49 : M.1 49 4 = nI D.1 := XM.1.1
      have op := ho.1 p (by omega)
      have e96 : M.1 (96 + c) p = nI (o p) := by rw [v1.1 _ _ (by omega) (by omega)]; exact o1 p (by omega)
      have cc : M.1 (51 + o p) c = D.2.1 (o p) c := (XM.1.2.1 _ op).1 c hc
      refine ⟨fun w => ?_, fun _ => ⟨vp_in_nI hc (by omega), vp_in_nI (by omega) (by omega), ?_⟩⟩
      · rw [h49, nI_leI (by omega) (by omega)] at w; omega
      rw [nI_clamp (show c < 2 ^ 31 by omega), nI_clamp (show p < 2 ^ 31 by omega), e96, nI_clamp (show o p < 2 ^ 31 by omega), cc, XM.2.2.1 (o p) op]
      refine ⟨vp_in_nI (by omega) (by omega), fun w => ?_, fun w => ?_⟩
      · show wp_GR_tryColumn_19 Q (z + 1) (nI k) (nI c) x3 (nI p + 1) M
        rw [nI_1]
        have nn : inN nd k (o p) = false := decide_eq_false w
        refine ih (p + 1) x3 M (by omega) ⟨v1, ?_, ?_, fun q a b => ?_, ?_⟩
        · show atS M 103 (tA _ (rw1 D F (misS D nd k c) (o p)))
          rw [rw1_f (by unfold misS; rw [nn]; rfl), tA_0]; exact v2
        · show atS M 104 (tA _ (rw1 D F (nmsS D nd k c) (o p)))
          rw [rw1_f (by unfold nmsS; rw [nn]; rfl), tA_0]; exact v3
        · by_cases e : q = p
          · rw [e, nn] at b; cases b
          · exact v4 q (by omega) b
        · rcases v5 with h | ⟨v, hv, e, h, q, q1, q2⟩
          · exact Or.inl h
          · exact Or.inr ⟨v, hv, e, h, q, by omega, q2⟩
      · have nn : inN nd k (o p) = true := decide_eq_true w
        -- behind the taking of row p
        have nx : ∀ M1, frL Ms M1 → atS M1 103 (sm (fun q => rw1 D F (misS D nd k c) (o q)) p) → atS M1 104 (sm (fun q => rw1 D F (nmsS D nd k c) (o q)) p) → ((D.2.1 (o p) c = -1 ∧ atP M1 B) ∨ ∃ w, w < 32 ∧ D.2.1 (o p) c = nI w ∧ atP M1 (ctL D F nd T k c B w)) → wp_GR_tryColumn_102 Q (wp_GR_tryColumn_19 Q (z + 1)) (nI k) (nI c) (nI p) (nI (o p)) (D.2.1 (o p) c) M1 := by
          intro M1 f1 g3 g4 gP
          refine q_take hk (frL_cX n40 f1 hX) (by omega) op nn g3 g4 (fun M2 f2 a3 a4 aP => ih (p + 1) _ M2 (by omega) ⟨frL_tr f1 f2, a3, a4, fun q a b => srt q p (by omega) (by omega), ?_⟩)
          rcases gP with ⟨e, h⟩ | ⟨w, hw2, e, h⟩
          · exact Or.inl ⟨e, aP _ h⟩
          · exact Or.inr ⟨w, hw2, e, aP _ h, p, by omega, nn, rfl⟩
        have ic := isC_nat ((hk.2.1 (o p) op).1 c hc)
        rcases v5 with ⟨e, h⟩ | ⟨v, hv, e, h, q, q1, q2, q3⟩
        · refine ⟨fun _ => nx M v1 v2 v3 ?_, fun y => absurd e y⟩
          rcases ic with e2 | ⟨w, hw2, e2⟩
          · exact Or.inl ⟨e2, h⟩
          · refine Or.inr ⟨w, hw2, e2, ?_⟩
            have := ctL_gap (D := D) (F := F) (nd := nd) (T := T) (k := k) (c := c) (B := B) (a := 0) w (fun u a b => noV p x3 u (by omega) v4 (by rw [e, i_le, nI_toInt (by omega), show (-1 : Int32).toInt = -1 from rfl]; omega) (by rw [e2, nI_leI (by omega) (by omega)]; omega))
            rw [Nat.zero_add] at this
            rw [this]
            exact h
        · rw [e] at v4 q3 ⊢
          have ge := srt q p (by omega) (by omega)
          rw [q3] at ge
          obtain ⟨w, hw2, e2⟩ : ∃ w, w < 32 ∧ D.2.1 (o p) c = nI w := by
            rcases ic with e2 | y
            · rw [e2, i_le, nI_toInt (by omega), show (-1 : Int32).toInt = -1 from rfl] at ge; omega
            · exact y
          refine ⟨fun y => absurd y (m1 v hv), fun _ => ⟨fun y => nx M v1 v2 v3 (Or.inr ⟨w, hw2, e2, ?_⟩), fun y => ?_⟩⟩
          · rw [e2] at y ge
            rw [nI_leI (by omega) (by omega)] at y ge
            rw [show w = v by omega]
            exact h
          · have hK : isK D nd k c (nI v) = true := by
              unfold isK
              rw [(hasV_iff (D := D) (nd := nd) (k := k) (c := c) (v := nI v) D.1).mpr ⟨o q, ho.1 q (by omega), q2, q3⟩, (hasA_iff (D := D) (nd := nd) (k := k) (c := c) (v := nI v) D.1).mpr ⟨o p, op, nn, y⟩]
              rfl
            refine q_bothSides hk XM hc hT ho (by omega) hv ⟨(v1.1 _ _ (by omega) (by omega)).trans hw.1, (v1.1 _ _ (by omega) (by omega)).trans hw.2.1, (v1.2 _ _ (by omega) (by omega)).trans hw.2.2⟩ v2 v3 h (l_tr hB (ctL_ge v)) v4 y hK (fun M1 f1 p1 => nx M1 (frL_tr v1 (frP_frL f1)) ⟨(f1.1 _ _ (by omega) (by omega) (by omega)).trans v2.1, (f1.1 _ _ (by omega) (by omega) (by omega)).trans v2.2.1, (f1.2 _ _ (by omega) (by omega) (by omega)).trans v2.2.2⟩ ⟨(f1.1 _ _ (by omega) (by omega) (by omega)).trans v3.1, (f1.1 _ _ (by omega) (by omega) (by omega)).trans v3.2.1, (f1.2 _ _ (by omega) (by omega) (by omega)).trans v3.2.2⟩ (Or.inr ⟨w, hw2, e2, ?_⟩))
            rw [e2, nI_leI (by omega) (by omega)] at y
            have := ctL_gap (D := D) (F := F) (nd := nd) (T := T) (k := k) (c := c) (B := B) (a := v + 1) (w - (v + 1)) (fun u a b => noV p (nI v) u (by omega) v4 (by rw [nI_leI (by omega) (by omega)]; omega) (by rw [e2, nI_leI (by omega) (by omega)]; omega))
            rw [show v + 1 + (w - (v + 1)) = w by omega] at this
            rw [this]
            exact p1
  refine p_sEmpty (fun M1 f1 g1 => p_sEmpty (fun M2 f2 g2 => ⟨D.1 + 1, go D.1 0 (-1) M2 (by omega) ⟨frL_tr (frB_frL (by omega) f1) (frB_frL (by omega) f2), atS_fr f2 g1 (by omega), g2, fun q a => absurd a (by omega), Or.inl ⟨rfl, ?_⟩⟩⟩))
  exact ⟨(f2.1 _ _ (by omega)).trans ((f1.1 _ _ (by omega)).trans hP.1), (f2.1 _ _ (by omega)).trans ((f1.1 _ _ (by omega)).trans hP.2.1), (f2.1 _ _ (by omega)).trans ((f1.1 _ _ (by omega)).trans hP.2.2.1), (f2.2 _ _ (by omega)).trans ((f1.2 _ _ (by omega)).trans hP.2.2.2)⟩

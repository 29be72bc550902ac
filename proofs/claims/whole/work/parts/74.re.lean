theorem q_gather {Q : gM → Prop} {Ms : gM} {D : tD} {F : Nat → Int64} {nd : Nat → Int32} {k : Nat} (hk : okD D) (hX : cX Ms D F nd) (hq : ∀ M', frB 102 Ms M' → atS M' 102 (sT D F (inN nd k)) → Q M') : wp_GR_gatherNode Q (nI k) Ms := by
  have n40 := hk.1
  have go : ∀ z i M, i + z = D.1 → frB 102 Ms M → atS M 102 (sm (rw1 D F (inN nd k)) i) → wp_GR_gatherNode_9 Q (z + 1) (nI k) (nI i) M := by
    intro z
    induction z with
    | zero =>
      intro i M hz f g
      have e : i = D.1 := by omega
      subst e
      have h49 : M.1 49 4 = nI D.1 := by rw [f.1 _ _ (by omega)]; exact hX.1.1
      refine ⟨fun _ => hq M f ?_, fun w => absurd (by rw [h49]; exact nI_le (Nat.le_refl _) (by omega)) w⟩
      rw [sm_rw1] at g
      exact g
    | succ z ih =>
      intro i M hz f g
      have h49 : M.1 49 4 = nI D.1 := by rw [f.1 _ _ (by omega)]; exact hX.1.1
      obtain ⟨ew, -, -⟩ := wN_ok hk (show i < D.1 by omega)
      have e1 : M.1 92 i = nI (wN D i) := (f.1 _ _ (by omega)).trans (((hX.1.2.1 i (by omega)).2.2.1).trans ew)
      have e2 : M.2 101 i = slp D F i := (f.2 _ _ (by omega)).trans (hX.2.2.2.1 i (by omega))
      have e3 : M.1 100 i = nd i := (f.1 _ _ (by omega)).trans (hX.2.2.1 i (by omega))
      refine ⟨fun w => ?_, fun _ => ⟨vp_in_nI (by omega) (by omega), ?_⟩⟩
      · rw [h49, nI_leI (by omega) (by omega)] at w; omega
      rw [nI_clamp (by omega), e1, e2, e3]
      refine ⟨fun w => ?_, fun w => p_sAdd g (fun M' f' g' => ?_)⟩
      · show wp_GR_gatherNode_9 Q (z + 1) (nI k) (nI i + 1) M
        rw [nI_1]
        refine ih (i + 1) M (by omega) f ?_
        show atS M 102 (tA _ (rw1 D F (inN nd k) i))
        rw [rw1_f (decide_eq_false w), tA_0]
        exact g
      · show wp_GR_gatherNode_9 Q (z + 1) (nI k) (nI i + 1) M'
        rw [nI_1]
        refine ih (i + 1) M' (by omega) ⟨fun a j n => (f'.1 a j n).trans (f.1 a j n), fun a j n => (f'.2 a j n).trans (f.2 a j n)⟩ ?_
        show atS M' 102 (tA _ (rw1 D F (inN nd k) i))
        rw [rw1_t (decide_eq_true w)]
        exact g'
  exact p_sEmpty (fun M1 f1 g1 => ⟨D.1 + 1, go D.1 0 M1 (by omega) f1 g1⟩)
theorem p_gdrawn {Q : Int32 → gM → Prop} {M : gM} {a : Int32} (h : Q (drw (M.1 94 10) a) M) : wp_GR_drawn Q a M := h
theorem clL_ge {D : tD} {F : Nat → Int64} {nd : Nat → Int32} {T : gM} {r k : Nat} {B : gS4} : ∀ c, B.1 ≤ (clL D F nd T r k B c).1 := by
  intro c
  induction c with
  | zero => show B.1 ≤ B.1; rw [l_le]; omega
  | succ c ih =>
    show B.1 ≤ (if _ then _ else _ : gS4).1
    split
    · exact ih
    · exact l_tr ih (ctL_ge 32)
theorem q_findSplit {Q : gM → Prop} {Ms : gM} {D : tD} {F : Nat → Int64} {nd : Nat → Int32} {T : gM} {r k : Nat} (hk : okD D) (hX : cX Ms D F nd) (hT : T.2 0 k = sG D F (inN nd k) D.1 ∧ T.1 5 k = nI (sH D (inN nd k) D.1)) (hw : atS Ms 102 (sT D F (inN nd k))) (hq : ∀ M', frL Ms M' → atP M' (best D F nd T r k) → Q M') : wp_GR_findSplit Q (nI k) (nI r) Ms := by
  have n40 := hk.1
  obtain ⟨g, -, hg, eg⟩ := okD_nat hk (k := 5) (lo := 0) (hi := 1000000) (by omega) rfl rfl (by omega) (by omega)
  have gz : (0 : Int64) ≤ (D.2.2 3 5).toInt64 := by
    rw [eg, nI_l (by omega), show (0 : Int64) = lN 0 from rfl, lN_le (by omega) (by omega)]
    omega
  have go : ∀ z c M, c + z = 4 → frL Ms M → atP M (clL D F nd T r k ((D.2.2 3 5).toInt64, -1, -1, -1) c) → wp_GR_findSplit_16 Q (z + 1) (nI k) (nI r) (nI c) M := by
    intro z
    induction z with
    | zero =>
      intro c M hz f p
      have e : c = 4 := by omega
      subst e
      exact ⟨fun _ => hq M f p, fun w => absurd (show (4 : Int32) ≤ nI 4 by decide) w⟩
    | succ z ih =>
      intro c M hz f p
      have XM := frL_cX n40 f hX
      refine ⟨fun w => ?_, fun _ => p_gdrawn ?_⟩
      · rw [show (4 : Int32) = nI 4 from rfl, nI_leI (by omega) (by omega)] at w; omega
      rw [XM.1.2.2 10 (by omega), XM.1.2.2 7 (by omega)]
      refine ⟨fun w => ?_, fun w => ?_⟩
      · have e : clL D F nd T r k ((D.2.2 3 5).toInt64, -1, -1, -1) (c + 1) = clL D F nd T r k ((D.2.2 3 5).toInt64, -1, -1, -1) c := if_pos w
        show wp_GR_findSplit_16 Q (z + 1) (nI k) (nI r) (nI c + 1) M
        rw [nI_1]
        exact ih (c + 1) M (by omega) f (by rw [e]; exact p)
      · have e : clL D F nd T r k ((D.2.2 3 5).toInt64, -1, -1, -1) (c + 1) = ctL D F nd T k c (clL D F nd T r k ((D.2.2 3 5).toInt64, -1, -1, -1) c) 32 := if_neg w
        refine q_tryColumn hk XM (by omega) hT ⟨(f.1 _ _ (by omega) (by omega)).trans hw.1, (f.1 _ _ (by omega) (by omega)).trans hw.2.1, (f.2 _ _ (by omega) (by omega)).trans hw.2.2⟩ p (l_tr gz (clL_ge c)) (fun M' f' p' => ?_)
        show wp_GR_findSplit_16 Q (z + 1) (nI k) (nI r) (nI c + 1) M'
        rw [nI_1]
        exact ih (c + 1) M' (by omega) (frL_tr f f') (by rw [e]; exact p')
  unfold wp_GR_findSplit
  rw [hX.1.2.2 5 (by omega)]
  exact p_become (fun M1 f1 g1 => ⟨5, go 4 0 M1 (by omega) (frB_frL (by omega) f1) g1⟩)
/-- one step down, by what the program has of the node -/
theorem p_stepC {Q : Int32 → gM → Prop} {M : gM} {b nb i c l : Nat} {x : Int32} (hi : i < 31) (hc : c < 4) (f2 : M.1 (b + 2) i = nI c) (fs : M.1 (b + 4) i = 0 ∨ M.1 (b + 4) i = 1) (f5 : M.1 (b + 5) i = nI l) (hx : M.1 nb c = x) (ix : isC x = true) (hq : Q (nI (l + if goesL x (M.1 (b + 3) i) (M.1 (b + 4) i) = true then 0 else 1)) M) : wp_TR_stepFrom Q b nb (nI i) M := by
  refine ⟨vp_in_nI (by omega) (by omega), ?_⟩
  rw [nI_clamp (by omega), f2]
  have last : ∀ v : Int32, (v = 0 ∧ goesL x (M.1 (b + 3) i) (M.1 (b + 4) i) = true) ∨ (v = 1 ∧ goesL x (M.1 (b + 3) i) (M.1 (b + 4) i) = false) → wp_TR_stepFrom_65 Q b nb (nI i) v M := by
    intro v hv
    refine ⟨vp_in_nI (by omega) (by omega), ?_⟩
    rw [nI_clamp (by omega), f5]
    rcases hv with ⟨rfl, hv⟩ | ⟨rfl, hv⟩
    · rw [hv, if_pos rfl] at hq
      refine ⟨fun _ => ?_, fun q => absurd rfl q⟩
      show Q (nI l + 0) M
      rw [Int32.add_zero]
      exact hq
    · rw [hv, if_neg (by decide)] at hq
      refine ⟨fun q => absurd q (by decide), fun _ => ?_⟩
      show Q (nI l + 1) M
      rw [nI_1]
      exact hq
  refine ⟨fun _ => ⟨vp_in_nI hc (by omega), ?_⟩, fun q => absurd q (fun z => by
    have := congrArg Int32.toInt z
    rw [nI_toInt (by omega), show (-1 : Int32).toInt = -1 from rfl] at this
    omega)⟩
  rw [nI_clamp (by omega), hx]
  rcases isC_cases ix with e | e
  · refine ⟨fun q => absurd e q, fun _ => ?_⟩
    have g : goesL x (M.1 (b + 3) i) (M.1 (b + 4) i) = decide (M.1 (b + 4) i = 0) := by
      unfold goesL
      rw [e, if_neg (by decide)]
    refine ⟨fun q => last 0 (Or.inl ⟨rfl, ?_⟩), fun q => last 1 (Or.inr ⟨rfl, ?_⟩)⟩
    · rw [g]
      rcases fs with z | z
      · simpa using z
      · exact absurd z q
    · rw [g, q]
      decide
  · have g : goesL x (M.1 (b + 3) i) (M.1 (b + 4) i) = decide (¬ M.1 (b + 3) i < x) := by
      unfold goesL
      rw [if_pos e]
    refine ⟨fun _ => ⟨fun q => last 0 (Or.inl ⟨rfl, ?_⟩), fun q => last 1 (Or.inr ⟨rfl, ?_⟩)⟩, fun q => ?_⟩
    · rw [g]
      simp only [decide_eq_true_eq]
      intro z
      rw [i_lt] at z
      rw [i_le] at q
      omega
    · rw [g]
      simp only [decide_eq_false_iff_not, Classical.not_not]
      rw [i_lt]
      rw [i_le] at q
      omega
    · rw [q] at e
      exact absurd e (by decide)
theorem p_stepLeaf {Q : Int32 → gM → Prop} {M : gM} {b nb i : Nat} (hi : i < 31) (f2 : M.1 (b + 2) i = -1) (hq : Q (nI i) M) : wp_TR_stepFrom Q b nb (nI i) M := by
  refine ⟨vp_in_nI (by omega) (by omega), ?_⟩
  rw [nI_clamp (by omega), f2]
  exact ⟨fun q => absurd rfl q, fun _ => hq⟩
/-- rows of node k go to their sides -/
theorem q_moveC {Q : gM → Prop} {Ms : gM} {D : tD} {F : Nat → Int64} {nd : Nat → Int32} {b k c l : Nat} {B : gS4} (hk : okD D) (hX : cX Ms D F nd) (hkk : k < 31) (hb : 116 ≤ b) (hc : c < 4) (hB : B.2.1 = nI c) (f2 : Ms.1 (b + 2) k = nI c) (f3 : Ms.1 (b + 3) k = B.2.2.1) (f4 : Ms.1 (b + 4) k = B.2.2.2) (fs : B.2.2.2 = 0 ∨ B.2.2.2 = 1) (f5 : Ms.1 (b + 5) k = nI l) (hq : ∀ M', (∀ a j, a ≠ 100 → M'.1 a j = Ms.1 a j) → (∀ a j, M'.2 a j = Ms.2 a j) → (∀ i, i < D.1 → M'.1 100 i = mvN D nd k l B i) → Q M') : wp_GR_moveRows Q b (nI k) Ms := by
  have n40 := hk.1
  have go : ∀ z i M, i + z = D.1 → (∀ a j, a ≠ 100 → M.1 a j = Ms.1 a j) → (∀ a j, M.2 a j = Ms.2 a j) → (∀ q, q < D.1 → M.1 100 q = if q < i then mvN D nd k l B q else nd q) → wp_GR_moveRows_2 Q b (z + 1) (nI k) (nI i) M := by
    intro z
    induction z with
    | zero =>
      intro i M hz v1 v2 v3
      have e : i = D.1 := by omega
      subst e
      have h49 : M.1 49 4 = nI D.1 := by rw [v1 _ _ (by omega)]; exact hX.1.1
      exact ⟨fun _ => hq M v1 v2 (fun i hi => by rw [v3 i hi, if_pos hi]), fun w => absurd (by rw [h49]; exact nI_le (Nat.le_refl _) (by omega)) w⟩
    | succ z ih =>
      intro i M hz v1 v2 v3
      have h49 : M.1 49 4 = nI D.1 := by rw [v1 _ _ (by omega)]; exact hX.1.1
      have hvi := v3 i (by omega)
      rw [if_neg (by omega)] at hvi
      refine ⟨fun w => ?_, fun _ => ⟨vp_in_nI (by omega) (by omega), ?_⟩⟩
      · rw [h49, nI_leI (by omega) (by omega)] at w; omega
      rw [nI_clamp (by omega), hvi]
      refine ⟨fun w => ?_, fun w => ?_⟩
      · show wp_GR_moveRows_2 Q b (z + 1) (nI k) (nI i + 1) M
        rw [nI_1]
        refine ih (i + 1) M (by omega) v1 v2 (fun j hj => ?_)
        rw [v3 j hj]
        by_cases e : j = i
        · subst e
          rw [if_neg (by omega), if_pos (by omega)]
          unfold mvN
          rw [if_neg w]
        · by_cases e2 : j < i
          · rw [if_pos e2, if_pos (by omega)]
          · rw [if_neg e2, if_neg (by omega)]
      · have cell : M.1 (51 + i) c = D.2.1 i c := (v1 _ _ (by omega)).trans ((hX.1.2.1 i (by omega)).1 c hc)
        refine p_stepC (l := l) hkk hc ((v1 _ _ (by omega)).trans f2) (by rw [v1 _ _ (by omega), f4]; exact fs) ((v1 _ _ (by omega)).trans f5) cell ((hk.2.1 i (by omega)).1 c hc) ?_
        rw [v1 _ _ (by omega), v1 _ _ (by omega), f3, f4]
        show wp_GR_moveRows_2 Q b (z + 1) (nI k) (nI i + 1) _
        rw [nI_1]
        refine ih (i + 1) _ (by omega) (fun a j n => by rw [wi_ne (Or.inl n)]; exact v1 a j n) v2 (fun j hj => ?_)
        by_cases e : j = i
        · subst e
          rw [wi_eq, if_pos (show j < j + 1 by omega)]
          unfold mvN
          rw [if_pos w, hB, nI_clamp (by omega)]
          cases goesL (D.2.1 j c) B.2.2.1 B.2.2.2
          · rfl
          · rfl
        · rw [wi_ne (Or.inr e), v3 j hj]
          by_cases e2 : j < i
          · rw [if_pos e2, if_pos (by omega)]
          · rw [if_neg e2, if_neg (by omega)]
  exact ⟨D.1 + 1, go D.1 0 Ms (by omega) (fun _ _ _ => rfl) (fun _ _ => rfl) (fun q hq2 => by rw [if_neg (by omega)]; exact hX.2.2.1 q hq2)⟩
theorem aim_l {y : Int32} (h : inR (-100) 100 y = true) : ((256 : Int32) * y).toInt64 = 256 * y.toInt64 := by
  obtain ⟨g1, g2⟩ := inR_t.mp h
  rw [i_le, show (-100 : Int32).toInt = -100 from rfl] at g1
  rw [i_le, show (100 : Int32).toInt = 100 from rfl] at g2
  apply Int64.toInt_inj.mp
  rw [Int32.toInt_toInt64, Int32.toInt_mul, Int64.toInt_mul, Int32.toInt_toInt64, show (256 : Int32).toInt = 256 from rfl, show (256 : Int64).toInt = 256 from rfl]
  rw [Int.bmod_eq_of_le (by omega) (by omega), Int.bmod_eq_of_le (by omega) (by omega)]
/-- rows are drawn, slopes laid -/
theorem q_drawRows {Q : gM → Prop} {Ms : gM} {D : tD} {F : Nat → Int64} {r : Nat} (hk : okD D) (hD : cdD Ms D) (hO : ∀ c, c < 4 → ordM Ms D c D.1) (hN : atS Ms 107 (0, 0, 0)) (hF : ∀ i, i < D.1 → Ms.2 110 i = F i) (hq : ∀ M', (∀ a j, a ≠ 100 → M'.1 a j = Ms.1 a j) → (∀ a j, a ≠ 101 → M'.2 a j = Ms.2 a j) → cX M' D F (nd0 D r) → Q M') : wp_GR_drawRows Q (nI r) Ms := by
  have n40 := hk.1
  have go : ∀ z i M, i + z = D.1 → (∀ a j, a ≠ 100 → M.1 a j = Ms.1 a j) → (∀ a j, a ≠ 101 → M.2 a j = Ms.2 a j) → (∀ q, q < i → M.1 100 q = nd0 D r q ∧ M.2 101 q = slp D F q) → wp_GR_drawRows_2 Q (z + 1) (nI r) (nI i) M := by
    intro z
    induction z with
    | zero =>
      intro i M hz v1 v2 v3
      have e : i = D.1 := by omega
      subst e
      have h49 : M.1 49 4 = nI D.1 := by rw [v1 _ _ (by omega)]; exact hD.1
      refine ⟨fun _ => hq M v1 v2 ⟨cdD_fr n40 hD (fun k j q => v1 _ _ (by omega)), fun c hc => ordM_fr (hO c hc) (fun q _ => v1 _ _ (by omega)), fun i hi => (v3 i hi).1, fun i hi => (v3 i hi).2, (v1 _ _ (by omega)).trans hN.1, (v1 _ _ (by omega)).trans hN.2.1, (v2 _ _ (by omega)).trans hN.2.2⟩, fun w => absurd (by rw [h49]; exact nI_le (Nat.le_refl _) (by omega)) w⟩
    | succ z ih =>
      intro i M hz v1 v2 v3
      have h49 : M.1 49 4 = nI D.1 := by rw [v1 _ _ (by omega)]; exact hD.1
      obtain ⟨-, d1, d2, d3⟩ := hD.2.1 i (by omega)
      have aim := (hk.2.1 i (by omega)).2.1
      have s94 : ∀ q, q < 15 → M.1 94 q = D.2.2 3 q := fun q hq2 => (v1 _ _ (by omega)).trans (hD.2.2 q hq2)
      refine ⟨fun w => ?_, fun _ => ⟨vp_in_nI (by omega) (by omega), ?_⟩⟩
      · rw [h49, nI_leI (by omega) (by omega)] at w; omega
      have last : ∀ t, nd0 D r i = t → wp_GR_drawRows_67 Q (wp_GR_drawRows_2 Q (z + 1)) (nI r) (nI i) t (nI i) M := by
        intro t ht
        refine ⟨vp_in_nI (by omega) (by omega), vp_in_nI (by omega) (by omega), ?_⟩
        rw [nI_clamp (by omega), v1 92 _ (by omega), d2, v1 91 _ (by omega), d1, v2 110 _ (by omega), hF i (by omega), aim_l aim, nI_1]
        refine ih (i + 1) _ (by omega) (fun a j n => ?_) (fun a j n => ?_) (fun q hq2 => ?_)
        · show (wi M 100 i t).1 a j = _
          rw [wi_ne (Or.inl n)]; exact v1 a j n
        · rw [wl_ne (Or.inl n)]; exact v2 a j n
        · by_cases e : q = i
          · subst e
            exact ⟨by show (wi M 100 q t).1 100 q = _; rw [wi_eq, ht], wl_eq⟩
          · refine ⟨?_, ?_⟩
            · show (wi M 100 i t).1 100 q = _
              rw [wi_ne (Or.inr e)]; exact (v3 q (by omega)).1
            · rw [wl_ne (Or.inr e)]; exact (v3 q (by omega)).2
      have no : prt D r i = false → wp_GR_drawRows_49 Q (wp_GR_drawRows_2 Q (z + 1)) (nI r) (nI i) M := fun h => ⟨fun _ => last (-1) (by unfold nd0; rw [h]; rfl), fun w => absurd rfl w⟩
      have yes : prt D r i = true → wp_GR_drawRows_50 Q (wp_GR_drawRows_2 Q (z + 1)) (nI r) (nI i) 1 M := fun h => ⟨fun w => absurd w (by decide), fun _ => last 0 (by unfold nd0; rw [h]; rfl)⟩
      rw [nI_clamp (by omega), v1 93 _ (by omega), d3]
      refine ⟨fun w => no ?_, fun w => p_gdrawn ?_⟩
      · unfold prt; rw [decide_eq_false w]; rfl
      · rw [s94 10 (by omega), s94 6 (by omega)]
        refine ⟨fun y => no ?_, fun y => yes ?_⟩
        · unfold prt; rw [decide_eq_true w, decide_eq_false (fun z => z y)]; rfl
        · unfold prt; rw [decide_eq_true w, decide_eq_true y]; rfl
  exact ⟨D.1 + 1, go D.1 0 Ms (by omega) (fun _ _ _ => rfl) (fun _ _ _ => rfl) (fun q hq2 => absurd hq2 (by omega))⟩

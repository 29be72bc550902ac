/-- sums as they stand at an object of the program -/
def atS (M : gM) (b : Nat) (t : tri) : Prop := M.1 b 0 = nI t.2.2 ∧ M.1 b 1 = nI t.2.1 ∧ M.2 b 2 = t.1
def okTr (t : tri) : Prop := t.2.2 ≤ 40 ∧ t.2.1 ≤ 320 ∧ (t.2.1 = 0 → t.1 = 0)
def frB (b : Nat) (M M' : gM) : Prop := (∀ k j, k ≠ b → M'.1 k j = M.1 k j) ∧ ∀ k j, k ≠ b → M'.2 k j = M.2 k j
theorem atS_fr {M M' : gM} {b a : Nat} {t : tri} (f : frB b M M') (h : atS M a t) (n : a ≠ b) : atS M' a t := ⟨(f.1 _ _ n).trans h.1, (f.1 _ _ n).trans h.2.1, (f.2 _ _ n).trans h.2.2⟩
theorem sG_0 {D : tD} {F : Nat → Int64} {S : Nat → Bool} : ∀ n, sN S n = 0 → sG D F S n = 0 := by
  intro n
  induction n with
  | zero => exact fun _ => rfl
  | succ n ih =>
    intro e
    cases h : S n
    · rw [sN_f h] at e
      rw [sG_f h]
      exact ih e
    · rw [sN_t h] at e; omega
theorem sT_ok {D : tD} {F : Nat → Int64} {S : Nat → Bool} (hk : okD D) : okTr (sT D F S) := by
  have n40 := hk.1
  have := sN_le (S := S) D.1
  have := sH_le hk (S := S) D.1 (Nat.le_refl _)
  refine ⟨by show sN S D.1 ≤ 40; omega, by show sH D S D.1 ≤ 320; omega, fun e => sG_0 D.1 (sH_0 hk D.1 (Nat.le_refl _) e)⟩
theorem p_sEmpty {Q : gM → Prop} {M : gM} {b : Nat} (hq : ∀ M', frB b M M' → atS M' b (0, 0, 0) → Q M') : wp_SM_empty Q b M := by
  refine hq _ ⟨fun k j n => ?_, fun k j n => ?_⟩ ⟨?_, ?_, wl_eq⟩
  · show (wi (wi M b 0 0) b 1 0).1 k j = _
    rw [wi_ne (Or.inl n), wi_ne (Or.inl n)]
  · rw [wl_ne (Or.inl n)]; rfl
  · show (wi (wi M b 0 0) b 1 0).1 b 0 = _
    rw [wi_ne (by omega), wi_eq]
    rfl
  · show (wi (wi M b 0 0) b 1 0).1 b 1 = _
    rw [wi_eq]
    rfl
theorem p_sAdd {Q : gM → Prop} {M : gM} {b w : Nat} {g : Int64} {t : tri} (h : atS M b t) (hq : ∀ M', frB b M M' → atS M' b (tA t (g, w, 1)) → Q M') : wp_SM_addRow Q b g (nI w) M := by
  refine hq _ ⟨fun k j n => ?_, fun k j n => ?_⟩ ⟨?_, ?_, ?_⟩
  · show (wi (wi M b 0 _) b 1 _).1 k j = _
    rw [wi_ne (Or.inl n), wi_ne (Or.inl n)]
  · rw [wl_ne (Or.inl n)]; rfl
  · show (wi (wi M b 0 _) b 1 _).1 b 0 = _
    rw [wi_ne (by omega), wi_eq, h.1, nI_1]
    rfl
  · show (wi (wi M b 0 _) b 1 _).1 b 1 = _
    rw [wi_eq, wi_ne (by omega), h.2.1, nI_add]
    rfl
  · rw [wl_eq, h.2.2]
    rfl
theorem p_sSum {Q : gM → Prop} {M : gM} {b b1 b2 : Nat} {t u : tri} (n1 : b1 ≠ b) (n2 : b2 ≠ b) (h1 : atS M b1 t) (h2 : atS M b2 u) (hq : ∀ M', frB b M M' → atS M' b (tA t u) → Q M') : wp_SM_becomeSum Q b b1 b2 M := by
  refine hq _ ⟨fun k j n => ?_, fun k j n => ?_⟩ ⟨?_, ?_, ?_⟩
  · show (wi (wi M b 0 _) b 1 _).1 k j = _
    rw [wi_ne (Or.inl n), wi_ne (Or.inl n)]
  · rw [wl_ne (Or.inl n)]; rfl
  · show (wi (wi M b 0 _) b 1 _).1 b 0 = _
    rw [wi_ne (by omega), wi_eq, h1.1, h2.1, nI_add]
    rfl
  · show (wi (wi M b 0 _) b 1 _).1 b 1 = _
    rw [wi_eq, wi_ne (Or.inl n1), wi_ne (Or.inl n2), h1.2.1, h2.2.1, nI_add]
    rfl
  · rw [wl_eq, h1.2.2, h2.2.2]
    rfl
theorem l_sub (a b : Int64) : a + b - a = b := by rw [Int64.add_comm]; exact Int64.add_sub_cancel b a
theorem n_sub (a b : Nat) : nI (a + b) - nI a = nI b := by rw [pk_sub (by omega)]; congr 1; omega
theorem p_sRest {Q : gM → Prop} {M : gM} {b b1 b2 : Nat} {t u : tri} (n1 : b1 ≠ b) (n2 : b2 ≠ b) (h1 : atS M b1 (tA t u)) (h2 : atS M b2 t) (hq : ∀ M', frB b M M' → atS M' b u → Q M') : wp_SM_becomeRest Q b b1 b2 M := by
  refine hq _ ⟨fun k j n => ?_, fun k j n => ?_⟩ ⟨?_, ?_, ?_⟩
  · show (wi (wi M b 0 _) b 1 _).1 k j = _
    rw [wi_ne (Or.inl n), wi_ne (Or.inl n)]
  · rw [wl_ne (Or.inl n)]; rfl
  · show (wi (wi M b 0 _) b 1 _).1 b 0 = _
    rw [wi_ne (by omega), wi_eq, h1.1, h2.1]
    exact n_sub _ _
  · show (wi (wi M b 0 _) b 1 _).1 b 1 = _
    rw [wi_eq, wi_ne (Or.inl n1), wi_ne (Or.inl n2), h1.2.1, h2.2.1]
    exact n_sub _ _
  · rw [wl_eq, h1.2.2, h2.2.2]
    exact l_sub _ _
theorem den_e {h a : Nat} (hh : h ≤ 320) (ha : a ≤ 1000) : (nI h).toInt64 + (nI a).toInt64 = (nI h + nI a).toInt64 := by rw [nI_l (by omega), nI_l (by omega), lN_add, nI_add, nI_l (by omega)]
theorem den_0 {h a : Nat} (hh : h ≤ 320) (ha : a ≤ 1000) (e : (nI h + nI a).toInt64 = 0) : h = 0 := by
  rcases Nat.eq_zero_or_pos h with q | q
  · exact q
  · exact absurd e (den_ne hh ha q)
theorem nI_nz {h : Nat} (hh : h ≤ 320) (q : ¬ h = 0) : ¬ nI h = 0 := fun z => q (by rw [show (0 : Int32) = nI 0 from rfl, nI_eq (by omega) (by omega)] at z; exact z)
theorem p_vWith {Q : Int64 → gM → Prop} {M : gM} {b a : Nat} {t : tri} (h : atS M b t) (ok : okTr t) (ha : a ≤ 1000) (hq : Q (valJ t.1 (nI t.2.1) (nI a)) M) : wp_SM_valueWith Q b (nI a) M := by
  obtain ⟨g, hh, nn⟩ := t
  obtain ⟨h1, h2, h3⟩ := h
  obtain ⟨o1, o2, o3⟩ := ok
  have h2 : M.1 b 1 = nI hh := h2
  have h3 : M.2 b 2 = g := h3
  unfold wp_SM_valueWith
  rw [h2, h3]
  have hq : Q (valJ g (nI hh) (nI a)) M := hq
  have o2 : hh ≤ 320 := o2
  have o3 : hh = 0 → g = 0 := o3
  rw [den_e o2 ha]
  unfold valJ at hq
  refine ⟨fun c => ⟨c, ?_⟩, fun c => ?_⟩
  · by_cases q : hh = 0
    · rw [q, if_pos (show nI 0 = 0 from rfl)] at hq
      rw [q, o3 q, Int64.neg_zero, Int64.zero_div]
      exact hq
    · rw [if_neg (nI_nz o2 q)] at hq
      exact hq
  · rw [den_0 o2 ha c, if_pos (show nI 0 = 0 from rfl)] at hq
    exact hq
theorem p_wWith {Q : Int64 → gM → Prop} {M : gM} {b a : Nat} {t : tri} (h : atS M b t) (ok : okTr t) (ha : a ≤ 1000) (hq : Q (worJ t.1 (nI t.2.1) (nI a)) M) : wp_SM_worthWith Q b (nI a) M := by
  obtain ⟨g, hh, nn⟩ := t
  obtain ⟨h1, h2, h3⟩ := h
  obtain ⟨o1, o2, o3⟩ := ok
  have h2 : M.1 b 1 = nI hh := h2
  have h3 : M.2 b 2 = g := h3
  unfold wp_SM_worthWith
  rw [h2, h3]
  have hq : Q (worJ g (nI hh) (nI a)) M := hq
  have o2 : hh ≤ 320 := o2
  have o3 : hh = 0 → g = 0 := o3
  rw [den_e o2 ha]
  unfold worJ at hq
  refine ⟨fun c => ⟨c, ?_⟩, fun c => ?_⟩
  · by_cases q : hh = 0
    · rw [q, if_pos (show nI 0 = 0 from rfl)] at hq
      rw [q, o3 q, Int64.zero_mul, Int64.zero_div]
      exact hq
    · rw [if_neg (nI_nz o2 q)] at hq
      exact hq
  · rw [den_0 o2 ha c, if_pos (show nI 0 = 0 from rfl)] at hq
    exact hq
def keepB (s : Int32) (l r : Int64) : Bool := decide (¬ ((s = 1 ∧ r < l) ∨ (s = -1 ∧ l < r)))
theorem p_keepsSign {Q : Int32 → gM → Prop} {M : gM} {s : Int32} {l r : Int64} (hs : s = 0 ∨ s = 1 ∨ s = -1) (hq : Q (bI (keepB s l r)) M) : wp_GR_keepsSign Q s l r M := by
  have y : ¬ ((s = 1 ∧ r < l) ∨ (s = -1 ∧ l < r)) → Q 1 M := fun z => bI_1 hq (decide_eq_true z)
  have n : ((s = 1 ∧ r < l) ∨ (s = -1 ∧ l < r)) → Q 0 M := fun z => bI_0 hq (decide_eq_false (fun w => w z))
  rcases hs with rfl | rfl | rfl
  · exact ⟨fun _ => y (fun z => z.elim (fun z => absurd z.1 (by decide)) (fun z => absurd z.1 (by decide))), fun w => absurd rfl w⟩
  · refine ⟨fun w => absurd w (by decide), fun _ => ⟨fun w => absurd w (by decide), fun _ => ⟨fun w => n (Or.inl ⟨rfl, w⟩), fun w => y (fun z => z.elim (fun z => w z.2) (fun z => absurd z.1 (by decide)))⟩⟩⟩
  · refine ⟨fun w => absurd w (by decide), fun _ => ⟨fun _ => ⟨fun w => n (Or.inr ⟨rfl, w⟩), fun w => y (fun z => z.elim (fun z => absurd z.1 (by decide)) (fun z => w z.2))⟩, fun w => absurd (by decide) w⟩⟩
/-- the best split so far, as it stands in the program -/
def atP (M : gM) (B : gS4) : Prop := M.1 108 0 = B.2.1 ∧ M.1 108 1 = B.2.2.1 ∧ M.1 108 2 = B.2.2.2 ∧ M.2 108 3 = B.1
theorem p_become {Q : gM → Prop} {M : gM} {a b c : Int32} {d : Int64} (hq : ∀ M', frB 108 M M' → atP M' (d, a, b, c) → Q M') : wp_SP_become Q a b c d M := by
  refine hq _ ⟨fun k j n => ?_, fun k j n => ?_⟩ ⟨?_, ?_, ?_, wl_eq⟩
  · show (wi (wi (wi M 108 0 a) 108 1 b) 108 2 c).1 k j = _
    rw [wi_ne (Or.inl n), wi_ne (Or.inl n), wi_ne (Or.inl n)]
  · rw [wl_ne (Or.inl n)]; rfl
  · show (wi (wi (wi M 108 0 a) 108 1 b) 108 2 c).1 108 0 = _
    rw [wi_ne (by omega), wi_ne (by omega), wi_eq]
  · show (wi (wi (wi M 108 0 a) 108 1 b) 108 2 c).1 108 1 = _
    rw [wi_ne (by omega), wi_eq]
  · show (wi (wi (wi M 108 0 a) 108 1 b) 108 2 c).1 108 2 = _
    rw [wi_eq]
theorem sgn_ok {D : tD} (h : okD D) {c : Nat} (hc : c < 4) : D.2.2 3 (11 + c) = 0 ∨ D.2.2 3 (11 + c) = 1 ∨ D.2.2 3 (11 + c) = -1 := by
  have r := h.2.2 (11 + c) (by omega)
  have e : c_LOWEST (11 + c) = -1 ∧ c_HIGHEST (11 + c) = 1 := by
    rcases (show c = 0 ∨ c = 1 ∨ c = 2 ∨ c = 3 by omega) with rfl | rfl | rfl | rfl <;> exact ⟨rfl, rfl⟩
  rw [e.1, e.2] at r
  obtain ⟨g1, g2⟩ := inR_t.mp r
  rw [i_le, show (-1 : Int32).toInt = -1 from rfl] at g1
  rw [i_le, show (1 : Int32).toInt = 1 from rfl] at g2
  rcases (show (D.2.2 3 (11 + c)).toInt = 0 ∨ (D.2.2 3 (11 + c)).toInt = 1 ∨ (D.2.2 3 (11 + c)).toInt = -1 by omega) with h | h | h
  · exact Or.inl (Int32.toInt_inj.mp h)
  · exact Or.inr (Or.inl (Int32.toInt_inj.mp h))
  · exact Or.inr (Or.inr (Int32.toInt_inj.mp h))
theorem l_le {a b : Int64} : a ≤ b ↔ a.toInt ≤ b.toInt := Int64.le_iff_toInt_le
theorem m1_le {b : Int64} (h : (0 : Int64) ≤ b) : (-1 : Int64) ≤ b := by
  rw [l_le, show (0 : Int64).toInt = 0 from rfl] at h
  rw [l_le, show (-1 : Int64).toInt = -1 from rfl]
  omega
/-- what trying a split may change -/
def frP (M M' : gM) : Prop := (∀ k j, k ≠ 105 → k ≠ 106 → k ≠ 108 → M'.1 k j = M.1 k j) ∧ ∀ k j, k ≠ 105 → k ≠ 106 → k ≠ 108 → M'.2 k j = M.2 k j
theorem q_try23 {Q : gM → Prop} {M : gM} {D : tD} {F : Nat → Int64} {nd : Nat → Int32} {T : gM} {k c t0 : Nat} {cut side : Int32} {be x : tri} {B : gS4} (hk : okD D) (hD : cdD M D) (hc : c < 4) (hT : T.2 0 k = sG D F (inN nd k) D.1 ∧ T.1 5 k = nI (sH D (inN nd k) D.1)) (ht : t0 = 103 ∨ t0 = 107) (hw : atS M 102 (sT D F (inN nd k))) (hb : atS M 104 be) (hx : atS M t0 x) (hs : tA be x = sT D F (inL D nd k c cut side true)) (hP : atP M B) (hB : (0 : Int64) ≤ B.1)
    (hq : ∀ M', frP M M' → atP M' (imp (dif D F nd T k c cut side) (nI c) cut side B) → Q M') : wp_GR_trySplit_23 Q (nI c) cut side t0 M := by
  obtain ⟨a, -, ha, ea⟩ := okD_nat hk (k := 2) (lo := 0) (hi := 1000) (by omega) rfl rfl (by omega) (by omega)
  have s94 : ∀ q, q < 15 → M.1 94 q = D.2.2 3 q := hD.2.2
  have un : sT D F (inN nd k) = tA (sT D F (inL D nd k c cut side true)) (sT D F (inL D nd k c cut side false)) := by
    have := sums_or (D := D) (F := F) (S := inN nd k) (A := inL D nd k c cut side true) (B := inL D nd k c cut side false) (n := D.1) (fun i _ => ?_)
    · exact Prod.ext this.1 (Prod.ext this.2.1 this.2.2)
    · unfold inL
      cases inN nd k i <;> cases goesL (D.2.1 i c) cut side <;> decide
  have oL := sT_ok (F := F) (S := inL D nd k c cut side true) hk
  have oR := sT_ok (F := F) (S := inL D nd k c cut side false) hk
  have oW := sT_ok (F := F) (S := inN nd k) hk
  refine p_sSum (t := be) (u := x) (by omega) (by omega) hb hx (fun M2 f2 g2 => ?_)
  rw [hs] at g2
  have w2 := atS_fr f2 hw (by omega)
  rw [un] at w2
  refine p_sRest (by omega) (by omega) w2 g2 (fun M4 f4 g4 => ?_)
  have l4 := atS_fr f4 g2 (by omega)
  have w4 := atS_fr f4 w2 (by omega)
  rw [← un] at w4
  have fr : frP M M4 := ⟨fun i j a b c => (f4.1 i j b).trans (f2.1 i j a), fun i j a b c => (f4.2 i j b).trans (f2.2 i j a)⟩
  have e94 : ∀ q, q < 15 → M4.1 94 q = D.2.2 3 q := fun q hq2 => (fr.1 _ _ (by omega) (by omega) (by omega)).trans (s94 q hq2)
  have p4 : atP M4 B := by
    unfold atP
    rw [f4.1 _ _ (by omega), f4.1 _ _ (by omega), f4.1 _ _ (by omega), f4.2 _ _ (by omega), f2.1 _ _ (by omega), f2.1 _ _ (by omega), f2.1 _ _ (by omega), f2.2 _ _ (by omega)]
    exact hP
  rw [l4.1, g4.1, e94 1 (by omega), e94 2 (by omega), ea]
  have none : ∀ d, dif D F nd T k c cut side = d → d ≤ B.1 → Q M4 := fun d e1 e2 => hq M4 fr (by rw [e1, imp_t e2]; exact p4)
  refine ⟨fun q => none (-1) (dif_a (Or.inl q)) (m1_le hB), fun q => ⟨fun q2 => ?_, fun q2 => none (-1) (dif_a (Or.inr ?_)) (m1_le hB)⟩⟩
  · have h0 : ¬ (nI (sN (inL D nd k c cut side true) D.1) < D.2.2 3 1 ∨ nI (sN (inL D nd k c cut side false) D.1) < D.2.2 3 1) := fun z => z.elim q (fun z => by
      have q2 : D.2.2 3 1 ≤ nI (sN (inL D nd k c cut side false) D.1) := q2
      rw [i_lt] at z; rw [i_le] at q2; omega)
    refine p_wWith l4 oL ha (p_wWith g4 oR ha (p_wWith w4 oW ha ?_))
    rw [p4.2.2.2]
    obtain ⟨dd, hdd⟩ : ∃ dd, dd = worJ (sT D F (inL D nd k c cut side true)).1 (nI (sT D F (inL D nd k c cut side true)).2.1) (nI a) + worJ (sT D F (inL D nd k c cut side false)).1 (nI (sT D F (inL D nd k c cut side false)).2.1) (nI a) - worJ (sT D F (inN nd k)).1 (nI (sT D F (inN nd k)).2.1) (nI a) := ⟨_, rfl⟩
    rw [← hdd]
    have edd : dd = worJ (sG D F (inL D nd k c cut side true) D.1) (nI (sH D (inL D nd k c cut side true) D.1)) (D.2.2 3 2) + worJ (sG D F (inL D nd k c cut side false) D.1) (nI (sH D (inL D nd k c cut side false) D.1)) (D.2.2 3 2) - worJ (T.2 0 k) (T.1 5 k) (D.2.2 3 2) := by
      rw [hT.1, hT.2, ea]
      exact hdd
    refine ⟨fun q3 => ?_, fun q3 => ?_⟩
    · by_cases z : (D.2.2 3 (11 + c) = 1 ∧ valJ (sG D F (inL D nd k c cut side false) D.1) (nI (sH D (inL D nd k c cut side false) D.1)) (D.2.2 3 2) < valJ (sG D F (inL D nd k c cut side true) D.1) (nI (sH D (inL D nd k c cut side true) D.1)) (D.2.2 3 2)) ∨ (D.2.2 3 (11 + c) = -1 ∧ valJ (sG D F (inL D nd k c cut side true) D.1) (nI (sH D (inL D nd k c cut side true) D.1)) (D.2.2 3 2) < valJ (sG D F (inL D nd k c cut side false) D.1) (nI (sH D (inL D nd k c cut side false) D.1)) (D.2.2 3 2))
      · exact none (-1) (dif_b h0 z) (m1_le hB)
      · exact none dd (by rw [dif_c h0 z, edd]) q3
    · rw [show (11 : Int32) = nI 11 from rfl, nI_add]
      refine ⟨vp_in_nI (by omega) (by omega), p_vWith l4 oL ha (p_vWith g4 oR ha ?_)⟩
      rw [nI_clamp (by omega), e94 (11 + c) (by omega)]
      refine p_keepsSign (sgn_ok hk hc) ⟨fun z => ?_, fun z => ?_⟩
      · have z := bI_z z
        unfold keepB at z
        have z := Classical.byContradiction (fun w => of_decide_eq_false z w)
        refine none (-1) (dif_b h0 ?_) (m1_le hB)
        rw [ea]
        exact z
      · have z := bI_nz z
        unfold keepB at z
        have z := of_decide_eq_true z
        have ed : dif D F nd T k c cut side = dd := by
          rw [dif_c h0 (by rw [ea]; exact z), edd]
        rw [ed, imp_f q3] at hq
        exact p_become (fun M' f' g' => hq M' ⟨fun i j a b c => (f'.1 i j c).trans (fr.1 i j a b c), fun i j a b c => (f'.2 i j c).trans (fr.2 i j a b c)⟩ g')
  · have q2 : ¬ D.2.2 3 1 ≤ nI (sN (inL D nd k c cut side false) D.1) := q2
    rw [i_lt]; rw [i_le] at q2; omega

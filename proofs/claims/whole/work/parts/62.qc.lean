theorem dif_a {D : tD} {F : Nat → Int64} {nd : Nat → Int32} {T : gM} {k c : Nat} {cut side : Int32} (h : nI (sN (inL D nd k c cut side true) D.1) < D.2.2 3 1 ∨ nI (sN (inL D nd k c cut side false) D.1) < D.2.2 3 1) : dif D F nd T k c cut side = -1 := if_pos h
theorem dif_b {D : tD} {F : Nat → Int64} {nd : Nat → Int32} {T : gM} {k c : Nat} {cut side : Int32} (h0 : ¬ (nI (sN (inL D nd k c cut side true) D.1) < D.2.2 3 1 ∨ nI (sN (inL D nd k c cut side false) D.1) < D.2.2 3 1)) (h : (D.2.2 3 (11 + c) = 1 ∧ valJ (sG D F (inL D nd k c cut side false) D.1) (nI (sH D (inL D nd k c cut side false) D.1)) (D.2.2 3 2) < valJ (sG D F (inL D nd k c cut side true) D.1) (nI (sH D (inL D nd k c cut side true) D.1)) (D.2.2 3 2)) ∨ (D.2.2 3 (11 + c) = -1 ∧ valJ (sG D F (inL D nd k c cut side true) D.1) (nI (sH D (inL D nd k c cut side true) D.1)) (D.2.2 3 2) < valJ (sG D F (inL D nd k c cut side false) D.1) (nI (sH D (inL D nd k c cut side false) D.1)) (D.2.2 3 2))) : dif D F nd T k c cut side = -1 := (if_neg h0).trans (if_pos h)
theorem dif_c {D : tD} {F : Nat → Int64} {nd : Nat → Int32} {T : gM} {k c : Nat} {cut side : Int32} (h0 : ¬ (nI (sN (inL D nd k c cut side true) D.1) < D.2.2 3 1 ∨ nI (sN (inL D nd k c cut side false) D.1) < D.2.2 3 1)) (h : ¬ ((D.2.2 3 (11 + c) = 1 ∧ valJ (sG D F (inL D nd k c cut side false) D.1) (nI (sH D (inL D nd k c cut side false) D.1)) (D.2.2 3 2) < valJ (sG D F (inL D nd k c cut side true) D.1) (nI (sH D (inL D nd k c cut side true) D.1)) (D.2.2 3 2)) ∨ (D.2.2 3 (11 + c) = -1 ∧ valJ (sG D F (inL D nd k c cut side true) D.1) (nI (sH D (inL D nd k c cut side true) D.1)) (D.2.2 3 2) < valJ (sG D F (inL D nd k c cut side false) D.1) (nI (sH D (inL D nd k c cut side false) D.1)) (D.2.2 3 2)))) : dif D F nd T k c cut side = (worJ (sG D F (inL D nd k c cut side true) D.1) (nI (sH D (inL D nd k c cut side true) D.1)) (D.2.2 3 2) + worJ (sG D F (inL D nd k c cut side false) D.1) (nI (sH D (inL D nd k c cut side false) D.1)) (D.2.2 3 2)) - worJ (T.2 0 k) (T.1 5 k) (D.2.2 3 2) := (if_neg h0).trans (if_neg h)
theorem i64_nlt {a b : Int64} : ¬ a < b ↔ b ≤ a := by rw [Int64.lt_iff_toInt_lt, Int64.le_iff_toInt_le]; omega
theorem q_difference {Q : Int64 → gM → Prop} {M : gM} {D : tD} {F : Nat → Int64} {nd : Nat → Int32} {T : gM} {x k c hn : Nat} {cut side : Int32} (hk : okD D) (hX : mX M D F nd) (hc : c < 4) (hx : x < 384) (t1 : M.2 295 x = T.2 0 k) (t2 : M.1 293 x = T.1 5 k) (t3 : T.1 5 k = nI hn) (t4 : hn ≤ 320) (hq : ∀ M', (∃ g h cc, M' = sc M g h cc) → Q (dif D F nd T k c cut side) M') : wp_MD_difference Q (nI x) (nI k) (nI c) cut side M := by
  have n40 := hk.1
  obtain ⟨a, -, ha, ea⟩ := okD_nat hk (k := 2) (lo := 0) (hi := 1000) (by omega) rfl rfl (by omega) (by omega)
  obtain ⟨le, -, hle, ele⟩ := okD_nat hk (k := 1) (lo := 1) (hi := 20) (by omega) rfl rfl (by omega) (by omega)
  have hHL := sH_le hk (S := inL D nd k c cut side true) D.1 (Nat.le_refl _)
  have hHR := sH_le hk (S := inL D nd k c cut side false) D.1 (Nat.le_refl _)
  have hNL := sN_le (S := inL D nd k c cut side true) D.1
  have hNR := sN_le (S := inL D nd k c cut side false) D.1
  unfold wp_MD_difference
  refine q_sumSide (lb := true) hk hX hc ?_
  refine q_sumSide (lb := false) hk (mX_sc hX) hc ?_
  have eM : scS (scS M D F (inL D nd k c cut side true) D.1) D F (inL D nd k c cut side false) D.1 = scS M D F (inL D nd k c cut side false) D.1 := sc_sc
  rw [eM]
  have hX3 : mX (scS M D F (inL D nd k c cut side false) D.1) D F nd := mX_sc hX
  have s1 : ∀ M', M' = scS M D F (inL D nd k c cut side false) D.1 → M'.1 283 1 = D.2.2 3 1 ∧ M'.1 283 2 = D.2.2 3 2 ∧ (∀ q, q < 15 → M'.1 283 q = D.2.2 3 q) := by
    intro M' e
    subst e
    exact ⟨hX3.1.2.2 1 (by omega), hX3.1.2.2 2 (by omega), hX3.1.2.2⟩
  have l1 : (scS M D F (inL D nd k c cut side true) D.1).1 273 31 = nI (sN (inL D nd k c cut side true) D.1) := sc_c
  have l2 : (scS M D F (inL D nd k c cut side true) D.1).1 273 30 = nI (sH D (inL D nd k c cut side true) D.1) := sc_h
  have l3 : (scS M D F (inL D nd k c cut side true) D.1).2 273 29 = sG D F (inL D nd k c cut side true) D.1 := sc_g
  have r1 : (scS M D F (inL D nd k c cut side false) D.1).1 273 31 = nI (sN (inL D nd k c cut side false) D.1) := sc_c
  have r2 : (scS M D F (inL D nd k c cut side false) D.1).1 273 30 = nI (sH D (inL D nd k c cut side false) D.1) := sc_h
  have r3 : (scS M D F (inL D nd k c cut side false) D.1).2 273 29 = sG D F (inL D nd k c cut side false) D.1 := sc_g
  have r4 : (scS M D F (inL D nd k c cut side false) D.1).2 295 x = T.2 0 k := (sc_2 (by omega)).trans t1
  have r5 : (scS M D F (inL D nd k c cut side false) D.1).1 293 x = T.1 5 k := (sc_1 (by omega)).trans t2
  have hq' := hq (scS M D F (inL D nd k c cut side false) D.1) ⟨_, _, _, rfl⟩
  obtain ⟨u1, u2, u3⟩ := s1 _ rfl
  generalize scS M D F (inL D nd k c cut side false) D.1 = M3 at *
  rw [l1, l2, l3, u1, r1]
  refine ⟨fun q => ?_, fun q => ⟨fun q2 => ?_, fun q2 => ?_⟩⟩
  · rw [dif_a (Or.inl q)] at hq'
    exact hq'
  · have h0 : ¬ (nI (sN (inL D nd k c cut side true) D.1) < D.2.2 3 1 ∨ nI (sN (inL D nd k c cut side false) D.1) < D.2.2 3 1) := fun z => z.elim q (fun z => by rw [i_lt] at z; rw [i_le] at q2; omega)
    have uad : M3.1 283 2 = nI a := u2.trans ea
    refine p_valueOf (by omega) ha uad ?_
    rw [r3, r2]
    refine p_valueOf (by omega) ha uad ?_
    rw [show (11 : Int32) = nI 11 from rfl, nI_add]
    refine ⟨vp_in_nI (by omega) (by omega), ?_⟩
    rw [nI_clamp (by omega), u3 (11 + c) (by omega)]
    have fin : ¬ ((D.2.2 3 (11 + c) = 1 ∧ valJ (sG D F (inL D nd k c cut side false) D.1) (nI (sH D (inL D nd k c cut side false) D.1)) (D.2.2 3 2) < valJ (sG D F (inL D nd k c cut side true) D.1) (nI (sH D (inL D nd k c cut side true) D.1)) (D.2.2 3 2)) ∨ (D.2.2 3 (11 + c) = -1 ∧ valJ (sG D F (inL D nd k c cut side true) D.1) (nI (sH D (inL D nd k c cut side true) D.1)) (D.2.2 3 2) < valJ (sG D F (inL D nd k c cut side false) D.1) (nI (sH D (inL D nd k c cut side false) D.1)) (D.2.2 3 2))) → wp_MD_difference_135 Q (nI x) (sG D F (inL D nd k c cut side true) D.1) (nI (sH D (inL D nd k c cut side true) D.1)) M3 := by
      intro hs
      rw [dif_c h0 hs, ea, t3] at hq'
      refine p_worthOf (by omega) ha uad ?_
      rw [r3, r2]
      refine p_worthOf (by omega) ha uad ⟨vp_in_nI hx (by omega), ?_⟩
      rw [nI_clamp (by omega), r4, r5, t3]
      exact p_worthOf t4 ha uad hq'
    have one : ¬ (D.2.2 3 (11 + c) = 1 ∧ valJ (sG D F (inL D nd k c cut side false) D.1) (nI (sH D (inL D nd k c cut side false) D.1)) (D.2.2 3 2) < valJ (sG D F (inL D nd k c cut side true) D.1) (nI (sH D (inL D nd k c cut side true) D.1)) (D.2.2 3 2)) → wp_MD_difference_117 Q (nI x) (sG D F (inL D nd k c cut side true) D.1) (nI (sH D (inL D nd k c cut side true) D.1)) (valJ (sG D F (inL D nd k c cut side true) D.1) (nI (sH D (inL D nd k c cut side true) D.1)) (nI a)) (valJ (sG D F (inL D nd k c cut side false) D.1) (nI (sH D (inL D nd k c cut side false) D.1)) (nI a)) (D.2.2 3 (11 + c)) M3 := by
      intro h1
      refine ⟨fun z => fin (fun w => w.elim h1 (fun w => z w.1)), fun z => ⟨fun z2 => fin (fun w => w.elim h1 (fun w => ?_)), fun z2 => ?_⟩⟩
      · have := w.2
        rw [ea] at this
        exact (i64_nlt.mpr z2) this
      · rw [dif_b h0 (Or.inr ⟨z, by rw [ea]; exact Classical.byContradiction fun w => z2 (i64_nlt.mp w)⟩)] at hq'
        exact hq'
    refine ⟨fun z => one (fun w => z w.1), fun z => ⟨fun z2 => ?_, fun z2 => one (fun w => z2 (by have := w.2; rw [ea] at this; exact this))⟩⟩
    rw [dif_b h0 (Or.inl ⟨z, by rw [ea]; exact z2⟩)] at hq'
    exact hq'
  · rw [dif_a (Or.inr (by rw [i_lt]; rw [i_le] at q2; omega))] at hq'
    exact hq'
/-- while a node's splits are looked through: the best one so far stands at place x -/
def bS (M0 : gM) (x : Nat) (B : gS4) (M : gM) : Prop := (∀ k j, ¬ (k = 273 ∧ (j = 30 ∨ j = 31)) → ¬ (j = x ∧ (k = 288 ∨ k = 289 ∨ k = 290)) → M.1 k j = M0.1 k j) ∧ (∀ k j, ¬ (k = 273 ∧ j = 29) → ¬ (k = 296 ∧ j = x) → M.2 k j = M0.2 k j) ∧ (M.1 288 x = B.2.1 ∧ M.1 289 x = B.2.2.1 ∧ M.1 290 x = B.2.2.2) ∧ ((B.2.1 = -1 → M.2 296 x = 0) ∧ (¬ B.2.1 = -1 → M.2 296 x = B.1))
theorem bS_sc {M0 M : gM} {x : Nat} {B : gS4} {g : Int64} {h c : Int32} (b : bS M0 x B M) : bS M0 x B (sc M g h c) := by
  obtain ⟨b1, b2, b3, b4⟩ := b
  refine ⟨fun k j q1 q2 => (sc_1 q1).trans (b1 k j q1 q2), fun k j q1 q2 => (sc_2 q1).trans (b2 k j q1 q2), ?_, ?_⟩
  · rw [sc_1 (by omega), sc_1 (by omega), sc_1 (by omega)]; exact b3
  · rw [sc_2 (by omega)]; exact b4
theorem bS_put {M0 M : gM} {x c cut : Nat} {B : gS4} {d : Int64} {side : Int32} (b : bS M0 x B M) (hc : c < 4) : bS M0 x (d, nI c, nI cut, side) (wl (wi (wi (wi M 288 x (nI c)) 289 x (nI cut)) 290 x side) 296 x d) := by
  obtain ⟨b1, b2, b3, b4⟩ := b
  refine ⟨fun k j q1 q2 => ?_, fun k j q1 q2 => ?_, ⟨?_, ?_, ?_⟩, fun z => ?_, fun _ => wl_eq⟩
  · show (wi (wi (wi M 288 x (nI c)) 289 x (nI cut)) 290 x side).1 k j = _
    rw [wi_ne (by omega), wi_ne (by omega), wi_ne (by omega)]; exact b1 k j q1 q2
  · rw [wl_ne (by omega)]; exact b2 k j q1 q2
  · show (wi (wi (wi M 288 x (nI c)) 289 x (nI cut)) 290 x side).1 288 x = _
    rw [wi_ne (by omega), wi_ne (by omega), wi_eq]
  · show (wi (wi (wi M 288 x (nI c)) 289 x (nI cut)) 290 x side).1 289 x = _
    rw [wi_ne (by omega), wi_eq]
  · show (wi (wi (wi M 288 x (nI c)) 289 x (nI cut)) 290 x side).1 290 x = _
    rw [wi_eq]
  · exact absurd z (fun z => by
      have z : nI c = -1 := z
      have := congrArg Int32.toInt z
      rw [nI_toInt (by omega), show (-1 : Int32).toInt = -1 from rfl] at this
      omega)
theorem bS_mX {M0 M : gM} {x : Nat} {B : gS4} {D : tD} {F : Nat → Int64} {nd : Nat → Int32} (b : bS M0 x B M) (h : mX M0 D F nd) : mX M D F nd := mX_fr h (fun k j q => b.1 k j (by omega) (by omega)) (fun j => b.2.1 _ _ (by omega) (by omega))
theorem imp_t {d : Int64} {c cut side : Int32} {B : gS4} (h : d ≤ B.1) : imp d c cut side B = B := if_pos h
theorem imp_f {d : Int64} {c cut side : Int32} {B : gS4} (h : ¬ d ≤ B.1) : imp d c cut side B = (d, c, cut, side) := if_neg h
theorem q_side {Q : gM → Prop} {k35 : Int32 → Int32 → Int32 → Int64 → Int32 → gM → Prop} {k67 : Int32 → Int32 → Int32 → Int64 → Int32 → Int32 → gM → Prop} {M0 : gM} {D : tD} {F : Nat → Int64} {nd : Nat → Int32} {T : gM} {r x k c cut hn : Nat} (hk : okD D) (hX : mX M0 D F nd) (hc : c < 4) (hx : x < 384) (t1 : M0.2 295 x = T.2 0 k) (t2 : M0.1 293 x = T.1 5 k) (t3 : T.1 5 k = nI hn) (t4 : hn ≤ 320) {B : gS4} {M : gM} (b : bS M0 x B M)
    (hq : ∀ M', bS M0 x (sdL D F nd T k c cut B) M' → k67 (nI r) (nI k) (nI x) (sdL D F nd T k c cut B).1 (nI c) (nI (cut + 1)) M') : wp_MD_split_77 Q k35 k67 3 (nI r) (nI k) (nI x) B.1 (nI c) (nI cut) 0 M := by
  have one : ∀ (z sd : Nat) (B1 : gS4) (M1 : gM), sd < 2 → isK D nd k c (nI cut) = true → bS M0 x B1 M1 → (∀ M2, bS M0 x (imp (dif D F nd T k c (nI cut) (nI sd)) (nI c) (nI cut) (nI sd) B1) M2 → wp_MD_split_77 Q k35 k67 z (nI r) (nI k) (nI x) (imp (dif D F nd T k c (nI cut) (nI sd)) (nI c) (nI cut) (nI sd) B1).1 (nI c) (nI cut) (nI (sd + 1)) M2) → wp_MD_split_77 Q k35 k67 (z + 1) (nI r) (nI k) (nI x) B1.1 (nI c) (nI cut) (nI sd) M1 := by
    intro z sd B1 M1 hsd hK b1 nx
    refine ⟨fun q => ?_, fun _ => q_isCut hk (bS_mX b1 hX) hc ⟨fun q => ?_, fun _ => ?_⟩⟩
    · rw [show (2 : Int32) = nI 2 from rfl, nI_leI (by omega) (by omega)] at q; omega
    · rw [hK] at q; exact absurd q (by decide)
    · refine q_difference (T := T) hk (bS_mX b1 hX) hc hx ((b1.2.1 _ _ (by omega) (by omega)).trans t1) ((b1.1 _ _ (by omega) (by omega)).trans t2) t3 t4 (fun M' hM' => ?_)
      obtain ⟨g, h, cc, rfl⟩ := hM'
      refine ⟨fun q => ?_, fun q => ⟨vp_in_nI hx (by omega), ?_⟩⟩
      · rw [imp_t q] at nx
        show wp_MD_split_77 Q k35 k67 z (nI r) (nI k) (nI x) B1.1 (nI c) (nI cut) (nI sd + 1) _
        rw [nI_1]
        exact nx _ (bS_sc b1)
      · rw [imp_f q] at nx
        show wp_MD_split_77 Q k35 k67 z (nI r) (nI k) (nI x) _ (nI c) (nI cut) (nI sd + 1) _
        rw [nI_1, nI_clamp (by omega)]
        exact nx _ (bS_put (bS_sc b1) hc)
  by_cases hK : isK D nd k c (nI cut) = true
  · have e : sdL D F nd T k c cut B = imp (dif D F nd T k c (nI cut) 1) (nI c) (nI cut) 1 (imp (dif D F nd T k c (nI cut) 0) (nI c) (nI cut) 0 B) := if_pos hK
    rw [e] at hq
    refine one 2 0 B M (by omega) hK b (fun M1 b1 => one 1 1 _ M1 (by omega) hK b1 (fun M2 b2 => ⟨fun _ => ?_, fun q => absurd (show (2 : Int32) ≤ nI 2 by decide) q⟩))
    show k67 (nI r) (nI k) (nI x) _ (nI c) (nI cut + 1) M2
    rw [nI_1]
    exact hq M2 b2
  · have e : sdL D F nd T k c cut B = B := if_neg hK
    rw [e] at hq
    refine ⟨fun q => absurd q (by decide), fun _ => q_isCut hk (bS_mX b hX) hc ⟨fun _ => ?_, fun q => absurd (bI_nz q) hK⟩⟩
    show k67 (nI r) (nI k) (nI x) _ (nI c) (nI cut + 1) M
    rw [nI_1]
    exact hq M b
theorem q_cuts {Q : gM → Prop} {k35 : Int32 → Int32 → Int32 → Int64 → Int32 → gM → Prop} {M0 : gM} {D : tD} {F : Nat → Int64} {nd : Nat → Int32} {T : gM} {r x k c hn : Nat} (hk : okD D) (hX : mX M0 D F nd) (hc : c < 4) (hx : x < 384) (t1 : M0.2 295 x = T.2 0 k) (t2 : M0.1 293 x = T.1 5 k) (t3 : T.1 5 k = nI hn) (t4 : hn ≤ 320) {B : gS4}
    (hq : ∀ M', bS M0 x (ctL D F nd T k c B 32) M' → k35 (nI r) (nI k) (nI x) (ctL D F nd T k c B 32).1 (nI (c + 1)) M') : ∀ z q M, q + z = 32 → bS M0 x (ctL D F nd T k c B q) M → wp_MD_split_67 Q k35 (z + 1) (nI r) (nI k) (nI x) (ctL D F nd T k c B q).1 (nI c) (nI q) M := by
  intro z
  induction z with
  | zero =>
    intro q M hz b
    have : q = 32 := by omega
    subst this
    refine ⟨fun _ => ?_, fun h => absurd (show (32 : Int32) ≤ nI 32 by decide) h⟩
    show k35 (nI r) (nI k) (nI x) _ (nI c + 1) M
    rw [nI_1]
    exact hq M b
  | succ z ih =>
    intro q M hz b
    refine ⟨fun h => ?_, fun _ => ⟨3, q_side hk hX hc hx t1 t2 t3 t4 b (fun M' b' => ih (q + 1) M' (by omega) b')⟩⟩
    rw [show (32 : Int32) = nI 32 from rfl, nI_leI (by omega) (by omega)] at h; omega
theorem p_mdrawn {Q : Int32 → gM → Prop} {M : gM} {a : Int32} (h : Q (drw (M.1 283 10) a) M) : wp_MD_drawn Q a M := h

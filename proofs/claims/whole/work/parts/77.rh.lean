theorem treT_eq {D : tD} {F : Nat → Int64} {r : Nat} : treT D F r = growT D F r (X0 D F r) 31 := rfl
theorem q_growC {Q : gM → Prop} {Ms : gM} {D : tD} {F : Nat → Int64} {b r : Nat} (hk : okD D) (hb : 116 ≤ b) (hD : cdD Ms D) (hO : ∀ c, c < 4 → ordM Ms D c D.1) (hN : atS Ms 107 (0, 0, 0)) (hF : ∀ i, i < D.1 → Ms.2 110 i = F i) (hq : ∀ M', cGr Ms b D F (treT D F r).1 (treT D F r) M' → Q M') : wp_GR_growTree Q b (nI r) Ms := by
  have n40 := hk.1
  have h0 := X0_inv (F := F) (r := r) hk
  rw [treT_eq] at hq
  refine q_drawRows (F := F) hk hD hO hN hF (fun M18 d1 d2 X18 => ?_)
  refine p_append (s := 0) (by omega) (by rw [wi_eq]; rfl) (fun M20 a => ?_)
  obtain ⟨a1, a2, a3, a4, a5⟩ := a
  have start : cGr Ms b D F 0 (X0 D F r) M20 := by
    have L := layN_at (D := D) (F := F) (nd := nd0 D r) (T := (fun _ _ => 0, fun _ _ => 0)) (k := 0) (dp := 0)
    refine ⟨cX_fr n40 X18 (fun k j q => ?_) (fun k j q => ?_), a3, ⟨fun i hi => ?_, fun i hi => absurd hi (by omega)⟩, fun k j q1 q2 q3 q4 => ?_, fun k j q1 q2 q3 q4 => ?_⟩
    · rw [a1 _ _ (by omega) (by omega), wi_ne (by omega)]
    · rw [a2 _ _ (by omega)]; rfl
    · have hi : i < 1 := hi
      have : i = 0 := by omega
      subst this
      show (_ = (layN _ _ _ _ _ _).1 0 0 ∧ _ = (layN _ _ _ _ _ _).1 1 0 ∧ _ = (layN _ _ _ _ _ _).1 2 0 ∧ _ = (layN _ _ _ _ _ _).1 3 0) ∧ _ = (layN _ _ _ _ _ _).1 6 0 ∧ _ = (layN _ _ _ _ _ _).2 1 0
      rw [L.1, L.2.1, L.2.2.1, L.2.2.2.1, L.2.2.2.2.1, L.2.2.2.2.2.2.2.2]
      exact ⟨⟨a4.1, a4.2.1, a4.2.2.1, a4.2.2.2.1⟩, a4.2.2.2.2, a5⟩
    · rw [a1 _ _ (by omega) (by omega), wi_ne (by omega)]; exact d1 k j q1
    · rw [a2 _ _ (by omega)]; exact d2 k j q1
  have go : ∀ z k M, k + z = 31 → cGr Ms b D F k (growT D F r (X0 D F r) k) M → wp_GR_growTree_19 Q b (z + 1) (nI r) (nI k) M := by
    intro z
    induction z with
    | zero =>
      intro k M hz g
      have : k = 31 := by omega
      subst this
      have s31 := (growT_inv (r := r) hk h0 31).1.2
      have fin : Q M := by
        generalize growT D F r (X0 D F r) 31 = X at g hq s31
        exact hq M ⟨g.1, g.2.1, ⟨g.2.2.1.1, fun i hi his => g.2.2.1.2 i (by omega) his⟩, g.2.2.2⟩
      exact ⟨fun _ => fin, fun _ => ⟨fun _ => fin, fun w => absurd (show (31 : Int32) ≤ nI 31 by decide) w⟩⟩
    | succ z ih =>
      intro k M hz g
      have i31 := growT_inv (r := r) hk h0 k
      have s31 := i31.1.2
      refine ⟨fun c => ?_, fun c => ⟨fun w => ?_, fun _ => ?_⟩⟩
      · rw [g.2.1, nI_leI (by omega) (by omega)] at c
        have e := growT_stay (D := D) (F := F) (r := r) (k := k) (X := X0 D F r) (by omega) (z + 1)
        rw [show k + (z + 1) = 31 by omega] at e
        refine hq M ?_
        rw [e]
        exact ⟨g.1, g.2.1, ⟨g.2.2.1.1, fun i hi his => g.2.2.1.2 i (by omega) his⟩, g.2.2.2⟩
      · rw [show (31 : Int32) = nI 31 from rfl, nI_leI (by omega) (by omega)] at w; omega
      · rw [g.2.1, nI_leI (by omega) (by omega)] at c
        rw [Nat.min_eq_left (by omega)] at i31
        refine q_stepG (r := r) (Q := fun M => wp_GR_growTree_19 Q b (z + 1) (nI r) (nI k + 1) M) hk hb i31 (by omega) g (fun M' g' => ?_)
        rw [nI_1]
        refine ih (k + 1) M' (by omega) ?_
        rw [growT_t (by omega)]
        exact g'
  exact ⟨32, go 31 0 M20 (by omega) start⟩
theorem nI_m1 {l : Nat} (h : l < 2 ^ 31) : ¬ nI l = -1 := fun z => by
  have := congrArg Int32.toInt z
  rw [nI_toInt h, show (-1 : Int32).toInt = -1 from rfl] at this
  omega
theorem tre_nd {D : tD} {F : Nat → Int64} {r : Nat} (hk : okD D) (i : Nat) : ∀ k, k ≤ 31 → ((growT D F r (X0 D F r) k).2.2 i = -1 ↔ nd0 D r i = -1) := by
  have h0 := X0_inv (F := F) (r := r) hk
  intro k
  induction k with
  | zero => exact fun _ => Iff.rfl
  | succ k ih =>
    intro hk2
    have s31 := (growT_inv (r := r) hk h0 k).1.2
    have ih := ih (by omega)
    by_cases c : k < (growT D F r (X0 D F r) k).1
    · rw [growT_t c]
      generalize growT D F r (X0 D F r) k = X at *
      by_cases c1 : X.2.1.1 6 k = D.2.2 3 0
      · rw [stpT_a c1]; exact ih
      · by_cases c2 : (best D F X.2.2 X.2.1 r k).2.1 < 0
        · rw [stpT_b c2]; exact ih
        · rw [stpT_c c1 c2, ← ih]
          show mvN D X.2.2 k X.1 _ i = -1 ↔ _
          unfold mvN
          by_cases e : X.2.2 i = nI k
          · rw [if_pos e, e]
            refine ⟨fun z => ?_, fun z => absurd z (nI_m1 (by omega))⟩
            exfalso
            split at z
            · exact nI_m1 (by omega) z
            · exact nI_m1 (by omega) z
          · rw [if_neg e]
    · rw [growT_f c]; exact ih
theorem tre_prt {D : tD} {F : Nat → Int64} {r : Nat} (hk : okD D) (i : Nat) : (treT D F r).2.2 i = -1 ↔ prt D r i = false := by
  rw [treT_eq, tre_nd hk i 31 (Nat.le_refl _)]
  unfold nd0
  cases prt D r i
  · exact ⟨fun _ => rfl, fun _ => rfl⟩
  · exact ⟨fun z => absurd z (by decide), fun z => by cases z⟩
/-- leaf and addend, by what the program has of a tree -/
theorem q_leafC {Q : Int32 → gM → Prop} {M : gM} {D : tD} {b s nb : Nat} {T : gM} {nm : Nat → Int32} (hs : strT T s) (hT : cdT M b s s T D) (hn : nums M nb nm) (hq : Q (nI (lfT T nm 4)) M) : wp_TR_leafOf Q b nb M := by
  have s31 := hs.1.2
  have go : ∀ z j, j + z = 4 → wp_TR_leafOf_4 Q b nb (z + 1) (nI (lfT T nm j)) (nI j) M := by
    intro z
    induction z with
    | zero =>
      intro j hj
      have : j = 4 := by omega
      subst this
      exact ⟨fun _ => hq, fun c => absurd (show (4 : Int32) ≤ nI 4 by decide) c⟩
    | succ z ih =>
      intro j hj
      have hlt := lfT_lt hs (nm := nm) j
      have nx := ih (j + 1) (by omega)
      have nx2 : wp_TR_leafOf_4 Q b nb (z + 1) (nI (stT T nm (lfT T nm j))) (nI j + 1) M := by rw [nI_1]; exact nx
      have f := hT.1 _ hlt
      refine ⟨fun c => ?_, fun _ => ?_⟩
      · rw [show (4 : Int32) = nI 4 from rfl, nI_leI (by omega) (by omega)] at c; omega
      · rcases (hs.2.2 _ hlt).2.2 with h | ⟨c, l, m, d, h⟩
        · rw [stT_leaf h] at nx2
          exact p_stepLeaf (by omega) (f.1.1.trans h) nx2
        · rw [stT_node s31 h] at nx2
          refine p_stepC (l := l) (x := nm c) (by omega) h.1.1 (f.1.1.trans h.1.2) (by rw [f.1.2.2.1]; exact h.2.2.1) (f.1.2.2.2.trans h.2.1.1) (hn c h.1.1).1 (hn c h.1.1).2 ?_
          rw [f.1.2.1, f.1.2.2.1]
          exact nx2
  exact ⟨5, go 4 0 (by omega)⟩
theorem q_addC {Q : Int64 → gM → Prop} {M : gM} {D : tD} {b s nb : Nat} {T : gM} {nm : Nat → Int32} (h94 : M.1 94 3 = D.2.2 3 3) (hs : strT T s) (hT : cdT M b s s T D) (hn : nums M nb nm) (hq : Q (adT D T (lfT T nm 4)) M) : wp_TG_addOf Q b nb M := by
  have s31 := hs.1.2
  have hlt := lfT_lt hs (nm := nm) 4
  refine q_leafC hs hT hn ⟨vp_in_nI (by omega) (by omega), ?_⟩
  rw [nI_clamp (by omega), (hT.2 _ hlt hlt).2.2]
  unfold wp_TG_shrunk
  rw [h94]
  exact hq
/-- losses, in the program -/
def lsC (Ms : gM) (t : Nat) (a b : Int64) (M : gM) : Prop := (∀ k j, M.1 k j = Ms.1 k j) ∧ (∀ k j, ¬ ((k = 113 ∨ k = 114) ∧ j = t) → M.2 k j = Ms.2 k j) ∧ M.2 113 t = a ∧ M.2 114 t = b
theorem q_lossC {Q : gM → Prop} {Ms : gM} {D : tD} {F : Nat → Int64} {t : Nat} (hk : okD D) (ht : t ≤ 12) (hD : cdD Ms D) (hF : ∀ i, i < D.1 → Ms.2 110 i = F i) (h9 : Ms.1 47 9 = nI t) (hq : ∀ M', lsC Ms t (lsN D F false D.1) (lsN D F true D.1) M' → Q M') : wp_TG_keepLosses Q Ms := by
  have n40 := hk.1
  have go : ∀ z i M, i + z = D.1 → lsC Ms t (lsN D F false i) (lsN D F true i) M → wp_TG_keepLosses_26 Q (z + 1) (nI i) M := by
    intro z
    induction z with
    | zero =>
      intro i M hz v
      have e : i = D.1 := by omega
      subst e
      refine ⟨fun _ => hq M v, fun q => absurd ?_ q⟩
      rw [v.1, hD.1]
      exact nI_le (Nat.le_refl _) (by omega)
    | succ z ih =>
      intro i M hz v
      obtain ⟨-, d1, d2, d3⟩ := hD.2.1 i (by omega)
      have aim := (hk.2.1 i (by omega)).2.1
      refine ⟨fun q => ?_, fun _ => ⟨vp_in_nI (by omega) (by omega), ?_⟩⟩
      · rw [v.1, hD.1, nI_leI (by omega) (by omega)] at q; omega
      · rw [nI_clamp (by omega), v.1 93, v.1 91, v.2.1 110 _ (by omega), d1, d3, hF i (by omega), aim_l aim]
        unfold wp_TG_keepLosses_80
        rw [v.1 47 9, h9, nI_clamp (show t < 2 ^ 31 by omega), nI_clamp (show i < 2 ^ 31 by omega), v.1 92, d2, nI_1]
        refine ⟨fun q => ⟨show vp_in (nI 0) 2 from vp_in_nI (by omega) (by omega), vp_in_nI (by omega) (by omega), vp_in_nI (by omega) (by omega), ?_⟩, fun q => ⟨show vp_in (nI 1) 2 from vp_in_nI (by omega) (by omega), vp_in_nI (by omega) (by omega), vp_in_nI (by omega) (by omega), ?_⟩⟩
        · have e : decide (¬ D.2.2 2 i = 0) = false := decide_eq_false (fun z => z q)
          show wp_TG_keepLosses_26 Q (z + 1) (nI (i + 1)) (wl M 113 t (M.2 113 t + _))
          rw [v.2.2.1, ← lsN_t (F := F) e]
          refine ih (i + 1) _ (by omega) ⟨v.1, fun k j a => by rw [wl_ne (by omega)]; exact v.2.1 k j a, wl_eq, ?_⟩
          rw [wl_ne (by omega), v.2.2.2, lsN_f (by rw [e]; decide)]
        · have e : decide (¬ D.2.2 2 i = 0) = true := decide_eq_true q
          show wp_TG_keepLosses_26 Q (z + 1) (nI (i + 1)) (wl M 114 t (M.2 114 t + _))
          rw [v.2.2.2, ← lsN_t (F := F) e]
          refine ih (i + 1) _ (by omega) ⟨v.1, fun k j a => by rw [wl_ne (by omega)]; exact v.2.1 k j a, ?_, wl_eq⟩
          rw [wl_ne (by omega), v.2.2.1, lsN_f (by rw [e]; decide)]
  unfold wp_TG_keepLosses
  rw [h9, nI_clamp (by omega)]
  refine ⟨vp_in_nI (by omega) (by omega), D.1 + 1, go D.1 0 _ (by omega) ⟨fun _ _ => rfl, fun k j a => by rw [wl_ne (by omega), wl_ne (by omega)], ?_, wl_eq⟩⟩
  rw [wl_ne (by omega)]
  exact wl_eq
set_option maxRecDepth 100000 in
theorem or_all : (List.range 12).all (fun t => (List.range (2 ^ t)).all (fun mk => decide (nI mk ||| ((1 : Int32) <<< (nI t &&& 31)) = nI (2 ^ t + mk)))) = true := by decide +kernel
theorem or_ok {t mk : Nat} (ht : t < 12) (h : mk < 2 ^ t) : nI mk ||| ((1 : Int32) <<< (nI t &&& 31)) = nI (2 ^ t + mk) := of_decide_eq_true (List.all_eq_true.mp (List.all_eq_true.mp or_all t (List.mem_range.mpr ht)) mk (List.mem_range.mpr h))
/-- in which rounds a row took part -/
def tkR (D : tD) (t i : Nat) (v : Int32) : Prop := ∃ mk : Nat, mk < 2 ^ t ∧ v = nI mk ∧ ∀ x, x < t → mk.testBit x = prt D x i
theorem tkR_y {D : tD} {t i : Nat} {v : Int32} (ht : t < 12) (h : tkR D t i v) (p : prt D t i = true) : tkR D (t + 1) i (v ||| ((1 : Int32) <<< (nI t &&& 31))) := by
  obtain ⟨mk, h1, rfl, h3⟩ := h
  refine ⟨2 ^ t + mk, by rw [Nat.pow_succ]; omega, or_ok ht h1, fun x hx => ?_⟩
  by_cases e : x = t
  · rw [e, Nat.testBit_two_pow_add_eq, Nat.testBit_lt_two_pow h1, p]
    rfl
  · rw [Nat.testBit_two_pow_add_gt (by omega)]
    exact h3 x (by omega)
theorem tkR_n {D : tD} {t i : Nat} {v : Int32} (h : tkR D t i v) (p : prt D t i = false) : tkR D (t + 1) i v := by
  obtain ⟨mk, h1, h2, h3⟩ := h
  refine ⟨mk, by rw [Nat.pow_succ]; omega, h2, fun x hx => ?_⟩
  by_cases e : x = t
  · rw [e, Nat.testBit_lt_two_pow h1, p]
  · exact h3 x (by omega)

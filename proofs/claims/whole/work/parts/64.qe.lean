/-! ===== training: the reference's trees ===== -/
def mdT (M : gM) (r s : Nat) (T : gM) : Prop := ∀ i, i < s → (M.1 288 (32 * r + i) = T.1 0 i ∧ M.1 289 (32 * r + i) = T.1 1 i ∧ M.1 290 (32 * r + i) = T.1 2 i ∧ M.1 291 (32 * r + i) = T.1 3 i) ∧ (M.1 292 (32 * r + i) = T.1 4 i ∧ M.1 293 (32 * r + i) = T.1 5 i ∧ M.1 294 (32 * r + i) = T.1 6 i) ∧ M.2 295 (32 * r + i) = T.2 0 i ∧ M.2 296 (32 * r + i) = T.2 1 i
/-- what growing tree r leaves as it was -/
def frG (M0 : gM) (r : Nat) (M : gM) : Prop := (∀ k j, ¬ (k = 273 ∧ (j = 30 ∨ j = 31)) → ¬ (k = 287 ∧ j = r) → ¬ ((288 ≤ k ∧ k ≤ 294) ∧ 32 * r ≤ j ∧ j < 32 * r + 32) → k ≠ 297 → M.1 k j = M0.1 k j) ∧ ∀ k j, ¬ (k = 273 ∧ j = 29) → ¬ ((k = 295 ∨ k = 296) ∧ 32 * r ≤ j ∧ j < 32 * r + 32) → M.2 k j = M0.2 k j
theorem frG_tr {M0 M M' : gM} {r : Nat} (h1 : frG M0 r M) (h2 : frG M r M') : frG M0 r M' := ⟨fun k j a b c d => (h2.1 k j a b c d).trans (h1.1 k j a b c d), fun k j a b => (h2.2 k j a b).trans (h1.2 k j a b)⟩
/-- one node's places anew, at x -/
def layR (M M' : gM) (x : Nat) (m h dp : Int32) (g : Int64) : Prop := (∀ k j, ¬ (k = 273 ∧ (j = 30 ∨ j = 31)) → ¬ ((288 ≤ k ∧ k ≤ 294) ∧ j = x) → M'.1 k j = M.1 k j) ∧ (∀ k j, ¬ (k = 273 ∧ j = 29) → ¬ ((k = 295 ∨ k = 296) ∧ j = x) → M'.2 k j = M.2 k j) ∧ (M'.1 288 x = -1 ∧ M'.1 289 x = -1 ∧ M'.1 290 x = -1 ∧ M'.1 291 x = -1) ∧ (M'.1 292 x = m ∧ M'.1 293 x = h ∧ M'.1 294 x = dp) ∧ M'.2 295 x = g ∧ M'.2 296 x = 0
theorem q_layNode {Q : gM → Prop} {M : gM} {D : tD} {F : Nat → Int64} {nd : Nat → Int32} {r k : Nat} {dp : Int32} (hk : okD D) (hX : mX M D F nd) (hr : r < 12) (hk2 : k < 32) (hq : ∀ M', layR M M' (32 * r + k) (nI (sN (inN nd k) D.1)) (nI (sH D (inN nd k) D.1)) dp (sG D F (inN nd k) D.1) → Q M') : wp_MD_layNode Q (nI r) (nI k) dp M := by
  refine q_sumAll (k := k) hk hX ?_
  rw [ix32]
  refine ⟨in384 hr hk2, ?_⟩
  rw [nI_clamp (by omega)]
  apply hq
  have e1 : (scS M D F (inN nd k) D.1).1 273 31 = nI (sN (inN nd k) D.1) := sc_c
  have e2 : (scS M D F (inN nd k) D.1).1 273 30 = nI (sH D (inN nd k) D.1) := sc_h
  have e3 : (scS M D F (inN nd k) D.1).2 273 29 = sG D F (inN nd k) D.1 := sc_g
  have e4 : ∀ a b, ¬ (a = 273 ∧ (b = 30 ∨ b = 31)) → (scS M D F (inN nd k) D.1).1 a b = M.1 a b := fun a b q => sc_1 q
  have e5 : ∀ a b, ¬ (a = 273 ∧ b = 29) → (scS M D F (inN nd k) D.1).2 a b = M.2 a b := fun a b q => sc_2 q
  rw [e1, e2, e3]
  generalize scS M D F (inN nd k) D.1 = M2 at *
  generalize 32 * r + k = x
  have b1 : ∀ {A : gM} {v : Int64} {a b : Nat}, (wl A 296 x v).1 a b = A.1 a b := rfl
  have b2 : ∀ {A : gM} {v : Int64} {a b : Nat}, (wl A 295 x v).1 a b = A.1 a b := rfl
  refine ⟨fun a b q1 q2 => ?_, fun a b q1 q2 => ?_, ⟨?_, ?_, ?_, ?_⟩, ⟨?_, ?_, ?_⟩, ?_, ?_⟩
  · rw [b1, wi_ne (by omega), wi_ne (by omega), wi_ne (by omega), wi_ne (by omega), wi_ne (by omega), wi_ne (by omega), wi_ne (by omega), b2]
    exact e4 a b q1
  · rw [wl_ne (by omega)]
    show (wl M2 295 x _).2 a b = _
    rw [wl_ne (by omega)]
    exact e5 a b q1
  · rw [b1, wi_ne (by omega), wi_ne (by omega), wi_ne (by omega), wi_eq]
  · rw [b1, wi_ne (by omega), wi_ne (by omega), wi_eq]
  · rw [b1, wi_ne (by omega), wi_eq]
  · rw [b1, wi_eq]
  · rw [b1, wi_ne (by omega), wi_ne (by omega), wi_ne (by omega), wi_ne (by omega), wi_ne (by omega), wi_eq]
  · rw [b1, wi_ne (by omega), wi_ne (by omega), wi_ne (by omega), wi_ne (by omega), wi_ne (by omega), wi_ne (by omega), wi_eq]
  · rw [b1, wi_ne (by omega), wi_ne (by omega), wi_ne (by omega), wi_ne (by omega), wi_eq]
  · rw [wl_ne (by omega)]
    show (wl M2 295 x _).2 295 x = _
    exact wl_eq
  · exact wl_eq
theorem layR_mX {M M' : gM} {D : tD} {F : Nat → Int64} {nd : Nat → Int32} {x : Nat} {m h dp : Int32} {g : Int64} (l : layR M M' x m h dp g) (hX : mX M D F nd) : mX M' D F nd := mX_fr hX (fun k j q => l.1 k j (by omega) (by omega)) (fun j => l.2.1 _ _ (by omega) (by omega))
theorem layR_frG {M M' : gM} {r i : Nat} {m h dp : Int32} {g : Int64} (hi : i < 32) (l : layR M M' (32 * r + i) m h dp g) : frG M r M' := ⟨fun k j a b c d => l.1 k j a (by omega), fun k j a b => l.2.1 k j a (by omega)⟩
theorem layR_mdT {M M' : gM} {D : tD} {F : Nat → Int64} {nd : Nat → Int32} {r s : Nat} {T : gM} {dp : Int32} (l : layR M M' (32 * r + s) (nI (sN (inN nd s) D.1)) (nI (sH D (inN nd s) D.1)) dp (sG D F (inN nd s) D.1)) (h : mdT M r s T) : mdT M' r (s + 1) (layN D F nd T s dp) := by
  obtain ⟨l1, l2, l3, l4, l5, l6⟩ := l
  intro i hi
  by_cases e : i = s
  · subst e
    have L := layN_at (D := D) (F := F) (nd := nd) (T := T) (k := i) (dp := dp)
    exact ⟨⟨l3.1.trans L.1.symm, l3.2.1.trans L.2.1.symm, l3.2.2.1.trans L.2.2.1.symm, l3.2.2.2.trans L.2.2.2.1.symm⟩, ⟨l4.1.trans L.2.2.2.2.2.1.symm, l4.2.1.trans L.2.2.2.2.2.2.1.symm, l4.2.2.trans L.2.2.2.2.2.2.2.2.symm⟩, l5.trans L.2.2.2.2.2.2.2.1.symm, l6.trans L.2.2.2.2.1.symm⟩
  · have L := layN_ne (D := D) (F := F) (nd := nd) (T := T) (k := s) (i := i) (dp := dp) e
    rw [L.1, L.1, L.1, L.1, L.1, L.1, L.1, L.2, L.2, l1 288 _ (by omega) (by omega), l1 289 _ (by omega) (by omega), l1 290 _ (by omega) (by omega), l1 291 _ (by omega) (by omega), l1 292 _ (by omega) (by omega), l1 293 _ (by omega) (by omega), l1 294 _ (by omega) (by omega), l2 295 _ (by omega) (by omega), l2 296 _ (by omega) (by omega)]
    exact h i (by omega)
/-- the reference, while tree r grows -/
def mGr (M0 : gM) (r : Nat) (D : tD) (F : Nat → Int64) (X : gT3) (M : gM) : Prop := mX M D F X.2.2 ∧ M.1 287 r = nI X.1 ∧ mdT M r X.1 X.2.1 ∧ frG M0 r M
theorem q_cols {Q : gM → Prop} {M0 : gM} {D : tD} {F : Nat → Int64} {nd : Nat → Int32} {T : gM} {r x k hn : Nat} (hk : okD D) (hX : mX M0 D F nd) (hx : x < 384) (t1 : M0.2 295 x = T.2 0 k) (t2 : M0.1 293 x = T.1 5 k) (t3 : T.1 5 k = nI hn) (t4 : hn ≤ 320) {B : gS4}
    (hq : ∀ M', bS M0 x (clL D F nd T r k B 4) M' → wp_MD_split_35 Q 1 (nI r) (nI k) (nI x) (clL D F nd T r k B 4).1 (nI 4) M') : ∀ z c M, c + z = 4 → bS M0 x (clL D F nd T r k B c) M → wp_MD_split_35 Q (z + 1) (nI r) (nI k) (nI x) (clL D F nd T r k B c).1 (nI c) M := by
  intro z
  induction z with
  | zero =>
    intro c M hz b
    have : c = 4 := by omega
    subst this
    exact hq M b
  | succ z ih =>
    intro c M hz b
    have hXM := bS_mX b hX
    refine ⟨fun h => ?_, fun _ => p_mdrawn ?_⟩
    · rw [show (4 : Int32) = nI 4 from rfl, nI_leI (by omega) (by omega)] at h; omega
    · rw [hXM.1.2.2 10 (by omega), hXM.1.2.2 7 (by omega)]
      refine ⟨fun q => ?_, fun q => ⟨33, ?_⟩⟩
      · have e : clL D F nd T r k B (c + 1) = clL D F nd T r k B c := if_pos q
        have := ih (c + 1) M (by omega) (by rw [e]; exact b)
        rw [e] at this
        show wp_MD_split_35 Q (z + 1) (nI r) (nI k) (nI x) _ (nI c + 1) M
        rw [nI_1]
        exact this
      · have e : clL D F nd T r k B (c + 1) = ctL D F nd T k c (clL D F nd T r k B c) 32 := if_neg q
        refine q_cuts hk hX (by omega) hx t1 t2 t3 t4 (B := clL D F nd T r k B c) (fun M' b' => ?_) 32 0 M (by omega) b
        have := ih (c + 1) M' (by omega) (by rw [e]; exact b')
        rw [e] at this
        exact this
/-- rows of node k go to their sides, the first i -/
def mvR (D : tD) (Ms : gM) (nd nd' : Nat → Int32) (i : Nat) (M : gM) : Prop := (∀ k j, k ≠ 297 → M.1 k j = Ms.1 k j) ∧ (∀ k j, M.2 k j = Ms.2 k j) ∧ ∀ q, q < D.1 → M.1 297 q = if q < i then nd' q else nd q
theorem q_move {Q : gM → Prop} {Ms : gM} {D : tD} {F : Nat → Int64} {nd : Nat → Int32} {r x k s c : Nat} {B : gS4} {dp : Int32} (hk : okD D) (hr : r < 12) (hD : mdD Ms D) (hx : x < 384) (hc : c < 4) (hs : s + 2 ≤ 31) (hkk : k < 32) (b1 : Ms.1 288 x = B.2.1) (b2 : B.2.1 = nI c) (b3 : Ms.1 289 x = B.2.2.1) (b4 : Ms.1 290 x = B.2.2.2)
    (hq : ∀ M', mvR D Ms nd (mvN D nd k s B) D.1 M' → vp_in (nI x) 384 ∧ wp_MD_layNode (fun M4 => wp_MD_layNode Q (nI r) (nI s + 1) ((M4.1 294 x) + 1) M4) (nI r) (nI s) ((M'.1 294 x) + 1) M') : ∀ z i M, i + z = D.1 → mvR D Ms nd (mvN D nd k s B) i M → wp_MD_split_210 Q (z + 1) (nI r) (nI k) (nI x) (nI s) (nI i) M := by
  have n40 := hk.1
  intro z
  induction z with
  | zero =>
    intro i M hz v
    have e : i = D.1 := by omega
    subst e
    refine ⟨fun _ => ?_, fun q => absurd ?_ q⟩
    · have := hq M v
      rw [nI_clamp (by omega)]
      exact this
    · rw [v.1 _ _ (by omega), hD.1]
      exact nI_le (Nat.le_refl _) (by omega)
  | succ z ih =>
    intro i M hz v
    have hvi := v.2.2 i (by omega)
    rw [if_neg (by omega)] at hvi
    refine ⟨fun q => ?_, fun _ => ⟨vp_in_nI (by omega) (by omega), ?_⟩⟩
    · rw [v.1 _ _ (by omega), hD.1, nI_leI (by omega) (by omega)] at q; omega
    · rw [nI_clamp (show i < 2 ^ 31 by omega), nI_clamp (show x < 2 ^ 31 by omega), hvi, v.1 288 _ (by omega), v.1 289 _ (by omega), v.1 290 _ (by omega), b1, b2, b3, b4]
      refine ⟨fun q => ?_, fun q => ⟨vp_in_nI hx (by omega), ?_⟩⟩
      · show wp_MD_split_210 Q (z + 1) (nI r) (nI k) (nI x) (nI s) (nI i + 1) M
        rw [nI_1]
        refine ih (i + 1) M (by omega) ⟨v.1, v.2.1, fun j hj => ?_⟩
        rw [v.2.2 j hj]
        by_cases e : j = i
        · subst e
          rw [if_neg (by omega), if_pos (by omega)]
          unfold mvN
          rw [if_neg q]
        · by_cases e2 : j < i
          · rw [if_pos e2, if_pos (by omega)]
          · rw [if_neg e2, if_neg (by omega)]
      · rw [show (4 : Int32) = nI 4 from rfl, pk_mul, nI_add]
        refine ⟨vp_in_nI (by omega) (by omega), ?_⟩
        rw [nI_clamp (by omega), v.1 279 _ (by omega), (hD.2.1 i (by omega)).1 c hc]
        have last : ∀ t, mvN D nd k s B i = t → wp_MD_split_279 Q (wp_MD_split_210 Q (z + 1)) (nI r) (nI k) (nI x) (nI s) (nI i) t (nI i) M := by
          intro t ht
          refine ⟨vp_in_nI (by omega) (by omega), ?_⟩
          show wp_MD_split_210 Q (z + 1) (nI r) (nI k) (nI x) (nI s) (nI i + 1) _
          rw [nI_1, nI_clamp (by omega)]
          refine ih (i + 1) _ (by omega) ⟨fun a j ha => by rw [wi_ne (Or.inl ha)]; exact v.1 a j ha, v.2.1, fun j hj => ?_⟩
          by_cases e : j = i
          · subst e
            rw [wi_eq, if_pos (by omega), ht]
          · rw [wi_ne (Or.inr e), v.2.2 j hj]
            by_cases e2 : j < i
            · rw [if_pos e2, if_pos (by omega)]
            · rw [if_neg e2, if_neg (by omega)]
        have em : mvN D nd k s B i = if goesL (D.2.1 i c) B.2.2.1 B.2.2.2 = true then nI s else nI (s + 1) := by
          unfold mvN
          rw [if_pos q, b2, nI_clamp (by omega)]
        refine p_goesLeft ⟨fun g => last _ ?_, fun g => last _ ?_⟩
        · rw [em, bI_z g, if_neg (by decide), nI_1]
        · rw [em, bI_nz g, if_pos rfl]

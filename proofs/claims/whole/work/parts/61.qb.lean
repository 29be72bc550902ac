/-! ===== training: the reference ===== -/
def sc (M : gM) (g : Int64) (h c : Int32) : gM := wi (wi (wl M 273 29 g) 273 30 h) 273 31 c
theorem sc_1 {M : gM} {g : Int64} {h c : Int32} {a b : Nat} (q : ¬ (a = 273 ∧ (b = 30 ∨ b = 31))) : (sc M g h c).1 a b = M.1 a b := by
  unfold sc
  rw [wi_ne (by omega), wi_ne (by omega)]
  rfl
theorem sc_2 {M : gM} {g : Int64} {h c : Int32} {a b : Nat} (q : ¬ (a = 273 ∧ b = 29)) : (sc M g h c).2 a b = M.2 a b := by
  show (wl M 273 29 g).2 a b = _
  rw [wl_ne (by omega)]
theorem sc_g {M : gM} {g : Int64} {h c : Int32} : (sc M g h c).2 273 29 = g := by
  show (wl M 273 29 g).2 273 29 = g
  exact wl_eq
theorem sc_h {M : gM} {g : Int64} {h c : Int32} : (sc M g h c).1 273 30 = h := by
  unfold sc
  rw [wi_ne (by omega), wi_eq]
theorem sc_c {M : gM} {g : Int64} {h c : Int32} : (sc M g h c).1 273 31 = c := wi_eq
theorem sc_sc {M : gM} {g g' : Int64} {h h' c c' : Int32} : sc (sc M g h c) g' h' c' = sc M g' h' c' := by
  apply Prod.ext
  · funext a b
    by_cases q : a = 273 ∧ b = 31
    · obtain ⟨rfl, rfl⟩ := q
      rw [sc_c, sc_c]
    · by_cases q2 : a = 273 ∧ b = 30
      · obtain ⟨rfl, rfl⟩ := q2
        rw [sc_h, sc_h]
      · rw [sc_1 (by omega), sc_1 (by omega), sc_1 (by omega)]
  · funext a b
    by_cases q : a = 273 ∧ b = 29
    · obtain ⟨rfl, rfl⟩ := q
      rw [sc_g, sc_g]
    · rw [sc_2 q, sc_2 q, sc_2 q]
/-- the reference's memory holds rows and settings, F and each row's node -/
def mX (M : gM) (D : tD) (F : Nat → Int64) (nd : Nat → Int32) : Prop := mdD M D ∧ (∀ i, i < D.1 → M.2 284 i = F i) ∧ ∀ i, i < D.1 → M.1 297 i = nd i
theorem mX_fr {M M' : gM} {D : tD} {F : Nat → Int64} {nd : Nat → Int32} (h : mX M D F nd) (e1 : ∀ k j, (k = 273 ∧ j = 7) ∨ (279 ≤ k ∧ k ≤ 283) ∨ k = 297 → M'.1 k j = M.1 k j) (e2 : ∀ j, M'.2 284 j = M.2 284 j) : mX M' D F nd := by
  obtain ⟨⟨h1, h2, h3⟩, h4, h5⟩ := h
  refine ⟨⟨by rw [e1 _ _ (by omega)]; exact h1, fun i hi => ?_, fun k hk => by rw [e1 _ _ (by omega)]; exact h3 k hk⟩, fun i hi => by rw [e2]; exact h4 i hi, fun i hi => by rw [e1 _ _ (by omega)]; exact h5 i hi⟩
  rw [e1 280 _ (by omega), e1 281 _ (by omega), e1 282 _ (by omega)]
  exact ⟨fun c hc => by rw [e1 _ _ (by omega)]; exact (h2 i hi).1 c hc, (h2 i hi).2⟩
theorem mX_sc {M : gM} {D : tD} {F : Nat → Int64} {nd : Nat → Int32} {g : Int64} {h c : Int32} (hX : mX M D F nd) : mX (sc M g h c) D F nd := mX_fr hX (fun k j q => sc_1 (by omega)) (fun j => sc_2 (by omega))
theorem sG_t {D : tD} {F : Nat → Int64} {S : Nat → Bool} {i : Nat} (h : S i = true) : sG D F S (i + 1) = sG D F S i + slp D F i := by show _ + (if _ then _ else _) = _; rw [if_pos h]
theorem sG_f {D : tD} {F : Nat → Int64} {S : Nat → Bool} {i : Nat} (h : S i = false) : sG D F S (i + 1) = sG D F S i := by show _ + (if _ then _ else _) = _; rw [if_neg (by rw [h]; decide), Int64.add_zero]
theorem sH_t {D : tD} {S : Nat → Bool} {i : Nat} (h : S i = true) : sH D S (i + 1) = sH D S i + wN D i := by show _ + (if _ then _ else _) = _; rw [if_pos h]
theorem sH_f {D : tD} {S : Nat → Bool} {i : Nat} (h : S i = false) : sH D S (i + 1) = sH D S i := by show _ + (if _ then _ else _) = _; rw [if_neg (by rw [h]; decide)]; rfl
theorem sN_t {S : Nat → Bool} {i : Nat} (h : S i = true) : sN S (i + 1) = sN S i + 1 := by show _ + (if _ then _ else _) = _; rw [if_pos h]
theorem sN_f {S : Nat → Bool} {i : Nat} (h : S i = false) : sN S (i + 1) = sN S i := by show _ + (if _ then _ else _) = _; rw [if_neg (by rw [h]; decide)]; rfl
/-- the sums of a kind of rows, laid into the reference's three places -/
def scS (M : gM) (D : tD) (F : Nat → Int64) (S : Nat → Bool) (i : Nat) : gM := sc M (sG D F S i) (nI (sH D S i)) (nI (sN S i))
theorem sum_add {Q : gM → Prop} {k18 : Int32 → Int32 → Int32 → Int32 → Int32 → Int32 → gM → Prop} {M : gM} {D : tD} {F : Nat → Int64} {nd : Nat → Int32} {S : Nat → Bool} {i : Nat} {x1 x2 x3 x4 x5 : Int32} (hk : okD D) (hX : mX M D F nd) (hi : i < D.1) (hS : S i = true) (hq : k18 x1 x2 x3 x4 x5 (nI (i + 1)) (scS M D F S (i + 1))) : wp_MD_sumUp_64 Q k18 x1 x2 x3 x4 x5 (nI i) (scS M D F S i) := by
  have n40 := hk.1
  obtain ⟨ew, -, -⟩ := wN_ok hk hi
  obtain ⟨-, g2, g3, -⟩ := hX.1.2.1 i hi
  refine ⟨vp_in_nI (by omega) (by omega), ?_⟩
  show k18 x1 x2 x3 x4 x5 (nI i + 1) (sc (scS M D F S i) _ _ _)
  rw [nI_clamp (by omega), nI_1]
  unfold scS at hq ⊢
  rw [sc_sc, sc_g, sc_h, sc_c, sc_1 (by omega), sc_1 (by omega), sc_2 (by omega), g3, g2, hX.2.1 i hi]
  rw [sG_t hS, sH_t hS, sN_t hS] at hq
  rw [ew, nI_add, nI_1]
  unfold slp at hq
  rw [ew] at hq
  exact hq
theorem sum_skip {Q : gM → Prop} {k18 : Int32 → Int32 → Int32 → Int32 → Int32 → Int32 → gM → Prop} {M : gM} {D : tD} {F : Nat → Int64} {S : Nat → Bool} {i : Nat} {x1 x2 x3 x4 x5 : Int32} (hS : S i = false) (hq : k18 x1 x2 x3 x4 x5 (nI (i + 1)) (scS M D F S (i + 1))) : wp_MD_sumUp_128 Q k18 x1 x2 x3 x4 x5 (nI i) (scS M D F S i) := by
  show k18 x1 x2 x3 x4 x5 (nI i + 1) _
  rw [nI_1]
  unfold scS at hq ⊢
  rw [sG_f hS, sH_f hS, sN_f hS] at hq
  exact hq
theorem q_sumAll {Q : gM → Prop} {M : gM} {D : tD} {F : Nat → Int64} {nd : Nat → Int32} {k : Nat} (hk : okD D) (hX : mX M D F nd) (hq : Q (scS M D F (inN nd k) D.1)) : wp_MD_sumUp Q (nI k) (-1) 0 0 1 M := by
  have n40 := hk.1
  have go : ∀ z i, i + z = D.1 → wp_MD_sumUp_18 Q (z + 1) (nI k) (-1) 0 0 1 (nI i) (scS M D F (inN nd k) i) := by
    intro z
    induction z with
    | zero =>
      intro i hi
      have e : i = D.1 := by omega
      rw [e]
      refine ⟨fun _ => hq, fun c => absurd ?_ c⟩
      unfold scS
      rw [sc_1 (by omega), hX.1.1]
      exact nI_le (Nat.le_refl _) (by omega)
    | succ z ih =>
      intro i hi
      have nx := ih (i + 1) (by omega)
      refine ⟨fun c => ?_, fun _ => ⟨vp_in_nI (by omega) (by omega), ?_⟩⟩
      · unfold scS at c
        rw [sc_1 (by omega), hX.1.1, nI_leI (by omega) (by omega)] at c; omega
      · rw [nI_clamp (by omega)]
        have e : (scS M D F (inN nd k) i).1 297 i = nd i := by unfold scS; rw [sc_1 (by omega)]; exact hX.2.2 i (by omega)
        rw [e]
        refine ⟨fun c => sum_skip (decide_eq_false c) nx, fun c => ⟨fun _ => sum_add hk hX (by omega) (decide_eq_true c) nx, fun c2 => absurd (by decide) c2⟩⟩
  exact ⟨D.1 + 1, go D.1 0 (by omega)⟩
theorem q_sumSide {Q : gM → Prop} {M : gM} {D : tD} {F : Nat → Int64} {nd : Nat → Int32} {k c : Nat} {cut side : Int32} {lb : Bool} (hk : okD D) (hX : mX M D F nd) (hc : c < 4) (hq : Q (scS M D F (inL D nd k c cut side lb) D.1)) : wp_MD_sumUp Q (nI k) (nI c) cut side (bI lb) M := by
  have n40 := hk.1
  have go : ∀ z i, i + z = D.1 → wp_MD_sumUp_18 Q (z + 1) (nI k) (nI c) cut side (bI lb) (nI i) (scS M D F (inL D nd k c cut side lb) i) := by
    intro z
    induction z with
    | zero =>
      intro i hi
      have e : i = D.1 := by omega
      rw [e]
      refine ⟨fun _ => hq, fun c => absurd ?_ c⟩
      unfold scS
      rw [sc_1 (by omega), hX.1.1]
      exact nI_le (Nat.le_refl _) (by omega)
    | succ z ih =>
      intro i hi
      have nx := ih (i + 1) (by omega)
      refine ⟨fun q => ?_, fun _ => ⟨vp_in_nI (by omega) (by omega), ?_⟩⟩
      · unfold scS at q
        rw [sc_1 (by omega), hX.1.1, nI_leI (by omega) (by omega)] at q; omega
      · rw [nI_clamp (by omega)]
        have e : (scS M D F (inL D nd k c cut side lb) i).1 297 i = nd i := by unfold scS; rw [sc_1 (by omega)]; exact hX.2.2 i (by omega)
        have e4 : ∀ j, (scS M D F (inL D nd k c cut side lb) i).1 279 j = M.1 279 j := fun j => by unfold scS; rw [sc_1 (by omega)]
        rw [e]
        refine ⟨fun q => sum_skip (by unfold inL inN; rw [decide_eq_false q]; rfl) nx, fun q => ⟨fun q2 => absurd q2 (nI_pos (by omega)), fun _ => ?_⟩⟩
        rw [show (4 : Int32) = nI 4 from rfl, pk_mul, nI_add]
        refine ⟨vp_in_nI (by omega) (by omega), ?_⟩
        rw [nI_clamp (by omega), e4, (hX.1.2.1 i (by omega)).1 c hc]
        have hb : ∀ b : Bool, bI b = bI lb ↔ b = lb := by
          intro b
          cases b <;> cases lb <;> decide
        refine p_goesLeft ⟨fun q2 => ?_, fun q2 => ?_⟩
        · rw [hb] at q2
          refine sum_skip ?_ nx
          unfold inL
          rw [beq_eq_false_iff_ne.mpr q2, Bool.and_false]
        · rw [hb] at q2
          refine sum_add hk hX (by omega) ?_ nx
          unfold inL inN
          rw [decide_eq_true q, beq_iff_eq.mpr q2]
          rfl
  exact ⟨D.1 + 1, go D.1 0 (by omega)⟩
theorem or_0 {a : Bool} : (a || false) = a := Bool.or_false a
theorem q_isCut {Q : Int32 → gM → Prop} {M : gM} {D : tD} {F : Nat → Int64} {nd : Nat → Int32} {k c : Nat} {v : Int32} (hk : okD D) (hX : mX M D F nd) (hc : c < 4) (hq : Q (bI (isK D nd k c v)) M) : wp_MD_isCut Q (nI k) (nI c) v M := by
  have n40 := hk.1
  have go : ∀ z i, i + z = D.1 → wp_MD_isCut_9 Q (z + 1) (nI k) (nI c) v (bI (hasV D nd k c v i)) (bI (hasA D nd k c v i)) (nI i) M := by
    intro z
    induction z with
    | zero =>
      intro i hi
      have e : i = D.1 := by omega
      rw [e]
      refine ⟨fun _ => ⟨fun q => ?_, fun q => ⟨fun q2 => ?_, fun q2 => ?_⟩⟩, fun q => absurd ?_ q⟩
      · exact bI_0 hq (by unfold isK; rw [bI_z q]; rfl)
      · exact bI_0 hq (by unfold isK; rw [bI_z q2, Bool.and_false])
      · exact bI_1 hq (by unfold isK; rw [bI_nz q, bI_nz q2]; rfl)
      · rw [hX.1.1]
        exact nI_le (Nat.le_refl _) (by omega)
    | succ z ih =>
      intro i hi
      have nx := ih (i + 1) (by omega)
      refine ⟨fun q => ?_, fun _ => ⟨vp_in_nI (by omega) (by omega), ?_⟩⟩
      · rw [hX.1.1, nI_leI (by omega) (by omega)] at q; omega
      · rw [nI_clamp (by omega), hX.2.2 i (by omega)]
        refine ⟨fun q => ?_, fun q => ?_⟩
        · show wp_MD_isCut_9 Q (z + 1) (nI k) (nI c) v _ _ (nI i + 1) M
          have e1 : hasV D nd k c v (i + 1) = hasV D nd k c v i := by
            show (hasV D nd k c v i || (inN nd k i && _)) = _
            unfold inN
            rw [decide_eq_false q, Bool.false_and, or_0]
          have e2 : hasA D nd k c v (i + 1) = hasA D nd k c v i := by
            show (hasA D nd k c v i || (inN nd k i && _)) = _
            unfold inN
            rw [decide_eq_false q, Bool.false_and, or_0]
          rw [e1, e2] at nx
          rw [nI_1]
          exact nx
        · rw [show (4 : Int32) = nI 4 from rfl, pk_mul, nI_add]
          refine ⟨vp_in_nI (by omega) (by omega), ?_⟩
          rw [nI_clamp (by omega), (hX.1.2.1 i (by omega)).1 c hc]
          have e1 : hasV D nd k c v (i + 1) = (hasV D nd k c v i || decide (D.2.1 i c = v)) := by
            show (hasV D nd k c v i || (inN nd k i && _)) = _
            unfold inN
            rw [decide_eq_true q, Bool.true_and]
          have e2 : hasA D nd k c v (i + 1) = (hasA D nd k c v i || decide (¬ D.2.1 i c ≤ v)) := by
            show (hasA D nd k c v i || (inN nd k i && _)) = _
            unfold inN
            rw [decide_eq_true q, Bool.true_and]
          have last : ∀ b, b = hasV D nd k c v (i + 1) → wp_MD_isCut_58 Q (wp_MD_isCut_9 Q (z + 1)) (nI k) (nI c) v (bI (hasA D nd k c v i)) (nI i) (D.2.1 i c) (bI b) M := by
            intro b hb
            have fin : ∀ a, a = hasA D nd k c v (i + 1) → wp_MD_isCut_9 Q (z + 1) (nI k) (nI c) v (bI b) (bI a) (nI i + 1) M := by
              intro a ha
              rw [ha, hb, nI_1]
              exact nx
            refine ⟨fun g => fin true ?_, fun g => ⟨fun g2 => fin false ?_, fun g2 => fin true ?_⟩⟩
            · rw [e2, bI_nz g]; rfl
            · rw [e2, bI_z g, decide_eq_false (fun z => z g2)]; rfl
            · rw [e2, decide_eq_true g2, Bool.or_true]
          refine ⟨fun g => last true ?_, fun g => ⟨fun g2 => last false ?_, fun g2 => last true ?_⟩⟩
          · rw [e1, bI_nz g]; rfl
          · rw [e1, bI_z g, decide_eq_false g2]; rfl
          · rw [e1, decide_eq_true g2, Bool.or_true]
  exact ⟨D.1 + 1, go D.1 0 (by omega)⟩
theorem p_worthOf {Q : Int64 → gM → Prop} {M : gM} {g : Int64} {k a : Nat} (hk : k ≤ 320) (ha : a ≤ 1000) (hd : M.1 283 2 = nI a) (hq : Q (worJ g (nI k) (nI a)) M) : wp_MD_worthOf Q g (nI k) M := by
  unfold wp_MD_worthOf
  rw [hd]
  unfold worJ at hq
  refine ⟨fun c => ⟨den_ne hk ha ?_, ?_⟩, fun c => ?_⟩
  · rcases Nat.eq_zero_or_pos k with q | q
    · exact absurd (by rw [q]; rfl) c
    · exact q
  · rw [if_neg c] at hq; exact hq
  · rw [if_pos c] at hq; exact hq
theorem okD_nat {D : tD} (h : okD D) {k : Nat} (hk : k < 15) {lo hi : Nat} (h1 : c_LOWEST k = nI lo) (h2 : c_HIGHEST k = nI hi) (hl : lo < 2 ^ 31) (hh : hi < 2 ^ 31) : ∃ a, lo ≤ a ∧ a ≤ hi ∧ D.2.2 3 k = nI a := by
  have r := h.2.2 k hk
  rw [h1, h2] at r
  exact inR_nat hl hh r

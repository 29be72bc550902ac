theorem q_loss {Q : Int64 → gM → Prop} {M : gM} {t : Nat} {a1 a2 : Int32} (h0 : M.1 47 8 = 1) (m0 : t ≤ 12) (m1 : M.1 47 9 = nI t) (hy : ∀ n w, n ≤ t → w < 2 → a1 = nI n → a2 = nI w → Q (M.2 (113 + w) n) M) (hn : ¬ (inR 0 (nI t) a1 = true ∧ inR 0 1 a2 = true) → Q (-2) M) : wp_BF_loss Q a1 a2 M := by
  unfold wp_BF_loss
  rw [h0, m1]
  refine ⟨fun c => absurd c (by decide), fun _ => p_isWithin ⟨fun e => hn fun q => ?_, fun e => p_isWithin ⟨fun e2 => ?_, fun e2 => hn fun q => ?_⟩⟩⟩
  · rw [bI_z e] at q; exact absurd q.1 (by decide)
  · obtain ⟨n, -, hn2, rfl⟩ := inR_nat (lo := 0) (hi := t) (by omega) (by omega) (bI_nz e)
    obtain ⟨w, -, hw, rfl⟩ := inR_nat (lo := 0) (hi := 1) (by omega) (by omega) (bI_nz e2)
    refine ⟨vp_in_nI (by omega) (by omega), vp_in_nI (by omega) (by omega), ?_⟩
    rw [nI_clamp (by omega), nI_clamp (by omega)]
    exact hy n w hn2 (by omega) rfl rfl
  · rw [bI_z e2] at q; exact absurd q.2 (by decide)
theorem q_mloss {Q : Int64 → gM → Prop} {M : gM} {t : Nat} {a1 a2 : Int32} (h0 : M.1 273 6 = 1) (m0 : t ≤ 12) (m1 : M.1 273 14 = nI t) (hy : ∀ n w, n ≤ t → w < 2 → a1 = nI n → a2 = nI w → Q (M.2 285 (13 * w + n)) M) (hn : ¬ (inR 0 (nI t) a1 = true ∧ inR 0 1 a2 = true) → Q (-2) M) : wp_MD_loss Q a1 a2 M := by
  unfold wp_MD_loss
  rw [h0, m1]
  refine ⟨fun c => absurd c (by decide), fun _ => ⟨fun c => hn fun q => ?_, fun c => ⟨fun c2 => hn fun q => ?_, fun c2 => ⟨fun c3 => hn fun q => ?_, fun c3 => ⟨fun c4 => ?_, fun c4 => hn fun q => c4 (inR_t.mp q.2).2⟩⟩⟩⟩⟩
  · have := (i_le _ _).mp (inR_t.mp q.1).1; rw [i_lt] at c; omega
  · have := (i_le _ _).mp (inR_t.mp q.1).2; rw [i_lt] at c2; omega
  · have := (i_le _ _).mp (inR_t.mp q.2).1; rw [i_lt] at c3; omega
  · obtain ⟨n, hn2, rfl⟩ := nI_of c
    obtain ⟨w, hw, rfl⟩ := nI_of c3
    rw [nI_ltI (by omega) hn2] at c2
    rw [show (1 : Int32) = nI 1 from rfl, nI_leI hw (by omega)] at c4
    rw [show (13 : Int32) = nI 13 from rfl, pk_mul, nI_add]
    refine ⟨vp_in_nI (by omega) (by omega), ?_⟩
    rw [nI_clamp (by omega)]
    exact hy n w (by omega) (by omega) rfl rfl
theorem s_loss {P : Int64 → Int64 → gM → Prop} {M : gM} {a1 a2 : Int32} (hS : Sim M) (hP : ∀ r, P r r M) : wp_BF_loss (fun r M1 => wp_MD_loss (fun r' M2 => P r r' M2) a1 a2 M1) a1 a2 M := by
  rcases hS.2.2 with h | ⟨n, t, h⟩
  · refine ⟨fun _ => ⟨fun _ => hP _, fun c => absurd h.1.2 c⟩, fun c => absurd h.1.1 c⟩
  · refine q_loss h.1.1 h.2.2.1.1 h.2.2.1.2.1 (fun k w hk hw e1 e2 => ?_) (fun hn => q_mloss h.1.2 h.2.2.1.1 h.2.2.1.2.2 (fun k w hk hw e1 e2 => (hn ?_).elim) (fun _ => hP _))
    · have t12 := h.2.2.1.1
      refine q_mloss h.1.2 h.2.2.1.1 h.2.2.1.2.2 (fun k' w' hk' hw' e1' e2' => ?_) (fun hn => (hn ?_).elim)
      · rw [e1, nI_eq (by omega) (by omega)] at e1'
        rw [e2, nI_eq (by omega) (by omega)] at e2'
        subst e1'
        subst e2'
        have e : M.2 (113 + w) k = M.2 285 (13 * w + k) := by
          have : w = 0 ∨ w = 1 := by omega
          rcases this with rfl | rfl
          · rw [(h.2.2.2.2.2.1 k hk).1, Nat.mul_zero, Nat.zero_add]
          · exact (h.2.2.2.2.2.1 k hk).2
        rw [e]
        exact hP _
      · subst e1; subst e2
        exact ⟨inR_t.mpr ⟨nI_pos' (by omega), nI_le hk (by omega)⟩, inR_t.mpr ⟨nI_pos' (by omega), nI_le (b := 1) (by omega) (by omega)⟩⟩
    · have t12 := h.2.2.1.1
      subst e1; subst e2
      exact ⟨inR_t.mpr ⟨nI_pos' (by omega), nI_le hk (by omega)⟩, inR_t.mpr ⟨nI_pos' (by omega), nI_le (b := 1) (by omega) (by omega)⟩⟩
def bst (L : Nat → Int64) : Nat → Nat
  | 0 => 0
  | n + 1 => if L (bst L n) ≤ L (n + 1) then bst L n else n + 1
theorem bst_le (L : Nat → Int64) (n : Nat) : bst L n ≤ n := by
  induction n with
  | zero => exact Nat.le_refl _
  | succ n ih =>
    show (if L (bst L n) ≤ L (n + 1) then bst L n else n + 1) ≤ n + 1
    split
    · omega
    · exact Nat.le_refl _
theorem bst_congr {L L' : Nat → Int64} {n : Nat} (e : ∀ k, k ≤ n → L k = L' k) : bst L n = bst L' n := by
  induction n with
  | zero => rfl
  | succ n ih =>
    have h := ih (fun k hk => e k (by omega))
    have hb := bst_le L' n
    show (if _ then _ else _) = (if _ then _ else _)
    rw [h, e _ (by omega), e (n + 1) (by omega)]
theorem bst_t {L : Nat → Int64} {n : Nat} (h : L (bst L n) ≤ L (n + 1)) : bst L (n + 1) = bst L n := if_pos h
theorem bst_f {L : Nat → Int64} {n : Nat} (h : ¬ L (bst L n) ≤ L (n + 1)) : bst L (n + 1) = n + 1 := if_neg h
theorem q_best_loop {Q : Int32 → gM → Prop} {M : gM} {t : Nat} (m0 : t ≤ 12) (m1 : M.1 47 9 = nI t) (hq : Q (nI (bst (M.2 114) t)) M) : ∀ z i, i + z = t → wp_TG_treesOfLeastLoss_19 Q (z + 1) (nI (bst (M.2 114) i)) (nI (i + 1)) M := by
  intro z
  induction z with
  | zero =>
    intro i hi
    have : i = t := by omega
    subst this
    refine ⟨fun _ => hq, fun c => absurd ?_ c⟩
    rw [m1]
    exact nI_lt (by omega) (by omega)
  | succ z ih =>
    intro i hi
    have hb := bst_le (M.2 114) i
    refine ⟨fun c => ?_, fun _ => ⟨vp_in_nI (by omega) (by omega), vp_in_nI (by omega) (by omega), ?_⟩⟩
    · rw [m1, nI_ltI (by omega) (by omega)] at c; omega
    · rw [nI_clamp (by omega), nI_clamp (by omega)]
      refine ⟨fun c => ?_, fun c => ?_⟩
      · show wp_TG_treesOfLeastLoss_19 Q (z + 1) _ (nI (i + 1) + 1) M
        rw [nI_1, ← bst_t c]
        exact ih (i + 1) (by omega)
      · show wp_TG_treesOfLeastLoss_19 Q (z + 1) _ (nI (i + 1) + 1) M
        rw [nI_1]
        have := ih (i + 1) (by omega)
        rw [bst_f c] at this
        exact this
theorem q_mbest_loop {Q : Int32 → gM → Prop} {M : gM} {t : Nat} {L : Nat → Int64} (hL : ∀ k, L k = M.2 285 (13 + k)) (m0 : t ≤ 12) (m1 : M.1 273 14 = nI t) (hq : Q (nI (bst L t)) M) : ∀ z i, i + z = t → wp_MD_best_62 Q (z + 1) (nI 1) (nI (bst L i)) (nI (i + 1)) M := by
  intro z
  induction z with
  | zero =>
    intro i hi
    have : i = t := by omega
    subst this
    refine ⟨fun _ => hq, fun c => absurd ?_ c⟩
    rw [m1]
    exact nI_lt (by omega) (by omega)
  | succ z ih =>
    intro i hi
    have hb := bst_le L i
    refine ⟨fun c => ?_, fun _ => ⟨fun c => absurd c (by decide), fun _ => ?_⟩⟩
    · rw [m1, nI_ltI (by omega) (by omega)] at c; omega
    · rw [show (13 : Int32) = nI 13 from rfl, nI_add, nI_add]
      refine ⟨vp_in_nI (by omega) (by omega), vp_in_nI (by omega) (by omega), ?_⟩
      rw [nI_clamp (by omega), nI_clamp (by omega)]
      refine ⟨fun c => ?_, fun c => ?_⟩
      · show wp_MD_best_62 Q (z + 1) (nI 1) _ (nI (i + 1) + 1) M
        have c' : L (bst L i) ≤ L (i + 1) := by rw [hL, hL]; exact c
        rw [nI_1, ← bst_t c']
        exact ih (i + 1) (by omega)
      · show wp_MD_best_62 Q (z + 1) (nI 1) _ (nI (i + 1) + 1) M
        have c' : ¬ L (bst L i) ≤ L (i + 1) := by rw [hL, hL]; exact c
        have := ih (i + 1) (by omega)
        rw [bst_f c'] at this
        rw [nI_1]
        exact this
theorem q_mbest_all {Q : Int32 → gM → Prop} {M : gM} {t : Nat} {L : Nat → Int64} (hL : ∀ k, L k = M.2 285 (13 + k)) (m0 : t ≤ 12) (m1 : M.1 273 14 = nI t) (hq : Q (nI (bst L t)) M) : wp_MD_best_59 Q 1 0 M := by
  have h := q_mbest_loop hL m0 m1 hq t 0 (by omega)
  refine ⟨t + 2, ⟨fun c => ?_, fun _ => ⟨fun c => absurd c (by decide), fun _ => ⟨vi_lit _ _ (by decide), vi_lit _ _ (by decide), fun _ => h, fun c => absurd (Int64.le_refl _) c⟩⟩⟩⟩
  rw [m1] at c
  exact absurd c (nI_pos (by omega))
theorem q_msome_loop {Q : Int32 → gM → Prop} {M : gM} {n : Nat} (n40 : n ≤ 40) (h1 : M.1 273 7 = nI n) (hq0 : cntN (M.1 282) n = 0 → wp_MD_best_59 Q 0 (M.1 273 14) M) (hq1 : ¬ cntN (M.1 282) n = 0 → wp_MD_best_59 Q 1 0 M) : ∀ z i, i + z = n → wp_MD_best_14 Q (z + 1) (if cntN (M.1 282) i = 0 then 0 else 1) (nI i) M := by
  intro z
  induction z with
  | zero =>
    intro i hi
    have : i = n := by omega
    subst this
    refine ⟨fun _ => ?_, fun c => absurd ?_ c⟩
    · by_cases e : cntN (M.1 282) i = 0
      · rw [if_pos e]; exact ⟨fun _ => hq0 e, fun c => absurd rfl c⟩
      · rw [if_neg e]; exact ⟨fun c => absurd c (by decide), fun _ => hq1 e⟩
    · rw [h1]; exact nI_le (Nat.le_refl _) (by omega)
  | succ z ih =>
    intro i hi
    have hh := ih (i + 1) (by omega)
    have fwd : ∀ v, v = (if cntN (M.1 282) (i + 1) = 0 then 0 else 1) → wp_MD_best_14 Q (z + 1) v (nI i + 1) M := fun v hv => by rw [hv, nI_1]; exact hh
    refine ⟨fun c => ?_, fun _ => ?_⟩
    · rw [h1, nI_leI (by omega) (by omega)] at c; omega
    · by_cases e : cntN (M.1 282) i = 0
      · rw [if_pos e]
        refine ⟨fun c => absurd rfl c, fun _ => ⟨vp_in_nI (by omega) (by omega), ?_⟩⟩
        rw [nI_clamp (by omega)]
        refine ⟨fun c => fwd 0 ?_, fun c => fwd 1 ?_⟩
        · rw [cntN_0 c, if_pos e]
        · rw [cntN_1 c, if_neg (by omega)]
      · rw [if_neg e]
        refine ⟨fun _ => fwd 1 ?_, fun c => absurd c (by decide)⟩
        have : ¬ cntN (M.1 282) (i + 1) = 0 := by
          show ¬ cntN (M.1 282) i + _ = 0
          omega
        rw [if_neg this]
theorem s_best {P : Int32 → Int32 → gM → Prop} {M : gM} (hS : Sim M) (hP : ∀ r, P r r M) : wp_BF_best (fun r M1 => wp_MD_best (fun r' M2 => P r r' M2) M1) M := by
  rcases hS.2.2 with h | ⟨n, t, h⟩
  · exact ⟨fun _ => ⟨fun c => absurd h.1.2 c, fun _ => hP _⟩, fun c => absurd h.1.1 c⟩
  · obtain ⟨⟨d1, d2⟩, ⟨n0, n1, n2⟩, ⟨t0, t1, t2⟩, hr, hs, hl, htr⟩ := h
    have ec : cntN (M.1 93) n = cntN (M.1 282) n := cntN_congr fun i hi => (hr i hi).2.1.1
    have hc := cntN_le (M.1 93) n
    have eb : bst (M.2 114) t = bst (fun k => M.2 285 (13 + k)) t := bst_congr fun k hk => (hl k hk).2
    refine ⟨fun c => ?_, fun _ => ?_⟩
    · rw [d1] at c; exact absurd c (by decide)
    · refine q_held (b := 49) n0 n1 ⟨fun c => ⟨t + 1, ?_⟩, fun c => ?_⟩
      · have c' : ¬ cntN (M.1 282) n = 0 := fun q => c (by rw [ec, q]; rfl)
        refine q_best_loop t0 t1 ?_ t 0 (by omega)
        refine ⟨fun _ => ⟨n + 1, ?_⟩, fun c => ?_⟩
        · refine q_msome_loop n0 n2 (fun q => absurd q c') (fun _ => ?_) n 0 (by omega)
          refine q_mbest_all (L := fun k => M.2 285 (13 + k)) (fun _ => rfl) t0 t2 ?_
          rw [eb]
          exact hP _
        · rw [d2] at c; exact absurd c (by decide)
      · have c' : cntN (M.1 282) n = 0 := by
          rw [← ec]
          have c2 : nI (cntN (M.1 93) n) = nI 0 := c
          rwa [nI_eq (by omega) (by omega)] at c2
        refine ⟨fun _ => ⟨n + 1, ?_⟩, fun c => ?_⟩
        · refine q_msome_loop n0 n2 (fun _ => ⟨1, ?_⟩) (fun q => absurd c' q) n 0 (by omega)
          rw [t1, t2]
          refine ⟨fun _ => hP _, fun _ => ⟨fun _ => hP _, fun c => absurd rfl c⟩⟩
        · rw [d2] at c; exact absurd c (by decide)

/-- what a tree adds at node i -/
def addV (M : gM) (r i : Nat) : Int64 := (valJ (M.2 295 (32 * r + i)) (M.1 293 (32 * r + i)) (M.1 283 2) * (M.1 283 3).toInt64) / 256
theorem q_addOf {Q : Int64 → gM → Prop} {M : gM} {r s nb : Nat} {nm : Nat → Int32} (hS : SF M) (hr : r < 12) (hs : treeS M r s) (hn : nums M nb nm) (hq : Q (addV M r (lfj M r nm 4)) M) : wp_TG_addOf Q (116 + 13 * r) nb M := by
  have hlt := lfj_lt hs (nm := nm) 4
  have s31 := hs.2.1
  have hE := (hs.2.2.2.2.2 _ hlt).1
  refine q_leafOf hr hs hn ⟨vp_in_nI (by omega) (by omega), ?_⟩
  rw [nI_clamp (by omega), hE.2.2.2.1]
  unfold wp_TG_shrunk
  rw [(hS 3 (by omega)).1]
  exact hq
theorem q_maddOf {Q : Int64 → gM → Prop} {M : gM} {r s i : Nat} (hS : SF M) (hr : r < 12) (hs : treeS M r s) (hi : i < s) (hq : Q (addV M r i) M) : wp_MD_addOf Q (nI r) (nI i) M := by
  have s31 := hs.2.1
  obtain ⟨h, hh, eh⟩ := (hs.2.2.2.2.2 i hi).2.1
  obtain ⟨a, -, ha, -, ea⟩ := SF_nat hS (k := 2) (lo := 0) (hi := 1000) (by omega) rfl rfl (by omega) (by omega)
  unfold wp_MD_addOf
  rw [ix32]
  refine ⟨in384 hr (by omega), ?_⟩
  rw [nI_clamp (by omega), eh]
  refine p_valueOf hh ha ea ?_
  unfold addV at hq
  rw [eh, ea] at hq
  exact hq
/-- 256 times BASE, and what the first n trees add -/
def ansV (M : gM) (nm : Nat → Int32) : Nat → Int64
  | 0 => 256 * (M.1 283 9).toInt64
  | r + 1 => ansV M nm r + addV M r (lfj M r nm 4)
theorem q_answerBy {Q : Int64 → gM → Prop} {M : gM} {t n : Nat} {nm : Nat → Int32} (hM : MF M t) (hS : SF M) (hn : n ≤ t) (hnm : nums M 272 nm) (hq : Q (ansV M nm n) M) : wp_TG_answerBy Q (nI n) M := by
  obtain ⟨m0, m1, m2, m3, m4⟩ := hM
  have go : ∀ z r, r + z = n → wp_TG_answerBy_8 Q (z + 1) (nI n) (ansV M nm r) (nI r) M := by
    intro z
    induction z with
    | zero =>
      intro r hr
      have : r = n := by omega
      subst this
      exact ⟨fun _ => hq, fun c => absurd (nI_le (Nat.le_refl _) (by omega)) c⟩
    | succ z ih =>
      intro r hr
      obtain ⟨s, hs⟩ := m3 r (by omega)
      refine ⟨fun c => ?_, fun _ => ⟨fun c => ?_, fun _ => ⟨vp_in_nI (by omega) (by omega), ?_⟩⟩⟩
      · rw [nI_leI (by omega) (by omega)] at c; omega
      · rw [m1, nI_leI (by omega) (by omega)] at c; omega
      · rw [nI_clamp (by omega)]
        refine q_addOf hS (by omega) hs hnm ?_
        show wp_TG_answerBy_8 Q (z + 1) (nI n) (ansV M nm (r + 1)) (nI r + 1) M
        rw [nI_1]
        exact ih (r + 1) (by omega)
  unfold wp_TG_answerBy wp_TG_baseUnits
  rw [(hS 9 (by omega)).1]
  exact ⟨n + 1, go n 0 (by omega)⟩
theorem q_manswer {Q : Int64 → gM → Prop} {M : gM} {t n : Nat} {n0 n1 n2 n3 : Int32} (hM : MF M t) (hS : SF M) (hn : n ≤ t) (hq : Q (ansV M (fun c => nb c n0 n1 n2 n3) n) M) : ∀ z r, r + z = n → wp_MD_answer_43 Q (z + 1) (nI n) n0 n1 n2 n3 (ansV M (fun c => nb c n0 n1 n2 n3) r) (nI r) M := by
  obtain ⟨m0, m1, m2, m3, m4⟩ := hM
  intro z
  induction z with
  | zero =>
    intro r hr
    have : r = n := by omega
    subst this
    exact ⟨fun _ => hq, fun c => absurd (nI_le (Nat.le_refl _) (by omega)) c⟩
  | succ z ih =>
    intro r hr
    obtain ⟨s, hs⟩ := m3 r (by omega)
    refine ⟨fun c => ?_, fun _ => q_mleafOf (by omega) hs (q_maddOf hS (by omega) hs (lfj_lt hs 4) ?_)⟩
    · rw [nI_leI (by omega) (by omega)] at c; omega
    · show wp_MD_answer_43 Q (z + 1) (nI n) n0 n1 n2 n3 (ansV M (fun c => nb c n0 n1 n2 n3) (r + 1)) (nI r + 1) M
      rw [nI_1]
      exact ih (r + 1) (by omega)
theorem TF_MF {M : gM} {n t : Nat} (h : TF M n t) : MF M t ∧ SF M := ⟨⟨h.2.2.1.1, h.2.2.1.2.1, h.2.2.1.2.2, h.2.2.2.2.2.2, fun _ => h.2.2.2.2.1⟩, h.2.2.2.2.1⟩
theorem b256 : (256 : Int64) * (0 : Int32).toInt64 = 0 := by decide
theorem s_answer {P : Int64 → Int64 → gM → Prop} {M : gM} {a1 a2 a3 a4 a5 : Int32} (hS : Sim M) (hP : ∀ r M2, frQ M M2 → P r r M2) : wp_BF_answer (fun r M1 => wp_MD_answer (fun r' M2 => P r r' M2) a1 a2 a3 a4 a5 M1) a1 a2 a3 a4 a5 M := by
  rcases hS.2.2 with h | ⟨n, t, h⟩
  · refine ⟨fun _ => ?_, fun c => absurd h.1.1 c⟩
    show wp_MD_answer (fun r' M2 => P 0 r' M2) a1 a2 a3 a4 a5 M
    unfold wp_MD_answer
    rw [h.2.1.2]
    refine ⟨fun _ => hP _ _ frQ_rf, fun c => ⟨fun _ => hP _ _ frQ_rf, fun c2 => p_areNumbers ⟨fun _ => ⟨1, ?_⟩, fun _ => hP _ _ frQ_rf⟩⟩⟩
    rw [h.2.2.2, b256]
    refine ⟨fun _ => hP _ _ frQ_rf, fun c3 => ?_⟩
    exfalso
    rw [i_lt] at c c2
    rw [i_le] at c3
    omega
  · obtain ⟨hM, hSF⟩ := TF_MF h
    have t12 := hM.1
    have f := frQ_kA (M := M) (a := a2) (b := a3) (c := a4) (d := a5)
    have h' := TF_fr (frQ_agR f) h
    obtain ⟨hM', hSF'⟩ := TF_MF h'
    have bad : ∀ M1 : gM, (M1 = M) → ¬ (inR 0 (nI t) a1 = true ∧ areC a2 a3 a4 a5 = true) → wp_MD_answer (fun r' M2 => P 0 r' M2) a1 a2 a3 a4 a5 M1 := by
      intro M1 e hb
      subst e
      unfold wp_MD_answer
      rw [hM.2.2.1]
      refine ⟨fun _ => hP _ _ frQ_rf, fun c => ⟨fun _ => hP _ _ frQ_rf, fun c2 => p_areNumbers ⟨fun e => ?_, fun _ => hP _ _ frQ_rf⟩⟩⟩
      exact absurd ⟨inR_t.mpr ⟨by rw [i_le]; rw [i_lt] at c; omega, by rw [i_le]; rw [i_lt] at c2; omega⟩, bI_nz e⟩ hb
    unfold wp_BF_answer
    rw [h.1.1, hM.2.1]
    refine ⟨fun c => absurd c (by decide), fun _ => p_isWithin ⟨fun e => ?_, fun e => p_areCells ⟨fun e2 => ?_, fun e2 => ?_⟩⟩⟩
    · exact bad M rfl (fun q => by rw [bI_z e] at q; exact absurd q.1 (by decide))
    · obtain ⟨k, -, hk, rfl⟩ := inR_nat (lo := 0) (hi := t) (by omega) (by omega) (bI_nz e)
      have e3 := bI_nz e2
      refine q_answerBy (M := kA M a2 a3 a4 a5) (nm := fun c => nb c a2 a3 a4 a5) hM' hSF' hk (fun c hc => ⟨kA_at hc, areC_nb e3 hc⟩) ?_
      show wp_MD_answer _ (nI k) a2 a3 a4 a5 (kA M a2 a3 a4 a5)
      unfold wp_MD_answer
      rw [hM'.2.2.1]
      refine ⟨fun c => absurd c (nI_pos (by omega)), fun _ => ⟨fun c => ?_, fun _ => p_areNumbers ⟨fun _ => ⟨k + 1, ?_⟩, fun e5 => absurd e5 e2⟩⟩⟩
      · rw [nI_ltI (by omega) (by omega)] at c; omega
      · exact q_manswer hM' hSF' hk (hP _ _ f) k 0 (by omega)
    · exact bad M rfl (fun q => by rw [bI_z e2] at q; exact absurd q.2 (by decide))
theorem s_l : ∀ n, n < 32 → ((nI n &&& 31).toBitVec.smod 32).toNat = n := by decide
theorem bit_z {mk r : Nat} (h : mk < 2 ^ 31) (hr : r < 12) : ((nI mk >>> (nI r &&& 31)) &&& (1 : Int32)) = 0 ↔ mk.testBit r = false := by
  rw [pk_shrN h (nI r &&& 31) r (s_l r (by omega))]
  have hd : mk / 2 ^ r < 2 ^ 32 := Nat.lt_of_le_of_lt (Nat.div_le_self _ _) (by omega)
  rw [pk_andN hd 1 (by decide), ← nI_0, nI_eq (by omega) (by omega), Nat.testBit_eq_decide_div_mod_eq]
  simp only [decide_eq_false_iff_not]
  omega
/-- what was left out: 256 times BASE, and what those trees add in which the row had no part -/
def woV (M : gM) (i : Nat) (nm : Nat → Int32) : Nat → Int64
  | 0 => 256 * (M.1 283 9).toInt64
  | r + 1 => woV M i nm r + (if M.1 286 (40 * r + i) = 0 then addV M r (lfj M r nm 4) else 0)
theorem woV_t {M : gM} {i r : Nat} {nm : Nat → Int32} (h : M.1 286 (40 * r + i) = 0) : woV M i nm (r + 1) = woV M i nm r + addV M r (lfj M r nm 4) := by
  show _ + (if _ then _ else _) = _
  rw [if_pos h]
theorem woV_f {M : gM} {i r : Nat} {nm : Nat → Int32} (h : ¬ M.1 286 (40 * r + i) = 0) : woV M i nm (r + 1) = woV M i nm r := by
  show _ + (if _ then _ else _) = _
  rw [if_neg h, Int64.add_zero]
theorem q_leftOut {Q : Int64 → gM → Prop} {M : gM} {t i : Nat} {nm : Nat → Int32} (hM : MF M t) (hS : SF M) (hi : i < 40) (ht : tookS M t i) (hnm : nums M (51 + i) nm) (hq : Q (woV M i nm t) M) : wp_TG_leftOut Q (nI i) M := by
  obtain ⟨m0, m1, m2, m3, m4⟩ := hM
  obtain ⟨mk, g1, g2, g3⟩ := ht
  have hp : (2 : Nat) ^ t ≤ 2 ^ 12 := Nat.pow_le_pow_right (by omega) m0
  have go : ∀ z r, r + z = t → wp_TG_leftOut_8 Q (z + 1) (nI i) (woV M i nm r) (nI r) M := by
    intro z
    induction z with
    | zero =>
      intro r hr
      have : r = t := by omega
      subst this
      refine ⟨fun _ => hq, fun c => absurd ?_ c⟩
      rw [m1]
      exact nI_le (Nat.le_refl _) (by omega)
    | succ z ih =>
      intro r hr
      obtain ⟨s, hs⟩ := m3 r (by omega)
      have nx := ih (r + 1) (by omega)
      refine ⟨fun c => ?_, fun _ => ⟨vp_in_nI (by omega) (by omega), ?_⟩⟩
      · rw [m1, nI_leI (by omega) (by omega)] at c; omega
      · rw [nI_clamp (by omega), g2, bit_z (by omega) (by omega)]
        refine ⟨fun c => ?_, fun c => ⟨vp_in_nI (by omega) (by omega), ?_⟩⟩
        · have : ¬ M.1 286 (40 * r + i) = 0 := (g3 r (by omega)).mp (by simpa using c)
          show wp_TG_leftOut_8 Q (z + 1) (nI i) (woV M i nm r) (nI r + 1) M
          rw [nI_1, ← woV_f (nm := nm) this]
          exact nx
        · have : M.1 286 (40 * r + i) = 0 := Classical.byContradiction fun q => by rw [(g3 r (by omega)).mpr q] at c; cases c
          rw [nI_clamp (by omega)]
          refine q_addOf hS (by omega) hs hnm ?_
          show wp_TG_leftOut_8 Q (z + 1) (nI i) (woV M i nm r + addV M r (lfj M r nm 4)) (nI r + 1) M
          rw [nI_1, ← woV_t (nm := nm) this]
          exact nx
  unfold wp_TG_leftOut wp_TG_baseUnits
  rw [(hS 9 (by omega)).1]
  exact ⟨t + 1, go t 0 (by omega)⟩
theorem q_mwithout {Q : Int64 → gM → Prop} {M : gM} {t i : Nat} {nm : Nat → Int32} (hM : MF M t) (hS : SF M) (hi : i < 40) (hnm : ∀ c, c < 4 → M.1 279 (4 * i + c) = nm c) (hq : Q (woV M i nm t) M) : ∀ z r, r + z = t → wp_MD_without_37 Q (z + 1) (nI i) (woV M i nm r) (nI r) M := by
  obtain ⟨m0, m1, m2, m3, m4⟩ := hM
  intro z
  induction z with
  | zero =>
    intro r hr
    have : r = t := by omega
    subst this
    refine ⟨fun _ => hq, fun c => absurd ?_ c⟩
    rw [m2]
    exact nI_le (Nat.le_refl _) (by omega)
  | succ z ih =>
    intro r hr
    obtain ⟨s, hs⟩ := m3 r (by omega)
    have nx := ih (r + 1) (by omega)
    refine ⟨fun c => ?_, fun _ => ?_⟩
    · rw [m2, nI_leI (by omega) (by omega)] at c; omega
    · rw [show (40 : Int32) = nI 40 from rfl, show (4 : Int32) = nI 4 from rfl, show (1 : Int32) = nI 1 from rfl, show (2 : Int32) = nI 2 from rfl, show (3 : Int32) = nI 3 from rfl, pk_mul, pk_mul, nI_add, nI_add, nI_add, nI_add]
      refine ⟨vp_in_nI (by omega) (by omega), ?_⟩
      rw [nI_clamp (show 40 * r + i < 2 ^ 31 by omega), nI_clamp (show 4 * i < 2 ^ 31 by omega), nI_clamp (show 4 * i + 1 < 2 ^ 31 by omega), nI_clamp (show 4 * i + 2 < 2 ^ 31 by omega), nI_clamp (show 4 * i + 3 < 2 ^ 31 by omega)]
      refine ⟨fun c => ⟨vp_in_nI (by omega) (by omega), vp_in_nI (by omega) (by omega), vp_in_nI (by omega) (by omega), vp_in_nI (by omega) (by omega), ?_⟩, fun c => ?_⟩
      · have e0 := hnm 0 (by omega)
        have e1 := hnm 1 (by omega)
        have e2 := hnm 2 (by omega)
        have e3 := hnm 3 (by omega)
        rw [Nat.add_zero] at e0
        rw [e0, e1, e2, e3]
        have el : ∀ j, lfj M r (fun c => nb c (nm 0) (nm 1) (nm 2) (nm 3)) j = lfj M r nm j := by
          intro j
          induction j with
          | zero => rfl
          | succ j ih3 =>
            show stp M r _ (lfj M r _ j) = stp M r nm (lfj M r nm j)
            rw [ih3]
            rcases (hs.2.2.2.2.2 _ (lfj_lt hs (nm := nm) j)).2.2.2 with h | ⟨k, l, m, d, h⟩
            · rw [stp_leaf h, stp_leaf h]
            · rw [stp_node hs.2.1 h, stp_node hs.2.1 h]
              have : nb k (nm 0) (nm 1) (nm 2) (nm 3) = nm k := by
                have hk := h.1.1
                have : k = 0 ∨ k = 1 ∨ k = 2 ∨ k = 3 := by omega
                rcases this with rfl | rfl | rfl | rfl <;> rfl
              rw [this]
        refine q_mleafOf (by omega) hs ?_
        rw [el 4]
        refine q_maddOf hS (by omega) hs (lfj_lt hs 4) ?_
        show wp_MD_without_37 Q (z + 1) (nI i) (woV M i nm r + addV M r (lfj M r nm 4)) (nI r + nI 1) M
        rw [nI_add, ← woV_t (nm := nm) c]
        exact nx
      · show wp_MD_without_37 Q (z + 1) (nI i) (woV M i nm r + 0) (nI r + nI 1) M
        rw [nI_add, Int64.add_zero, ← woV_f (nm := nm) c]
        exact nx
theorem s_without {P : Int64 → Int64 → gM → Prop} {M : gM} {a1 : Int32} (hS : Sim M) (hP : ∀ r, P r r M) : wp_BF_without (fun r M1 => wp_MD_without (fun r' M2 => P r r' M2) a1 M1) a1 M := by
  rcases hS.2.2 with h | ⟨n, t, h⟩
  · exact ⟨fun _ => ⟨fun _ => ⟨fun _ => hP _, fun c => absurd h.1.2 c⟩, fun c => absurd rfl c⟩, fun c => absurd h.1.1 c⟩
  · obtain ⟨hM, hSF⟩ := TF_MF h
    obtain ⟨⟨d1, d2⟩, ⟨n0, n1, n2⟩, ⟨t0, t1, t2⟩, hr, hs, hl, htr⟩ := h
    refine q_isTR d1 n1 ⟨fun e => ?_, fun e => ?_⟩
    · have e := bI_z e
      show wp_MD_without (fun r' M2 => P 0 r' M2) a1 M
      unfold wp_MD_without
      rw [d2, n2]
      refine ⟨fun c => absurd c (by decide), fun _ => ⟨fun _ => hP _, fun c => ⟨fun c2 => ?_, fun _ => hP _⟩⟩⟩
      rw [inX_t.mpr ⟨by rw [i_le]; rw [i_lt] at c; omega, c2⟩] at e
      cases e
    · obtain ⟨i, hi, rfl⟩ := inX_nat (by omega) (bI_nz e)
      obtain ⟨r1, r2, r3⟩ := hr i hi
      refine q_leftOut (nm := M.1 (51 + i)) hM hSF (by omega) r3 (fun c hc => ⟨rfl, (r1 c hc).2⟩) ?_
      show wp_MD_without _ (nI i) M
      unfold wp_MD_without
      rw [d2, n2]
      refine ⟨fun c => absurd c (by decide), fun _ => ⟨fun c => absurd c (nI_pos (by omega)), fun _ => ⟨fun _ => ⟨t + 1, ?_⟩, fun c => absurd (nI_lt hi (by omega)) c⟩⟩⟩
      exact q_mwithout hM hSF (by omega) (fun c hc => ((r1 c hc).1).symm) (hP _) t 0 (by omega)

theorem m1neg {k : Nat} (hk : k < 2 ^ 31) : ¬ nI (k + 1) + (-1) < 0 := by
  rw [pk_m1]
  exact nI_pos hk
theorem rows_i {m : Nat} (h : m ≤ 40) : (nI m).toInt64 = lN m := nI_l (by omega)
theorem q_tellTree {Q : Int64 → gM → Prop} {M : gM} {r s : Nat} {mask : Int32} {nm : Nat → Int32} (hS : SF M) (hr : r < 12) (hs : treeS M r s) (hn : nums M 272 nm) (hq : ∀ M', fr2 115 M M' → Q (tlF M r mask nm 32 0) M') : wp_TG_tellTree Q (116 + 13 * r) mask M := by
  have s31 := hs.2.1
  have s1 := hs.1
  have go : ∀ k M', fr2 115 M M' → k ≤ s → good M r s mask nm (M'.2 115) k → wp_TG_tellTree_8 Q (116 + 13 * r) (k + 1) mask (nI k + (-1)) M' := by
    intro k
    induction k with
    | zero =>
      intro M' f _ g
      refine ⟨fun _ => ?_, fun c => absurd (by decide) c⟩
      rw [good_eq hs g 32 0 (by omega) (by omega) (by omega)]
      exact hq M' f
    | succ k ih =>
      intro M' f hk g
      have f' := fr2_Q (Or.inl rfl) f
      have hs' := treeS_fr (frQ_agR f') hr hs
      have hS' : SF M' := fun k hk => by rw [f.1]; exact hS k hk
      have hn' : nums M' 272 nm := fun c hc => by rw [f.1]; exact hn c hc
      have hi : k < s := by omega
      have hE := (hs'.2.2.2.2.2 k hi).1
      have eb := body_fr f' r mask nm (M'.2 115) k
      have fin : ∀ v, v = body M' r mask nm (M'.2 115) k → wp_TG_tellTree_8 Q (116 + 13 * r) (k + 1) mask (nI k + (-1)) (wl M' 115 k v) := by
        intro v hv
        exact ih _ (fr2_tr f fr2_wl) (by omega) (good_put hs hi g (fun i h => wl_ne (Or.inr h)) (by rw [wl_eq, hv, eb]))
      refine ⟨fun c => absurd c (m1neg (by omega)), fun _ => ?_⟩
      rw [pk_m1]
      refine ⟨vp_in_nI (by omega) (by omega), ?_⟩
      rw [nI_clamp (by omega), hE.1.1, hE.2.2.2.1]
      rcases (hs'.2.2.2.2.2 k hi).2.2.2 with h | ⟨c, l, m, d, h⟩
      · refine ⟨fun q => absurd h q, fun _ => ?_⟩
        unfold wp_TG_shrunk
        rw [(hS' 3 (by omega)).1]
        refine fin _ ?_
        unfold body
        rw [if_pos (by rw [h]; decide)]
        rfl
      · have hc := h.1.1
        have hcn : ¬ M'.1 288 (32 * r + k) < 0 := by rw [h.1.2]; exact nI_pos (by omega)
        refine ⟨fun _ => ⟨fun q => ?_, fun q => ?_⟩, fun q => absurd (by rw [q]; decide) hcn⟩
        · have hl := h.2.1
          have hm := h.2.2.2.1
          have hEl := (hs'.2.2.2.2.2 l (by omega)).1
          have hEr := (hs'.2.2.2.2.2 (l + 1) (by omega)).1
          have ev : ∀ v, v = fdv (M'.2 115 l * (M'.1 292 (32 * r + l)).toInt64 + M'.2 115 (l + 1) * (M'.1 292 (32 * r + (l + 1))).toInt64) (lN m) → v = body M' r mask nm (M'.2 115) k := by
            intro v hv
            unfold body
            rw [if_neg hcn, if_neg q, hl.1, nI_clamp (by omega), hm.1, rows_i hm.2.2]
            exact hv
          refine ⟨vp_in_nI (by omega) (by omega), ?_⟩
          rw [nI_clamp (show k < 2 ^ 31 by omega), hE.1.2.2.2, hE.2.1.1, hl.1, nI_1, nI_clamp (show l < 2 ^ 31 by omega), nI_clamp (show l + 1 < 2 ^ 31 by omega), hEl.2.1.1, hEr.2.1.1, hm.1, rows_i hm.2.2]
          refine ⟨vp_in_nI (by omega) (by omega), vp_in_nI (by omega) (by omega), fun _ => p_floorDiv hm.2.1 (by omega) (fin _ (ev _ rfl)), fun z => absurd z (lN_ne0 hm.2.1 (by omega))⟩
        · refine q_step hr hs' hi hn' ⟨?_, ?_⟩
          · have := stp_lt (nm := nm) hs' hi
            exact vp_in_nI (by omega) (by omega)
          · have := stp_lt (nm := nm) hs' hi
            rw [nI_clamp (show stp M' r nm k < 2 ^ 31 by omega)]
            refine fin _ ?_
            unfold body
            rw [if_neg hcn, if_pos q]
  unfold wp_TG_tellTree
  rw [hs.2.2.1]
  obtain ⟨k, rfl⟩ : ∃ k, s = k + 1 := ⟨s - 1, by omega⟩
  refine ⟨k + 1 + 1, ?_⟩
  have := go (k + 1) M fr2_rf (Nat.le_refl _) (fun i h1 h2 => by omega)
  rw [pk_m1] at this
  rw [nI_pred]
  exact this
theorem q_mtellOf {Q : Int64 → gM → Prop} {M : gM} {r s : Nat} {mask n0 n1 n2 n3 : Int32} (hS : SF M) (hr : r < 12) (hs : treeS M r s) (hq : ∀ M', fr2 298 M M' → Q (tlF M r mask (fun c => nb c n0 n1 n2 n3) 32 0) M') : wp_MD_tellOf Q (nI r) mask n0 n1 n2 n3 M := by
  have s31 := hs.2.1
  have s1 := hs.1
  have go : ∀ k M', fr2 298 M M' → k ≤ s → good M r s mask (fun c => nb c n0 n1 n2 n3) (M'.2 298) k → wp_MD_tellOf_10 Q (k + 1) (nI r) mask n0 n1 n2 n3 (nI k + (-1)) M' := by
    intro k
    induction k with
    | zero =>
      intro M' f _ g
      refine ⟨fun _ => ?_, fun c => absurd (by decide) c⟩
      rw [good_eq hs g 32 0 (by omega) (by omega) (by omega)]
      exact hq M' f
    | succ k ih =>
      intro M' f hk g
      have f' := fr2_Q (Or.inr rfl) f
      have hs' := treeS_fr (frQ_agR f') hr hs
      have hS' : SF M' := fun k hk => by rw [f.1]; exact hS k hk
      have hi : k < s := by omega
      have eb := body_fr f' r mask (fun c => nb c n0 n1 n2 n3) (M'.2 298) k
      have hv32 : vp_in (nI k) 32 := vp_in_nI (by omega) (by omega)
      have fin : ∀ v, v = body M' r mask (fun c => nb c n0 n1 n2 n3) (M'.2 298) k → wp_MD_tellOf_10 Q (k + 1) (nI r) mask n0 n1 n2 n3 (nI k + (-1)) (wl M' 298 k v) := by
        intro v hv
        exact ih _ (fr2_tr f fr2_wl) (by omega) (good_put hs hi g (fun i h => wl_ne (Or.inr h)) (by rw [wl_eq, hv, eb]))
      refine ⟨fun c => absurd c (m1neg (by omega)), fun _ => ?_⟩
      rw [pk_m1, ix32]
      refine ⟨in384 hr (by omega), ?_⟩
      rw [nI_clamp (show 32 * r + k < 2 ^ 31 by omega)]
      rcases (hs'.2.2.2.2.2 k hi).2.2.2 with h | ⟨c, l, m, d, h⟩
      · refine ⟨fun q => absurd q (by rw [h]; decide), fun _ => q_maddOf hS' hr hs' hi ⟨hv32, ?_⟩⟩
        rw [nI_clamp (by omega)]
        refine fin _ ?_
        unfold body
        rw [if_pos (by rw [h]; decide)]
      · have hc := h.1.1
        have hl := h.2.1
        have hcn : ¬ M'.1 288 (32 * r + k) < 0 := by rw [h.1.2]; exact nI_pos (by omega)
        refine ⟨fun _ => ⟨fun q => ?_, fun q => ?_⟩, fun q => absurd (by rw [h.1.2]; exact nI_pos' (by omega)) q⟩
        · have hm := h.2.2.2.1
          have ev : ∀ v, v = fdv (M'.2 298 l * (M'.1 292 (32 * r + l)).toInt64 + M'.2 298 (l + 1) * (M'.1 292 (32 * r + (l + 1))).toInt64) (lN m) → v = body M' r mask (fun c => nb c n0 n1 n2 n3) (M'.2 298) k := by
            intro v hv
            unfold body
            rw [if_neg hcn, if_neg q, hl.1, nI_clamp (by omega), hm.1, rows_i hm.2.2]
            exact hv
          rw [hl.1, ix32, nI_1, nI_1, nI_clamp (show l < 2 ^ 31 by omega), nI_clamp (show l + 1 < 2 ^ 31 by omega), nI_clamp (show 32 * r + l < 2 ^ 31 by omega), nI_clamp (show 32 * r + l + 1 < 2 ^ 31 by omega), hm.1, rows_i hm.2.2]
          refine ⟨vp_in_nI (by omega) (by omega), vp_in_nI (by omega) (by omega), vp_in_nI (by omega) (by omega), vp_in_nI (by omega) (by omega), p_downward hm.2.1 (by omega) ⟨hv32, ?_⟩⟩
          rw [nI_clamp (by omega)]
          exact fin _ (ev _ rfl)
        · have e := stp_node (nm := fun c => nb c n0 n1 n2 n3) hs'.2.1 h
          have last : ∀ v : Nat, v ≤ 1 → stp M' r (fun c => nb c n0 n1 n2 n3) k = l + v → wp_MD_tellOf_123 Q (wp_MD_tellOf_10 Q (k + 1)) (nI r) mask n0 n1 n2 n3 (nI k) (nI v) (nI l) (nI k) M' := by
            intro v hv ev
            unfold wp_MD_tellOf_123
            rw [nI_add]
            refine ⟨vp_in_nI (by omega) (by omega), hv32, ?_⟩
            rw [nI_clamp (show l + v < 2 ^ 31 by omega), nI_clamp (by omega)]
            refine fin _ ?_
            unfold body
            rw [if_neg hcn, if_pos q, ev]
          rw [h.1.2]
          refine p_number hc (p_goesLeft ⟨fun z => ?_, fun z => ?_⟩)
          · rw [bI_z z, if_neg (by decide)] at e
            rw [hl.1]
            exact last 1 (by omega) e
          · rw [bI_nz z, if_pos rfl] at e
            rw [hl.1]
            exact last 0 (by omega) e
  unfold wp_MD_tellOf
  refine ⟨vp_in_nI hr (by omega), ?_⟩
  rw [nI_clamp (by omega), hs.2.2.2.1]
  obtain ⟨k, rfl⟩ : ∃ k, s = k + 1 := ⟨s - 1, by omega⟩
  refine ⟨k + 1 + 1, ?_⟩
  have := go (k + 1) M fr2_rf (Nat.le_refl _) (fun i h1 h2 => by omega)
  rw [pk_m1] at this
  rw [nI_pred]
  exact this
/-- what all trees tell -/
def tall (M : gM) (mask : Int32) (nm : Nat → Int32) : Nat → Int64
  | 0 => 256 * (M.1 283 9).toInt64
  | r + 1 => tall M mask nm r + tlF M r mask nm 32 0
theorem tall_fr {M M' : gM} (f : frQ M M') (mask : Int32) (nm : Nat → Int32) (k : Nat) : tall M' mask nm k = tall M mask nm k := by
  induction k with
  | zero => show _ * (M'.1 283 9).toInt64 = _ * (M.1 283 9).toInt64; rw [f.1 283 _ (by omega)]
  | succ k ih =>
    show tall M' mask nm k + tlF M' k mask nm 32 0 = tall M mask nm k + tlF M k mask nm 32 0
    rw [ih, tlF_fr f]
theorem q_tellAll {Q : Int64 → gM → Prop} {M : gM} {t : Nat} {mask : Int32} {nm : Nat → Int32} (hM : MF M t) (hS : SF M) (hn : nums M 272 nm) (hq : ∀ M', fr2 115 M M' → Q (tall M mask nm t) M') : wp_TG_tellAll Q mask M := by
  have go : ∀ z r M', r + z = t → fr2 115 M M' → wp_TG_tellAll_8 Q (z + 1) mask (tall M mask nm r) (nI r) M' := by
    intro z
    induction z with
    | zero =>
      intro r M' hr f
      have : r = t := by omega
      subst this
      refine ⟨fun _ => hq M' f, fun c => absurd ?_ c⟩
      have m0 := hM.1
      rw [f.1, hM.2.1]
      exact nI_le (Nat.le_refl _) (by omega)
    | succ z ih =>
      intro r M' hr f
      have f' := fr2_Q (Or.inl rfl) f
      obtain ⟨m0, m1, m2, m3, m4⟩ := MF_fr (frQ_agR f') hM
      obtain ⟨s, hs⟩ := m3 r (by omega)
      refine ⟨fun c => ?_, fun _ => ⟨vp_in_nI (by omega) (by omega), ?_⟩⟩
      · rw [m1, nI_leI (by omega) (by omega)] at c; omega
      · rw [nI_clamp (by omega)]
        refine q_tellTree (nm := nm) (m4 (by omega)) (by omega) hs (fun c hc => by rw [f.1]; exact hn c hc) (fun M'' f2 => ?_)
        rw [tlF_fr f', nI_1]
        exact ih (r + 1) M'' (by omega) (fr2_tr f f2)
  unfold wp_TG_tellAll wp_TG_baseUnits
  rw [(hS 9 (by omega)).1]
  exact ⟨t + 1, go t 0 M (by omega) fr2_rf⟩
theorem q_mallTell {Q : Int64 → gM → Prop} {M : gM} {t : Nat} {mask n0 n1 n2 n3 : Int32} (hM : MF M t) (hq : ∀ M', fr2 298 M M' → Q (tall M mask (fun c => nb c n0 n1 n2 n3) t) M') : wp_MD_allTell Q mask n0 n1 n2 n3 M := by
  have go : ∀ z r M', r + z = t → fr2 298 M M' → wp_MD_allTell_17 Q (z + 1) mask n0 n1 n2 n3 (tall M mask (fun c => nb c n0 n1 n2 n3) r) (nI r) M' := by
    intro z
    induction z with
    | zero =>
      intro r M' hr f
      have : r = t := by omega
      subst this
      refine ⟨fun _ => hq M' f, fun c => absurd ?_ c⟩
      have m0 := hM.1
      rw [f.1, hM.2.2.1]
      exact nI_le (Nat.le_refl _) (by omega)
    | succ z ih =>
      intro r M' hr f
      have f' := fr2_Q (Or.inr rfl) f
      obtain ⟨m0, m1, m2, m3, m4⟩ := MF_fr (frQ_agR f') hM
      obtain ⟨s, hs⟩ := m3 r (by omega)
      refine ⟨fun c => ?_, fun _ => ?_⟩
      · rw [m2, nI_leI (by omega) (by omega)] at c; omega
      · refine q_mtellOf (m4 (by omega)) (by omega) hs (fun M'' f2 => ?_)
        rw [tlF_fr f', nI_1]
        exact ih (r + 1) M'' (by omega) (fr2_tr f f2)
  exact ⟨t + 1, go t 0 M (by omega) fr2_rf⟩

theorem ix32 {r i : Nat} : (32 : Int32) * nI r + nI i = nI (32 * r + i) := by rw [show (32 : Int32) = nI 32 from rfl, pk_mul, nI_add]
theorem in384 {r i : Nat} (hr : r < 12) (hi : i < 32) : vp_in (nI (32 * r + i)) 384 := vp_in_nI (by omega) (by omega)
theorem inR_nat {lo hi : Nat} {x : Int32} (hl : lo < 2 ^ 31) (hh : hi < 2 ^ 31) (h : inR (nI lo) (nI hi) x = true) : ∃ a, lo ≤ a ∧ a ≤ hi ∧ x = nI a := by
  obtain ⟨g1, g2⟩ := inR_t.mp h
  obtain ⟨a, ha, rfl⟩ := nI_of (x := x) (fun q => by rw [i_lt, show (0 : Int32).toInt = 0 from rfl] at q; rw [i_le, nI_toInt hl] at g1; omega)
  rw [nI_leI hl ha] at g1
  rw [nI_leI ha hh] at g2
  exact ⟨a, g1, g2, rfl⟩
theorem SF_nat {M : gM} (h : SF M) {k : Nat} (hk : k < 15) {lo hi : Nat} (h1 : c_LOWEST k = nI lo) (h2 : c_HIGHEST k = nI hi) (hl : lo < 2 ^ 31) (hh : hi < 2 ^ 31) : ∃ a, lo ≤ a ∧ a ≤ hi ∧ M.1 94 k = nI a ∧ M.1 283 k = nI a := by
  obtain ⟨e, r⟩ := h k hk
  rw [h1, h2] at r
  obtain ⟨a, g1, g2, ea⟩ := inR_nat hl hh r
  exact ⟨a, g1, g2, ea, e ▸ ea⟩
theorem lN_ne0 {k : Nat} (h : 0 < k) (hk : k < 2 ^ 31) : ¬ lN k = 0 := fun q => by
  have : lN k = lN 0 := q
  rw [lN_eq hk (by omega)] at this
  omega
theorem den_ne {k a : Nat} (hk : k ≤ 320) (ha : a ≤ 1000) (h : 0 < k) : ¬ (nI k + nI a).toInt64 = 0 := by
  rw [nI_add, nI_l (by omega)]
  exact lN_ne0 (by omega) (by omega)
theorem p_valueOf {Q : Int64 → gM → Prop} {M : gM} {g : Int64} {k a : Nat} (hk : k ≤ 320) (ha : a ≤ 1000) (hd : M.1 283 2 = nI a) (hq : Q (valJ g (nI k) (nI a)) M) : wp_MD_valueOf Q g (nI k) M := by
  unfold wp_MD_valueOf
  rw [hd]
  unfold valJ at hq
  refine ⟨fun c => ⟨den_ne hk ha ?_, ?_⟩, fun c => ?_⟩
  · rcases Nat.eq_zero_or_pos k with q | q
    · exact absurd (by rw [q]; rfl) c
    · exact q
  · rw [if_neg c] at hq; exact hq
  · rw [if_pos c] at hq; exact hq
theorem q_isNode {Q : Int32 → gM → Prop} {M : gM} {t : Nat} {a1 a2 : Int32} (hM : MF M t) (hy : ∀ r s i, r < t → treeS M r s → i < s → a1 = nI r → a2 = nI i → Q 1 M) (hn : (∀ r s i, r < t → treeS M r s → i < s → a1 = nI r → a2 = nI i → False) → Q 0 M) : wp_BF_isNode Q a1 a2 M := by
  obtain ⟨m0, m1, m2, m3, m4⟩ := hM
  unfold wp_BF_isNode
  rw [m1]
  refine p_isIndex ⟨fun e => hn fun r s i hr hs hi e1 e2 => ?_, fun e => ?_⟩
  · subst e1
    have := bI_z e
    rw [inX_in (a := a2) (by omega) hr] at this
    cases this
  · obtain ⟨r, hr, rfl⟩ := inX_nat (by omega) (bI_nz e)
    refine ⟨vp_in_nI (by omega) (by omega), ?_⟩
    rw [nI_clamp (by omega)]
    obtain ⟨s, hs⟩ := m3 r hr
    rw [hs.2.2.1]
    have s31 := hs.2.1
    refine p_isIndex ⟨fun e => hn fun r' s' i hr' hs' hi e1 e2 => ?_, fun e => ?_⟩
    · subst e2
      have : r = r' := by rwa [nI_eq (by omega) (by omega)] at e1
      subst this
      have : s = s' := by
        have := hs.2.2.1.symm.trans hs'.2.2.1
        have := hs'.2.1
        rwa [nI_eq (by omega) (by omega)] at *
      subst this
      have := bI_z e
      rw [inX_in (a := 0) (by omega) hi] at this
      cases this
    · obtain ⟨i, hi, rfl⟩ := inX_nat (by omega) (bI_nz e)
      exact hy r s i hr hs hi rfl rfl
theorem p_isTree {Q : Int32 → gM → Prop} {M : gM} {a1 : Int32} (h : Q (bI (inX (M.1 273 14) a1)) M) : wp_MD_isTree Q a1 M := p_isIndex (n := M.1 273 14) h
theorem q_misNode {Q : Int32 → gM → Prop} {M : gM} {t : Nat} {a1 a2 : Int32} (hM : MF M t) (hy : ∀ r s i, r < t → treeS M r s → i < s → a1 = nI r → a2 = nI i → Q 1 M) (hn : (∀ r s i, r < t → treeS M r s → i < s → a1 = nI r → a2 = nI i → False) → Q 0 M) : wp_MD_isNode Q a1 a2 M := by
  obtain ⟨m0, m1, m2, m3, m4⟩ := hM
  refine p_isTree ⟨fun e => hn fun r s i hr hs hi e1 e2 => ?_, fun e => ?_⟩
  · subst e1
    have := bI_z e
    rw [m2, inX_in (a := a2) (by omega) hr] at this
    cases this
  · have e1 := bI_nz e
    rw [m2] at e1
    obtain ⟨r, hr, rfl⟩ := inX_nat (by omega) e1
    obtain ⟨s, hs⟩ := m3 r hr
    have s31 := hs.2.1
    have uni : ∀ r' s' i, treeS M r' s' → i < s' → nI r = nI r' → r' < t → i < s := fun r' s' i hs' hi e1 hr' => by
      have : r = r' := by rwa [nI_eq (by omega) (by omega)] at e1
      subst this
      have q1 := hs.2.2.1.symm.trans hs'.2.2.1
      have q2 := hs'.2.1
      rw [nI_eq (by omega) (by omega)] at q1
      omega
    refine ⟨fun c => hn fun r' s' i hr' hs' hi e1 e2 => ?_, fun c => ⟨vp_in_nI (by omega) (by omega), ?_⟩⟩
    · subst e2
      have := uni r' s' i hs' hi e1 hr'
      exact absurd c (nI_pos (by omega))
    · rw [nI_clamp (by omega), hs.2.2.2.1]
      refine ⟨fun c2 => hn fun r' s' i hr' hs' hi e1 e2 => ?_, fun c2 => ?_⟩
      · subst e2
        have := uni r' s' i hs' hi e1 hr'
        rw [nI_leI (by omega) (by omega)] at c2
        omega
      · obtain ⟨i, hi, rfl⟩ := nI_of c
        rw [nI_leI (by omega) hi] at c2
        exact hy r s i hr hs (by omega) rfl rfl
theorem s_isNode {Q Q' : Int32 → gM → Prop} {M : gM} {t : Nat} {a1 a2 : Int32} (hM : MF M t) (h : (∃ r s i, r < t ∧ treeS M r s ∧ i < s ∧ a1 = nI r ∧ a2 = nI i) ∨ (∀ r s i, r < t → treeS M r s → i < s → a1 = nI r → a2 = nI i → False)) : True := trivial
theorem q_node {Q : Int32 → gM → Prop} {M : gM} {t : Nat} {a1 a2 a3 : Int32} (hM : MF M t) (hy : ∀ r s i j, r < t → treeS M r s → i < s → j < 7 → a1 = nI r → a2 = nI i → a3 = nI j → Q (M.1 (116 + 13 * r + 2 + j) i) M) (hn : (∀ r s i j, r < t → treeS M r s → i < s → j < 7 → a1 = nI r → a2 = nI i → a3 = nI j → False) → Q (-2) M) : wp_BF_node Q a1 a2 a3 M := by
  have m0 := hM.1
  refine q_isNode hM (fun r s i hr hs hi e1 e2 => ⟨fun c => absurd c (by decide), fun _ => ?_⟩) (fun h => ⟨fun _ => hn fun r s i j hr hs hi _ e1 e2 _ => h r s i hr hs hi e1 e2, fun c => absurd rfl c⟩)
  rw [show (7 : Int32) = nI 7 from rfl]
  have s31 := hs.2.1
  subst e1
  subst e2
  refine p_isIndex ⟨fun e => ?_, fun e => hn fun r' s' i' j hr' hs' hi' hj e1 e2 e3 => ?_⟩
  · obtain ⟨j, hj, rfl⟩ := inX_nat (by omega) (bI_nz e)
    refine ⟨vp_in_nI (by omega) (by omega), vp_in_nI (by omega) (by omega), vp_in_nI (by omega) (by omega), ?_⟩
    rw [nI_clamp (by omega), nI_clamp (by omega), nI_clamp (by omega)]
    exact hy r s i j hr hs hi hj rfl rfl rfl
  · subst e3
    have := bI_z e
    rw [inX_in (a := 0) (by omega) hj] at this
    cases this
theorem q_mnode {Q : Int32 → gM → Prop} {M : gM} {t : Nat} {a1 a2 a3 : Int32} (hM : MF M t) (hy : ∀ r s i j, r < t → treeS M r s → i < s → j < 7 → a1 = nI r → a2 = nI i → a3 = nI j → Q (M.1 (288 + j) (32 * r + i)) M) (hn : (∀ r s i j, r < t → treeS M r s → i < s → j < 7 → a1 = nI r → a2 = nI i → a3 = nI j → False) → Q (-2) M) : wp_MD_node Q a1 a2 a3 M := by
  have m0 := hM.1
  refine q_misNode hM (fun r s i hr hs hi e1 e2 => ⟨fun _ => ?_, fun c => absurd c (by decide)⟩) (fun h => ⟨fun c => absurd rfl c, fun _ => hn fun r s i j hr hs hi _ e1 e2 _ => h r s i hr hs hi e1 e2⟩)
  have s31 := hs.2.1
  subst e1
  subst e2
  rw [ix32, nI_clamp (show 32 * r + i < 2 ^ 31 by omega)]
  have hv := in384 (r := r) (i := i) (by omega) (by omega)

  refine ⟨fun c => ⟨hv, hy r s i 0 hr hs hi (by omega) rfl rfl c⟩, fun c0 => ⟨fun c => ⟨hv, hy r s i 1 hr hs hi (by omega) rfl rfl c⟩, fun c1 => ⟨fun c => ⟨hv, hy r s i 2 hr hs hi (by omega) rfl rfl c⟩, fun c2 => ⟨fun c => ⟨hv, hy r s i 3 hr hs hi (by omega) rfl rfl c⟩, fun c3 => ⟨fun c => ⟨hv, hy r s i 4 hr hs hi (by omega) rfl rfl c⟩, fun c4 => ⟨fun c => ⟨hv, hy r s i 5 hr hs hi (by omega) rfl rfl c⟩, fun c5 => ⟨fun c => ⟨hv, hy r s i 6 hr hs hi (by omega) rfl rfl c⟩, fun c6 => hn fun r' s' i' j _ _ _ hj _ _ e3 => ?_⟩⟩⟩⟩⟩⟩⟩
  have : j = 0 ∨ j = 1 ∨ j = 2 ∨ j = 3 ∨ j = 4 ∨ j = 5 ∨ j = 6 := by omega
  rcases this with rfl | rfl | rfl | rfl | rfl | rfl | rfl
  · exact c0 e3
  · exact c1 e3
  · exact c2 e3
  · exact c3 e3
  · exact c4 e3
  · exact c5 e3
  · exact c6 e3
theorem s_node {P : Int32 → Int32 → gM → Prop} {M : gM} {a1 a2 a3 : Int32} (hS : Sim M) (hP : ∀ r, P r r M) : wp_BF_node (fun r M1 => wp_MD_node (fun r' M2 => P r r' M2) a1 a2 a3 M1) a1 a2 a3 M := by
  obtain ⟨t, hM⟩ := simR_MF hS.2.2
  have m0 := hM.1
  refine q_node hM (fun r s i j hr hs hi hj e1 e2 e3 => ?_) (fun hn => q_mnode hM (fun r s i j hr hs hi hj e1 e2 e3 => (hn r s i j hr hs hi hj e1 e2 e3).elim) (fun _ => hP _))
  have s31 := hs.2.1
  refine q_mnode hM (fun r' s' i' j' hr' hs' hi' hj' e1' e2' e3' => ?_) (fun hn => (hn r s i j hr hs hi hj e1 e2 e3).elim)
  have s31' := hs'.2.1
  rw [e1, nI_eq (by omega) (by omega)] at e1'
  rw [e2, nI_eq (by omega) (by omega)] at e2'
  rw [e3, nI_eq (by omega) (by omega)] at e3'
  subst e1'
  subst e2'
  subst e3'
  have hE := (hs.2.2.2.2.2 i hi).1
  have e : M.1 (116 + 13 * r + 2 + j) i = M.1 (288 + j) (32 * r + i) := by
    have : j = 0 ∨ j = 1 ∨ j = 2 ∨ j = 3 ∨ j = 4 ∨ j = 5 ∨ j = 6 := by omega
    rcases this with rfl | rfl | rfl | rfl | rfl | rfl | rfl
    · exact hE.1.1
    · exact hE.1.2.1
    · exact hE.1.2.2.1
    · exact hE.1.2.2.2
    · exact hE.2.1.1
    · exact hE.2.1.2.1
    · exact hE.2.1.2.2
  rw [e]
  exact hP _
theorem q_sum {Q : Int64 → gM → Prop} {M : gM} {t : Nat} {a1 a2 a3 : Int32} (hM : MF M t) (hy : ∀ r s i j, r < t → treeS M r s → i < s → j < 3 → a1 = nI r → a2 = nI i → a3 = nI j → Q (M.2 (116 + 13 * r + 10 + j) i) M) (hn : (∀ r s i j, r < t → treeS M r s → i < s → j < 3 → a1 = nI r → a2 = nI i → a3 = nI j → False) → Q 0 M) : wp_BF_sum Q a1 a2 a3 M := by
  have m0 := hM.1
  refine q_isNode hM (fun r s i hr hs hi e1 e2 => ⟨fun c => absurd c (by decide), fun _ => ?_⟩) (fun h => ⟨fun _ => hn fun r s i j hr hs hi _ e1 e2 _ => h r s i hr hs hi e1 e2, fun c => absurd rfl c⟩)
  rw [show (3 : Int32) = nI 3 from rfl]
  have s31 := hs.2.1
  subst e1
  subst e2
  refine p_isIndex ⟨fun e => ?_, fun e => hn fun r' s' i' j hr' hs' hi' hj e1 e2 e3 => ?_⟩
  · obtain ⟨j, hj, rfl⟩ := inX_nat (by omega) (bI_nz e)
    refine ⟨vp_in_nI (by omega) (by omega), vp_in_nI (by omega) (by omega), vp_in_nI (by omega) (by omega), ?_⟩
    rw [nI_clamp (by omega), nI_clamp (by omega), nI_clamp (by omega)]
    exact hy r s i j hr hs hi hj rfl rfl rfl
  · subst e3
    have := bI_z e
    rw [inX_in (a := 0) (by omega) hj] at this
    cases this
theorem q_msum {Q : Int64 → gM → Prop} {M : gM} {t : Nat} {a1 a2 a3 : Int32} (hM : MF M t) (hy : ∀ r s i j, r < t → treeS M r s → i < s → j < 3 → a1 = nI r → a2 = nI i → a3 = nI j → Q (M.2 (116 + 13 * r + 10 + j) i) M) (hn : (∀ r s i j, r < t → treeS M r s → i < s → j < 3 → a1 = nI r → a2 = nI i → a3 = nI j → False) → Q 0 M) : wp_MD_sum Q a1 a2 a3 M := by
  have m0 := hM.1
  refine q_misNode hM (fun r s i hr hs hi e1 e2 => ⟨fun _ => ?_, fun c => absurd c (by decide)⟩) (fun h => ⟨fun c => absurd rfl c, fun _ => hn fun r s i j hr hs hi _ e1 e2 _ => h r s i hr hs hi e1 e2⟩)
  have s31 := hs.2.1
  have hE := (hs.2.2.2.2.2 i hi).1
  obtain ⟨h, hh, eh⟩ := (hs.2.2.2.2.2 i hi).2.1
  subst e1
  subst e2
  rw [ix32, nI_clamp (show 32 * r + i < 2 ^ 31 by omega)]
  have hv := in384 (r := r) (i := i) (by omega) (by omega)
  obtain ⟨a, -, ha, -, ea⟩ := SF_nat (hM.2.2.2.2 (by omega)) (k := 2) (lo := 0) (hi := 1000) (by omega) rfl rfl (by omega) (by omega)
  refine ⟨fun c0 => ⟨fun c1 => ⟨fun c2 => hn fun r' s' i' j _ _ _ hj _ _ e3 => ?_, fun c => ⟨hv, ?_⟩⟩, fun c => ⟨hv, ?_⟩⟩, fun c => ⟨hv, ?_⟩⟩
  · have : j = 0 ∨ j = 1 ∨ j = 2 := by omega
    rcases this with rfl | rfl | rfl
    · exact c0 e3
    · exact c1 e3
    · exact c2 e3
  · have := hy r s i 2 hr hs hi (by omega) rfl rfl c
    rw [← hE.2.2.2.2]
    exact this
  · have := hy r s i 1 hr hs hi (by omega) rfl rfl c
    rw [eh]
    refine p_valueOf hh ha ea ?_
    have e : M.2 (116 + 13 * r + 10 + 1) i = valJ (M.2 295 (32 * r + i)) (nI h) (nI a) := by rw [← eh, ← ea]; exact hE.2.2.2.1
    rw [← e]
    exact this
  · have := hy r s i 0 hr hs hi (by omega) rfl rfl c
    rw [← hE.2.2.1]
    exact this
theorem s_sum {P : Int64 → Int64 → gM → Prop} {M : gM} {a1 a2 a3 : Int32} (hS : Sim M) (hP : ∀ r, P r r M) : wp_BF_sum (fun r M1 => wp_MD_sum (fun r' M2 => P r r' M2) a1 a2 a3 M1) a1 a2 a3 M := by
  obtain ⟨t, hM⟩ := simR_MF hS.2.2
  have m0 := hM.1
  refine q_sum hM (fun r s i j hr hs hi hj e1 e2 e3 => ?_) (fun hn => q_msum hM (fun r s i j hr hs hi hj e1 e2 e3 => (hn r s i j hr hs hi hj e1 e2 e3).elim) (fun _ => hP _))
  have s31 := hs.2.1
  refine q_msum hM (fun r' s' i' j' hr' hs' hi' hj' e1' e2' e3' => ?_) (fun hn => (hn r s i j hr hs hi hj e1 e2 e3).elim)
  have s31' := hs'.2.1
  rw [e1, nI_eq (by omega) (by omega)] at e1'
  rw [e2, nI_eq (by omega) (by omega)] at e2'
  rw [e3, nI_eq (by omega) (by omega)] at e3'
  subst e1'
  subst e2'
  subst e3'
  exact hP _
theorem s_size {P : Int32 → Int32 → gM → Prop} {M : gM} {a1 : Int32} (hS : Sim M) (hP : ∀ r, P r r M) : wp_BF_size (fun r M1 => wp_MD_size (fun r' M2 => P r r' M2) a1 M1) a1 M := by
  obtain ⟨t, m0, m1, m2, m3, m4⟩ := simR_MF hS.2.2
  unfold wp_BF_size
  rw [m1]
  refine p_isIndex ⟨fun e => p_isTree ⟨fun _ => hP _, fun e2 => ?_⟩, fun e => ?_⟩
  · rw [m2] at e2; exact absurd e e2
  · obtain ⟨r, hr, rfl⟩ := inX_nat (by omega) (bI_nz e)
    obtain ⟨s, hs⟩ := m3 r hr
    have hv : vp_in (nI r) 12 := vp_in_nI (by omega) (by omega)
    refine ⟨hv, p_isTree ⟨fun e2 => ?_, fun _ => ⟨hv, ?_⟩⟩⟩
    · rw [m2] at e2; exact absurd e2 e
    · rw [nI_clamp (by omega), hs.2.2.1, hs.2.2.2.1]
      exact hP _

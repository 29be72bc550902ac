theorem addX_ne {M : gM} {n : Nat} {a b c d y w : Int32} {k j : Nat} (h : ¬ (k = 272 ∨ k = 3 + n ∨ (k = 43 ∧ j = n) ∨ (k = 44 ∧ j = n) ∨ (k = 45 ∧ j = n) ∨ (k = 1 ∧ j = 4))) : (addX M n a b c d y w).1 k j = M.1 k j := by
  unfold addX
  rw [wi_ne (by omega), wi_ne (by omega), wi_ne (by omega), wi_ne (by omega), wc_ne (by omega), kA_ne (by omega)]
theorem addM_ne {M : gM} {n : Nat} {a b c d y w : Int32} {k j : Nat} (h : ¬ (k = 274 ∨ (k = 275 ∧ j = n) ∨ (k = 276 ∧ j = n) ∨ (k = 277 ∧ j = n) ∨ (k = 273 ∧ j = 0))) : (addM M n a b c d y w).1 k j = M.1 k j := by
  unfold addM
  rw [wi_ne (by omega), wi_ne (by omega), wi_ne (by omega), wi_ne (by omega), colM_0 4 (by omega)]
theorem addM_col {M : gM} {n : Nat} {a b c d y w : Int32} {j : Nat} : (addM M n a b c d y w).1 274 j = (colM M n a b c d 4).1 274 j := by
  unfold addM
  rw [wi_ne (by omega), wi_ne (by omega), wi_ne (by omega), wi_ne (by omega)]
theorem areC_nb {a b c d : Int32} (h : areC a b c d = true) {q : Nat} (hq : q < 4) : isC (nb q a b c d) = true := by
  unfold areC at h
  simp only [Bool.and_eq_true] at h
  have hc : q = 0 ∨ q = 1 ∨ q = 2 ∨ q = 3 := by omega
  rcases hc with rfl | rfl | rfl | rfl
  · exact h.1
  · exact h.2.1
  · exact h.2.2.1
  · exact h.2.2.2
theorem add_sim {M : gM} {n : Nat} {a b c d y w : Int32} (hT : simT M n) (hn : n < 40) (h1 : areC a b c d = true) (h2 : inR (-100) 100 y = true) (h3 : inR 1 8 w = true) : simT (addM (addX M n a b c d y w) n a b c d y w) (n + 1) := by
  obtain ⟨t0, t1, t2, t3⟩ := hT
  refine ⟨hn, ?_, ?_, fun i hi => ?_⟩
  · rw [addM_ne (by omega)]; unfold addX; rw [wi_eq]
  · unfold addM; rw [wi_eq]
  by_cases e : i = n
  · subst e
    unfold rowS
    refine ⟨fun q hq => ?_, ?_, ?_, ?_⟩
    · have e1 : (addM (addX M i a b c d y w) i a b c d y w).1 (3 + i) q = nb q a b c d := by
        rw [addM_ne (by omega)]
        unfold addX
        rw [wi_ne (by omega), wi_ne (by omega), wi_ne (by omega), wi_ne (by omega), wc_eq hq, kA_at hq]
      rw [e1, addM_col, colM_new 4 hq]
      exact ⟨rfl, areC_nb h1 hq⟩
    · have e1 : (addM (addX M i a b c d y w) i a b c d y w).1 43 i = y := by
        rw [addM_ne (by omega)]; unfold addX; rw [wi_ne (by omega), wi_ne (by omega), wi_ne (by omega), wi_eq]
      have e2 : (addM (addX M i a b c d y w) i a b c d y w).1 275 i = y := by
        unfold addM; rw [wi_ne (by omega), wi_ne (by omega), wi_ne (by omega), wi_eq]
      rw [e1, e2]; exact ⟨rfl, h2⟩
    · have e1 : (addM (addX M i a b c d y w) i a b c d y w).1 44 i = w := by
        rw [addM_ne (by omega)]; unfold addX; rw [wi_ne (by omega), wi_ne (by omega), wi_eq]
      have e2 : (addM (addX M i a b c d y w) i a b c d y w).1 276 i = w := by
        unfold addM; rw [wi_ne (by omega), wi_ne (by omega), wi_eq]
      rw [e1, e2]; exact ⟨rfl, h3⟩
    · have e1 : (addM (addX M i a b c d y w) i a b c d y w).1 45 i = 0 := by
        rw [addM_ne (by omega)]; unfold addX; rw [wi_ne (by omega), wi_eq]
      have e2 : (addM (addX M i a b c d y w) i a b c d y w).1 277 i = 0 := by
        unfold addM; rw [wi_ne (by omega), wi_eq]
      rw [e1, e2]; exact ⟨rfl, Or.inl rfl⟩
  · have hi : i < n := by omega
    obtain ⟨g1, g2, g3, g4⟩ := t3 i hi
    unfold rowS
    rw [addM_ne (k := 43) (by omega), addM_ne (k := 44) (by omega), addM_ne (k := 45) (by omega), addM_ne (k := 275) (by omega), addM_ne (k := 276) (by omega), addM_ne (k := 277) (by omega), addX_ne (k := 43) (by omega), addX_ne (k := 44) (by omega), addX_ne (k := 45) (by omega), addX_ne (k := 275) (by omega), addX_ne (k := 276) (by omega), addX_ne (k := 277) (by omega)]
    refine ⟨fun q hq => ?_, g2, g3, g4⟩
    rw [addM_ne (k := 3 + i) (by omega), addX_ne (k := 3 + i) (by omega), addM_col, colM_old 4 (by omega) (by omega), addX_ne (k := 274) (by omega)]
    exact g1 q hq
theorem s_row {P : Int32 → Int32 → gM → Prop} {M : gM} {n : Nat} {a b c d y w : Int32} (hT : simT M n) (hP : ∀ r M2, (∃ n', simT M2 n') → frT M M2 → P r r M2) : wp_BF_row (fun r M1 => wp_MD_row (fun r' M2 => P r r' M2) a b c d y w M1) a b c d y w M := by
  refine q_row hT (fun hn h1 h2 h3 => ?_) (fun M1 hbad hM1 => ?_)
  · have e : (addX M n a b c d y w).1 273 0 = nI n := by rw [addX_ne (by omega)]; exact hT.2.2.1
    refine q_mrow (n := n) hT.1 e (fun _ _ _ _ => hP _ _ ⟨n + 1, add_sim hT hn h1 h2 h3⟩ ⟨fun k j h => ?_, fun k j => ?_⟩) (fun hbad => absurd ⟨hn, h1, h2, h3⟩ hbad)
    · rw [addM_ne (by omega), addX_ne (by omega)]
    · show (colM _ n a b c d 4).2 k j = _
      rw [colM_2]
      rfl
  · have f : frT M M1 ∧ simT M1 n := by
      rcases hM1 with rfl | rfl
      · exact ⟨⟨fun _ _ _ => rfl, fun _ _ => rfl⟩, hT⟩
      · exact ⟨⟨fun k j h => kA_ne (by omega), fun _ _ => rfl⟩, simT_fr hT (fun k j h => kA_ne (by omega))⟩
    exact q_mrow (n := n) hT.1 f.2.2.2.1 (fun g1 g2 g3 g4 => absurd ⟨g1, g2, g3, g4⟩ hbad) (fun _ => hP _ _ ⟨n, f.2⟩ f.1)
theorem q_hold {Q : Int32 → gM → Prop} {M : gM} {n : Nat} {a1 a2 : Int32} (hn : n ≤ 40) (h1 : M.1 1 4 = nI n) (hh : ∀ i, i < n → M.1 45 i = 0 ∨ M.1 45 i = 1) (hq : ∀ j, j < n → a1 = nI j → inR 0 1 a2 = true → Q (M.1 45 j) (wi M 45 j a2)) (hb : ¬ (inX (nI n) a1 = true ∧ inR 0 1 a2 = true) → Q (-2) M) : wp_BF_hold Q a1 a2 M := by
  unfold wp_BF_hold
  rw [h1]
  refine p_isIndex ⟨fun e => hb (fun q => ?_), fun e => ?_⟩
  · rw [bI_z e] at q; exact absurd q.1 (by decide)
  have e1 := bI_nz e
  refine p_isWithin ⟨fun e => ?_, fun e => hb (fun q => ?_)⟩
  · have e2 := bI_nz e
    obtain ⟨j, hj, rfl⟩ := inX_nat (by omega) e1
    have ha : a2 = 0 ∨ a2 = 1 := by
      obtain ⟨g1, g2⟩ := inR_t.mp e2
      rw [i_le, show (0 : Int32).toInt = 0 from rfl] at g1
      rw [i_le, show (1 : Int32).toInt = 1 from rfl] at g2
      rcases (show a2.toInt = 0 ∨ a2.toInt = 1 by omega) with h | h
      · exact Or.inl (Int32.toInt_inj.mp h)
      · exact Or.inr (Int32.toInt_inj.mp h)
    have hv : vp_in (nI j) 40 := vp_in_nI (by omega) (by omega)
    have hs : ∀ v, v = M.1 45 j → wp_BF_hold_43 Q (nI j) a2 v M := by
      intro v hv2
      have hqj := hq j hj rfl e2
      rw [← hv2] at hqj
      refine ⟨fun q => ⟨hv, ?_⟩, fun q => ⟨hv, ?_⟩⟩
      · rw [nI_clamp (by omega), nar0]
        rcases ha with rfl | rfl
        · exact hqj
        · exact absurd rfl q
      · rw [nI_clamp (by omega), nar1]
        subst q
        exact hqj
    refine ⟨hv, ?_⟩
    rw [nI_clamp (by omega)]
    refine ⟨fun q => hs 0 q.symm, fun q => hs 1 ?_⟩
    rcases hh j hj with h | h
    · exact absurd h q
    · exact h.symm
  · rw [bI_z e] at q; exact absurd q.2 (by decide)
theorem q_mhold {Q : Int32 → gM → Prop} {M : gM} {n : Nat} {a1 a2 : Int32} (hn : n ≤ 40) (h1 : M.1 273 0 = nI n) (hh : ∀ i, i < n → M.1 277 i = 0 ∨ M.1 277 i = 1) (hq : ∀ j, j < n → a1 = nI j → inR 0 1 a2 = true → Q (M.1 277 j) (wi M 277 j a2)) (hb : ¬ (inX (nI n) a1 = true ∧ inR 0 1 a2 = true) → Q (-2) M) : wp_MD_hold Q a1 a2 M := by
  unfold wp_MD_hold
  rw [h1]
  refine ⟨fun c => hb (fun q => ?_), fun c => ⟨fun c2 => hb (fun q => ?_), fun c2 => ⟨fun c3 => hb (fun q => ?_), fun c3 => ⟨fun c4 => ?_, fun c4 => hb (fun q => ?_)⟩⟩⟩⟩
  · have := (i_le _ _).mp (inX_t.mp q.1).1; rw [i_lt] at c; omega
  · have := (i_lt _ _).mp (inX_t.mp q.1).2; rw [i_le] at c2; omega
  · have := (i_le _ _).mp (inR_t.mp q.2).1; rw [i_lt] at c3; omega
  · have e1 : inX (nI n) a1 = true := inX_t.mpr ⟨by rw [i_le]; rw [i_lt] at c; omega, by rw [i_lt]; rw [i_le] at c2; omega⟩
    have e2 : inR 0 1 a2 = true := inR_t.mpr ⟨by rw [i_le]; rw [i_lt] at c3; omega, c4⟩
    obtain ⟨j, hj, rfl⟩ := inX_nat (by omega) e1
    have ha : a2 = 0 ∨ a2 = 1 := by
      obtain ⟨g1, g2⟩ := inR_t.mp e2
      rw [i_le, show (0 : Int32).toInt = 0 from rfl] at g1
      rw [i_le, show (1 : Int32).toInt = 1 from rfl] at g2
      rcases (show a2.toInt = 0 ∨ a2.toInt = 1 by omega) with h | h
      · exact Or.inl (Int32.toInt_inj.mp h)
      · exact Or.inr (Int32.toInt_inj.mp h)
    have hv : vp_in (nI j) 40 := vp_in_nI (by omega) (by omega)
    have hs : ∀ v, v = M.1 277 j → wp_MD_hold_38 Q (nI j) a2 v M := by
      intro v hv2
      have hqj := hq j hj rfl e2
      rw [← hv2] at hqj
      refine ⟨fun q => ⟨hv, ?_⟩, fun q => ⟨hv, ?_⟩⟩
      · rw [nI_clamp (by omega), nar0]
        rcases ha with rfl | rfl
        · exact hqj
        · exact absurd rfl q
      · rw [nI_clamp (by omega), nar1]
        subst q
        exact hqj
    refine ⟨hv, ?_⟩
    rw [nI_clamp (by omega)]
    refine ⟨fun q => hs 0 q.symm, fun q => hs 1 ?_⟩
    rcases hh j hj with h | h
    · exact absurd h q
    · exact h.symm
  · exact absurd (inR_t.mp q.2).2 c4
theorem s_hold {P : Int32 → Int32 → gM → Prop} {M : gM} {n : Nat} {a1 a2 : Int32} (hT : simT M n) (hP : ∀ r M2, (∃ n', simT M2 n') → frT M M2 → P r r M2) : wp_BF_hold (fun r M1 => wp_MD_hold (fun r' M2 => P r r' M2) a1 a2 M1) a1 a2 M := by
  obtain ⟨t0, t1, t2, t3⟩ := id hT
  refine q_hold t0 t1 (fun i hi => (t3 i hi).2.2.2.2) (fun j hj ha h2 => ?_) (fun hbad => ?_)
  · subst ha
    have e : (wi M 45 j a2).1 273 0 = nI n := by rw [wi_ne (by omega)]; exact t2
    refine q_mhold (n := n) t0 e (fun i hi => ?_) (fun j' hj' he h2' => ?_) (fun hbad => absurd ⟨inX_in (a := a2) (by omega) hj, h2⟩ hbad)
    · rw [wi_ne (by omega), ← (t3 i hi).2.2.2.1]; exact (t3 i hi).2.2.2.2
    · have hjj : j = j' := by rwa [nI_eq (by omega) (by omega)] at he
      subst hjj
      have e3 : (wi M 45 j a2).1 277 j = M.1 45 j := by rw [wi_ne (by omega)]; exact (t3 j hj).2.2.2.1.symm
      rw [e3]
      have ha : a2 = 0 ∨ a2 = 1 := by
        obtain ⟨g1, g2⟩ := inR_t.mp h2
        rw [i_le, show (0 : Int32).toInt = 0 from rfl] at g1
        rw [i_le, show (1 : Int32).toInt = 1 from rfl] at g2
        rcases (show a2.toInt = 0 ∨ a2.toInt = 1 by omega) with h | h
        · exact Or.inl (Int32.toInt_inj.mp h)
        · exact Or.inr (Int32.toInt_inj.mp h)
      refine hP _ _ ⟨n, t0, ?_, ?_, fun i hi => ?_⟩ ⟨fun k j h => ?_, fun _ _ => rfl⟩
      · rw [wi_ne (by omega), wi_ne (by omega)]; exact t1
      · rw [wi_ne (by omega), wi_ne (by omega)]; exact t2
      · obtain ⟨g1, g2, g3, g4⟩ := t3 i hi
        refine ⟨fun q hq => ?_, ?_, ?_, ?_⟩
        · rw [wi_ne (by omega), wi_ne (by omega), wi_ne (k := 277) (by omega), wi_ne (k := 45) (by omega)]; exact g1 q hq
        · rw [wi_ne (by omega), wi_ne (by omega), wi_ne (k := 277) (by omega), wi_ne (k := 45) (by omega)]; exact g2
        · rw [wi_ne (by omega), wi_ne (by omega), wi_ne (k := 277) (by omega), wi_ne (k := 45) (by omega)]; exact g3
        · by_cases hij : i = j
          · subst hij
            rw [wi_eq, wi_ne (by omega), wi_eq]
            exact ⟨rfl, ha⟩
          · rw [wi_ne (by omega), wi_ne (by omega), wi_ne (k := 277) (by omega), wi_ne (k := 45) (by omega)]; exact g4
      · rw [wi_ne (by omega), wi_ne (by omega)]
  · exact q_mhold t0 t2 (fun i hi => by rw [← (t3 i hi).2.2.2.1]; exact (t3 i hi).2.2.2.2) (fun j hj he h2 => absurd ⟨by rw [he]; exact inX_in (a := a2) (by omega) hj, h2⟩ hbad) (fun _ => hP _ _ ⟨n, hT⟩ ⟨fun _ _ _ => rfl, fun _ _ => rfl⟩)
theorem s_clear {P : Int32 → Int32 → gM → Prop} {M : gM} {n : Nat} (hT : simT M n) (hP : ∀ r M2, (∃ n', simT M2 n') → frT M M2 → P r r M2) : wp_BF_clear (fun r M1 => wp_MD_clear (fun r' M2 => P r r' M2) M1) M := by
  obtain ⟨t0, t1, t2, t3⟩ := id hT
  show P (M.1 1 4) ((wi M 1 4 0).1 273 0) (wi (wi M 1 4 0) 273 0 0)
  rw [wi_ne (by omega), t1, t2]
  exact hP _ _ ⟨0, by omega, by rw [wi_ne (by omega), wi_eq]; rfl, by rw [wi_eq]; rfl, fun i hi => absurd hi (by omega)⟩ ⟨fun k j h => by rw [wi_ne (by omega), wi_ne (by omega)], fun _ _ => rfl⟩

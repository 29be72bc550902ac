theorem rngL {Q : Int32 → gM → Prop} {a lo hi : Int32} {M : gM} (h : Q (bI (inR lo hi a)) M) : (a < lo → Q 0 M) ∧ (¬ a < lo → ((hi < a → Q 0 M) ∧ (¬ hi < a → Q 1 M))) := p_isWithin h
theorem inR_any (a : Int32) : inR (-2147483648) 2147483647 a = true := by
  have h1 := Int32.le_toInt a
  have h2 := Int32.toInt_lt a
  refine inR_t.mpr ⟨?_, ?_⟩
  · rw [i_le, show (-2147483648 : Int32).toInt = -2147483648 from rfl]; omega
  · rw [i_le, show (2147483647 : Int32).toInt = 2147483647 from rfl]; omega
def okS (a0 a1 : Int32) : Bool := inX 15 a0 && inR (c_LOWEST a0.toNatClampNeg) (c_HIGHEST a0.toNatClampNeg) a1
theorem p_isSetting {Q : Int32 → gM → Prop} {a0 a1 : Int32} {M : gM} (h : Q (bI (okS a0 a1)) M) : wp_MD_isSetting Q a0 a1 M := by
  rcases pk_ix a0 (n := 15) (by omega) with hx | hx | ⟨j, hj, rfl⟩
  · have hz : okS a0 a1 = false := by unfold okS; rw [inX_f (fun q => by have := (i_le _ _).mp q.1; rw [i_lt] at hx; omega)]; rfl
    rw [hz] at h
    have h : Q 0 M := h
    have hx := (i_lt _ _).mp hx
    have ne : ∀ v : Int32, 0 ≤ v.toInt → ¬ a0 = v := fun v hv q => by subst q; have : (0 : Int32).toInt = 0 := rfl; omega
    refine ⟨fun q => absurd q (ne 0 (by decide)), fun _ => ⟨fun q => absurd q (ne 1 (by decide)), fun _ => ⟨fun q => absurd q (ne 2 (by decide)), fun _ => ⟨fun q => absurd q (ne 3 (by decide)), fun _ => ⟨fun q => absurd q (ne 4 (by decide)), fun _ => ⟨fun q => absurd q (ne 5 (by decide)), fun _ => ⟨fun q => absurd q (ne 6 (by decide)), fun _ => ⟨fun q => absurd q (ne 7 (by decide)), fun _ => ⟨fun q => absurd q (ne 8 (by decide)), fun _ => ⟨fun q => absurd q (ne 9 (by decide)), fun _ => ⟨fun q => absurd q (ne 10 (by decide)), fun _ => ⟨fun _ => h, fun q => absurd ((i_lt _ _).mpr (by rw [show (11 : Int32).toInt = 11 from rfl]; have : (0 : Int32).toInt = 0 := rfl; omega)) q⟩⟩⟩⟩⟩⟩⟩⟩⟩⟩⟩⟩
  · have hz : okS a0 a1 = false := by unfold okS; rw [inX_f (fun q => by have := (i_lt _ _).mp q.2; have hx := (i_le _ _).mp hx; rw [show nI 15 = (15 : Int32) from rfl] at hx; omega)]; rfl
    rw [hz] at h
    have h : Q 0 M := h
    have hx := (i_le _ _).mp hx
    rw [show (nI 15).toInt = 15 from rfl] at hx
    have ne : ∀ v : Int32, v.toInt < 15 → ¬ a0 = v := fun v hv q => by subst q; omega
    refine ⟨fun q => absurd q (ne 0 (by decide)), fun _ => ⟨fun q => absurd q (ne 1 (by decide)), fun _ => ⟨fun q => absurd q (ne 2 (by decide)), fun _ => ⟨fun q => absurd q (ne 3 (by decide)), fun _ => ⟨fun q => absurd q (ne 4 (by decide)), fun _ => ⟨fun q => absurd q (ne 5 (by decide)), fun _ => ⟨fun q => absurd q (ne 6 (by decide)), fun _ => ⟨fun q => absurd q (ne 7 (by decide)), fun _ => ⟨fun q => absurd q (ne 8 (by decide)), fun _ => ⟨fun q => absurd q (ne 9 (by decide)), fun _ => ⟨fun q => absurd q (ne 10 (by decide)), fun _ => ⟨fun _ => h, fun _ => ⟨fun _ => h, fun q => absurd ((i_le _ _).mpr (by rw [show (15 : Int32).toInt = 15 from rfl]; exact hx)) q⟩⟩⟩⟩⟩⟩⟩⟩⟩⟩⟩⟩⟩
  · have hz : okS (nI j) a1 = inR (c_LOWEST j) (c_HIGHEST j) a1 := by unfold okS; rw [show (15 : Int32) = nI 15 from rfl, inX_in (a := a1) (by omega) hj, nI_clamp (by omega)]; rfl
    rw [hz] at h
    have hc : j = 0 ∨ j = 1 ∨ j = 2 ∨ j = 3 ∨ j = 4 ∨ j = 5 ∨ j = 6 ∨ j = 7 ∨ j = 8 ∨ j = 9 ∨ j = 10 ∨ j = 11 ∨ j = 12 ∨ j = 13 ∨ j = 14 := by omega
    rcases hc with rfl | rfl | rfl | rfl | rfl | rfl | rfl | rfl | rfl | rfl | rfl | rfl | rfl | rfl | rfl
    · exact ⟨fun _ => rngL h, fun q => absurd rfl q⟩
    · exact ⟨fun q => absurd q (by decide), fun _ => ⟨fun _ => rngL h, fun q => absurd rfl q⟩⟩
    · exact ⟨fun q => absurd q (by decide), fun _ => ⟨fun q => absurd q (by decide), fun _ => ⟨fun _ => rngL h, fun q => absurd rfl q⟩⟩⟩
    · exact ⟨fun q => absurd q (by decide), fun _ => ⟨fun q => absurd q (by decide), fun _ => ⟨fun q => absurd q (by decide), fun _ => ⟨fun _ => rngL h, fun q => absurd rfl q⟩⟩⟩⟩
    · exact ⟨fun q => absurd q (by decide), fun _ => ⟨fun q => absurd q (by decide), fun _ => ⟨fun q => absurd q (by decide), fun _ => ⟨fun q => absurd q (by decide), fun _ => ⟨fun _ => rngL h, fun q => absurd rfl q⟩⟩⟩⟩⟩
    · exact ⟨fun q => absurd q (by decide), fun _ => ⟨fun q => absurd q (by decide), fun _ => ⟨fun q => absurd q (by decide), fun _ => ⟨fun q => absurd q (by decide), fun _ => ⟨fun q => absurd q (by decide), fun _ => ⟨fun _ => rngL h, fun q => absurd rfl q⟩⟩⟩⟩⟩⟩
    · exact ⟨fun q => absurd q (by decide), fun _ => ⟨fun q => absurd q (by decide), fun _ => ⟨fun q => absurd q (by decide), fun _ => ⟨fun q => absurd q (by decide), fun _ => ⟨fun q => absurd q (by decide), fun _ => ⟨fun q => absurd q (by decide), fun _ => ⟨fun _ => rngL h, fun q => absurd rfl q⟩⟩⟩⟩⟩⟩⟩
    · exact ⟨fun q => absurd q (by decide), fun _ => ⟨fun q => absurd q (by decide), fun _ => ⟨fun q => absurd q (by decide), fun _ => ⟨fun q => absurd q (by decide), fun _ => ⟨fun q => absurd q (by decide), fun _ => ⟨fun q => absurd q (by decide), fun _ => ⟨fun q => absurd q (by decide), fun _ => ⟨fun _ => rngL h, fun q => absurd rfl q⟩⟩⟩⟩⟩⟩⟩⟩
    · exact ⟨fun q => absurd q (by decide), fun _ => ⟨fun q => absurd q (by decide), fun _ => ⟨fun q => absurd q (by decide), fun _ => ⟨fun q => absurd q (by decide), fun _ => ⟨fun q => absurd q (by decide), fun _ => ⟨fun q => absurd q (by decide), fun _ => ⟨fun q => absurd q (by decide), fun _ => ⟨fun q => absurd q (by decide), fun _ => ⟨fun _ => rngL h, fun q => absurd rfl q⟩⟩⟩⟩⟩⟩⟩⟩⟩
    · exact ⟨fun q => absurd q (by decide), fun _ => ⟨fun q => absurd q (by decide), fun _ => ⟨fun q => absurd q (by decide), fun _ => ⟨fun q => absurd q (by decide), fun _ => ⟨fun q => absurd q (by decide), fun _ => ⟨fun q => absurd q (by decide), fun _ => ⟨fun q => absurd q (by decide), fun _ => ⟨fun q => absurd q (by decide), fun _ => ⟨fun q => absurd q (by decide), fun _ => ⟨fun _ => rngL h, fun q => absurd rfl q⟩⟩⟩⟩⟩⟩⟩⟩⟩⟩
    · exact ⟨fun q => absurd q (by decide), fun _ => ⟨fun q => absurd q (by decide), fun _ => ⟨fun q => absurd q (by decide), fun _ => ⟨fun q => absurd q (by decide), fun _ => ⟨fun q => absurd q (by decide), fun _ => ⟨fun q => absurd q (by decide), fun _ => ⟨fun q => absurd q (by decide), fun _ => ⟨fun q => absurd q (by decide), fun _ => ⟨fun q => absurd q (by decide), fun _ => ⟨fun q => absurd q (by decide), fun _ => ⟨fun _ => bI_1 h (inR_any a1), fun q => absurd rfl q⟩⟩⟩⟩⟩⟩⟩⟩⟩⟩⟩
    · exact ⟨fun q => absurd q (by decide), fun _ => ⟨fun q => absurd q (by decide), fun _ => ⟨fun q => absurd q (by decide), fun _ => ⟨fun q => absurd q (by decide), fun _ => ⟨fun q => absurd q (by decide), fun _ => ⟨fun q => absurd q (by decide), fun _ => ⟨fun q => absurd q (by decide), fun _ => ⟨fun q => absurd q (by decide), fun _ => ⟨fun q => absurd q (by decide), fun _ => ⟨fun q => absurd q (by decide), fun _ => ⟨fun q => absurd q (by decide), fun _ => ⟨fun q => absurd q (by decide), fun _ => ⟨fun q => absurd q (by decide), fun _ => rngL h⟩⟩⟩⟩⟩⟩⟩⟩⟩⟩⟩⟩⟩
    · exact ⟨fun q => absurd q (by decide), fun _ => ⟨fun q => absurd q (by decide), fun _ => ⟨fun q => absurd q (by decide), fun _ => ⟨fun q => absurd q (by decide), fun _ => ⟨fun q => absurd q (by decide), fun _ => ⟨fun q => absurd q (by decide), fun _ => ⟨fun q => absurd q (by decide), fun _ => ⟨fun q => absurd q (by decide), fun _ => ⟨fun q => absurd q (by decide), fun _ => ⟨fun q => absurd q (by decide), fun _ => ⟨fun q => absurd q (by decide), fun _ => ⟨fun q => absurd q (by decide), fun _ => ⟨fun q => absurd q (by decide), fun _ => rngL h⟩⟩⟩⟩⟩⟩⟩⟩⟩⟩⟩⟩⟩
    · exact ⟨fun q => absurd q (by decide), fun _ => ⟨fun q => absurd q (by decide), fun _ => ⟨fun q => absurd q (by decide), fun _ => ⟨fun q => absurd q (by decide), fun _ => ⟨fun q => absurd q (by decide), fun _ => ⟨fun q => absurd q (by decide), fun _ => ⟨fun q => absurd q (by decide), fun _ => ⟨fun q => absurd q (by decide), fun _ => ⟨fun q => absurd q (by decide), fun _ => ⟨fun q => absurd q (by decide), fun _ => ⟨fun q => absurd q (by decide), fun _ => ⟨fun q => absurd q (by decide), fun _ => ⟨fun q => absurd q (by decide), fun _ => rngL h⟩⟩⟩⟩⟩⟩⟩⟩⟩⟩⟩⟩⟩
    · exact ⟨fun q => absurd q (by decide), fun _ => ⟨fun q => absurd q (by decide), fun _ => ⟨fun q => absurd q (by decide), fun _ => ⟨fun q => absurd q (by decide), fun _ => ⟨fun q => absurd q (by decide), fun _ => ⟨fun q => absurd q (by decide), fun _ => ⟨fun q => absurd q (by decide), fun _ => ⟨fun q => absurd q (by decide), fun _ => ⟨fun q => absurd q (by decide), fun _ => ⟨fun q => absurd q (by decide), fun _ => ⟨fun q => absurd q (by decide), fun _ => ⟨fun q => absurd q (by decide), fun _ => ⟨fun q => absurd q (by decide), fun _ => rngL h⟩⟩⟩⟩⟩⟩⟩⟩⟩⟩⟩⟩⟩
theorem q_set {Q : Int32 → gM → Prop} {a1 a2 : Int32} {M : gM} (hq : ∀ j, j < 15 → a1 = nI j → okS a1 a2 = true → Q (M.1 46 j) (wi M 46 j a2)) (hb : okS a1 a2 = false → Q (-2) M) : wp_BF_set Q a1 a2 M := by
  unfold wp_BF_set
  rw [show (15 : Int32) = nI 15 from rfl]
  refine p_isIndex ⟨fun e => hb ?_, fun e => ?_⟩
  · unfold okS; rw [show (15 : Int32) = nI 15 from rfl, bI_z e]; rfl
  have e1 := bI_nz e
  obtain ⟨j, hj, rfl⟩ := inX_nat (by omega) e1
  refine ⟨vp_in_nI hj (by omega), ?_⟩
  have hz : okS (nI j) a2 = inR (c_LOWEST j) (c_HIGHEST j) a2 := by unfold okS; rw [show (15 : Int32) = nI 15 from rfl, e1, nI_clamp (by omega)]; rfl
  rw [nI_clamp (by omega)]
  refine p_isWithin ⟨fun e => ?_, fun e => hb ?_⟩
  · exact hq j hj rfl (hz.trans (bI_nz e))
  · exact hz.trans (bI_z e)
theorem q_mset {Q : Int32 → gM → Prop} {a1 a2 : Int32} {M : gM} (hq : ∀ j, j < 15 → a1 = nI j → okS a1 a2 = true → Q (M.1 278 j) (wi M 278 j a2)) (hb : okS a1 a2 = false → Q (-2) M) : wp_MD_set Q a1 a2 M := by
  refine p_isSetting ⟨fun e => ?_, fun e => hb (bI_z e)⟩
  have e1 := bI_nz e
  have e2 : inX (nI 15) a1 = true := by
    have := e1
    unfold okS at this
    rw [Bool.and_eq_true] at this
    exact this.1
  obtain ⟨j, hj, rfl⟩ := inX_nat (by omega) e2
  refine ⟨vp_in_nI hj (by omega), ?_⟩
  rw [nI_clamp (by omega)]
  exact hq j hj rfl e1
/-- what the settings' call leaves as it was -/
def frS (M M' : gM) : Prop := (∀ k j, k ≠ 46 → k ≠ 278 → M'.1 k j = M.1 k j) ∧ ∀ k j, M'.2 k j = M.2 k j
theorem s_set {P : Int32 → Int32 → gM → Prop} {M : gM} {a1 a2 : Int32} (hS : simS M) (hP : ∀ r M2, simS M2 → frS M M2 → P r r M2) : wp_BF_set (fun r M1 => wp_MD_set (fun r' M2 => P r r' M2) a1 a2 M1) a1 a2 M := by
  refine q_set (fun j hj ha h1 => ?_) (fun hb => ?_)
  · subst ha
    refine q_mset (fun j' hj' ha' _ => ?_) (fun hb => by rw [h1] at hb; cases hb)
    have hjj : j = j' := by rwa [nI_eq (by omega) (by omega)] at ha'
    subst hjj
    rw [wi_ne (by omega), ← (hS j hj).1]
    refine hP _ _ (fun k hk => ?_) ⟨fun k q h1 h2 => by rw [wi_ne (by omega), wi_ne (by omega)], fun _ _ => rfl⟩
    by_cases e : k = j
    · subst e
      rw [wi_eq, wi_ne (by omega), wi_eq]
      refine ⟨rfl, ?_⟩
      have := h1
      unfold okS at this
      rw [Bool.and_eq_true, nI_clamp (by omega)] at this
      exact this.2
    · rw [wi_ne (by omega), wi_ne (by omega), wi_ne (by omega), wi_ne (by omega)]
      exact hS k hk
  · exact q_mset (fun j hj _ h1 => by rw [h1] at hb; cases hb) (fun _ => hP _ _ hS ⟨fun _ _ _ _ => rfl, fun _ _ => rfl⟩)

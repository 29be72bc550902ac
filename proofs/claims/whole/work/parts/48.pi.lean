def bcf (a0 : Int32) : Int32 := ((((((((a0 - ((ushr a0 (1 : Int32)) &&& (1431655765 : Int32))) &&& (858993459 : Int32)) + ((ushr (a0 - ((ushr a0 (1 : Int32)) &&& (1431655765 : Int32))) (2 : Int32)) &&& (858993459 : Int32))) + (ushr (((a0 - ((ushr a0 (1 : Int32)) &&& (1431655765 : Int32))) &&& (858993459 : Int32)) + ((ushr (a0 - ((ushr a0 (1 : Int32)) &&& (1431655765 : Int32))) (2 : Int32)) &&& (858993459 : Int32))) (4 : Int32))) &&& (252645135 : Int32)) + (ushr (((((a0 - ((ushr a0 (1 : Int32)) &&& (1431655765 : Int32))) &&& (858993459 : Int32)) + ((ushr (a0 - ((ushr a0 (1 : Int32)) &&& (1431655765 : Int32))) (2 : Int32)) &&& (858993459 : Int32))) + (ushr (((a0 - ((ushr a0 (1 : Int32)) &&& (1431655765 : Int32))) &&& (858993459 : Int32)) + ((ushr (a0 - ((ushr a0 (1 : Int32)) &&& (1431655765 : Int32))) (2 : Int32)) &&& (858993459 : Int32))) (4 : Int32))) &&& (252645135 : Int32)) (8 : Int32))) + (ushr ((((((a0 - ((ushr a0 (1 : Int32)) &&& (1431655765 : Int32))) &&& (858993459 : Int32)) + ((ushr (a0 - ((ushr a0 (1 : Int32)) &&& (1431655765 : Int32))) (2 : Int32)) &&& (858993459 : Int32))) + (ushr (((a0 - ((ushr a0 (1 : Int32)) &&& (1431655765 : Int32))) &&& (858993459 : Int32)) + ((ushr (a0 - ((ushr a0 (1 : Int32)) &&& (1431655765 : Int32))) (2 : Int32)) &&& (858993459 : Int32))) (4 : Int32))) &&& (252645135 : Int32)) + (ushr (((((a0 - ((ushr a0 (1 : Int32)) &&& (1431655765 : Int32))) &&& (858993459 : Int32)) + ((ushr (a0 - ((ushr a0 (1 : Int32)) &&& (1431655765 : Int32))) (2 : Int32)) &&& (858993459 : Int32))) + (ushr (((a0 - ((ushr a0 (1 : Int32)) &&& (1431655765 : Int32))) &&& (858993459 : Int32)) + ((ushr (a0 - ((ushr a0 (1 : Int32)) &&& (1431655765 : Int32))) (2 : Int32)) &&& (858993459 : Int32))) (4 : Int32))) &&& (252645135 : Int32)) (8 : Int32))) (16 : Int32))) &&& (63 : Int32))
def popN (mk : Nat) : Nat → Nat
  | 0 => 0
  | r + 1 => popN mk r + (if mk.testBit r = true then 1 else 0)
set_option maxRecDepth 100000 in
theorem bcf_all : (List.range 4096).all (fun mk => decide (bcf (nI mk) = nI (popN mk 12))) = true := by decide +kernel
theorem bcf_ok {mk : Nat} (h : mk < 4096) : bcf (nI mk) = nI (popN mk 12) := of_decide_eq_true (List.all_eq_true.mp bcf_all mk (List.mem_range.mpr h))
theorem popN_cut {mk t : Nat} (h : mk < 2 ^ t) : ∀ d, popN mk (t + d) = popN mk t := by
  intro d
  induction d with
  | zero => rfl
  | succ d ih =>
    show popN mk (t + d) + _ = _
    rw [ih, if_neg]
    · rfl
    · show ¬ mk.testBit (t + d) = true
      rw [Nat.testBit_lt_two_pow (Nat.lt_of_lt_of_le h (Nat.pow_le_pow_right (by omega) (Nat.le_add_right t d)))]
      decide
theorem popN_cnt {mk : Nat} {g : Nat → Int32} {t : Nat} (h : ∀ r, r < t → (mk.testBit r = true ↔ ¬ g r = 0)) : popN mk t = cntN g t := by
  induction t with
  | zero => rfl
  | succ t ih =>
    show popN mk t + _ = cntN g t + _
    rw [ih (fun r hr => h r (by omega))]
    have := h t (by omega)
    by_cases e : g t = 0
    · rw [if_pos e, if_neg (fun q => this.mp q e)]
    · rw [if_neg e, if_pos (this.mpr e)]
theorem q_isTR {Q : Int32 → gM → Prop} {M : gM} {n : Nat} {a1 : Int32} (h0 : M.1 47 8 = 1) (h1 : M.1 49 4 = nI n) (h : Q (bI (inX (nI n) a1)) M) : wp_BF_isTrainedRow Q a1 M := by
  unfold wp_BF_isTrainedRow
  rw [h0, h1]
  refine ⟨fun c => absurd c (by decide), fun _ => p_isIndex ⟨fun e => bI_0 h (bI_z e), fun e => bI_1 h (bI_nz e)⟩⟩
theorem q_mtook_loop {Q : Int32 → gM → Prop} {M : gM} {t i : Nat} (m0 : t ≤ 12) (hi : i < 40) (m1 : M.1 273 14 = nI t) (hq : Q (nI (cntN (fun r => M.1 286 (40 * r + i)) t)) M) : ∀ z r, r + z = t → wp_MD_took_26 Q (z + 1) (nI i) (nI (cntN (fun r => M.1 286 (40 * r + i)) r)) (nI r) M := by
  intro z
  induction z with
  | zero =>
    intro r hr
    have : r = t := by omega
    subst this
    refine ⟨fun _ => hq, fun c => absurd ?_ c⟩
    rw [m1]
    exact nI_le (Nat.le_refl _) (by omega)
  | succ z ih =>
    intro r hr
    refine ⟨fun c => ?_, fun _ => ?_⟩
    · rw [m1, nI_leI (by omega) (by omega)] at c; omega
    · rw [show (40 : Int32) = nI 40 from rfl, pk_mul, nI_add]
      refine ⟨vp_in_nI (by omega) (by omega), ?_⟩
      rw [nI_clamp (by omega)]
      refine ⟨fun c => ?_, fun c => ?_⟩
      · show wp_MD_took_26 Q (z + 1) (nI i) (nI _ + 0) (nI r + 1) M
        rw [nI_1, Int32.add_zero, ← cntN_0 (h := fun r => M.1 286 (40 * r + i)) c]
        exact ih (r + 1) (by omega)
      · show wp_MD_took_26 Q (z + 1) (nI i) (nI _ + 1) (nI r + 1) M
        rw [nI_1, nI_1, ← cntN_1 (h := fun r => M.1 286 (40 * r + i)) c]
        exact ih (r + 1) (by omega)
theorem s_took {P : Int32 → Int32 → gM → Prop} {M : gM} {a1 : Int32} (hS : Sim M) (hP : ∀ r, P r r M) : wp_BF_took (fun r M1 => wp_MD_took (fun r' M2 => P r r' M2) a1 M1) a1 M := by
  rcases hS.2.2 with h | ⟨n, t, h⟩
  · exact ⟨fun _ => ⟨fun _ => ⟨fun _ => hP _, fun c => absurd h.1.2 c⟩, fun c => absurd rfl c⟩, fun c => absurd h.1.1 c⟩
  · obtain ⟨⟨d1, d2⟩, ⟨n0, n1, n2⟩, ⟨t0, t1, t2⟩, hr, hs, hl, htr⟩ := h
    refine q_isTR d1 n1 ⟨fun e => ?_, fun e => ?_⟩
    · have e := bI_z e
      show wp_MD_took (fun r' M2 => P (-2) r' M2) a1 M
      unfold wp_MD_took
      rw [d2, n2]
      refine ⟨fun c => absurd c (by decide), fun _ => ⟨fun _ => hP _, fun c => ⟨fun c2 => ?_, fun _ => hP _⟩⟩⟩
      rw [inX_t.mpr ⟨by rw [i_le]; rw [i_lt] at c; omega, c2⟩] at e
      cases e
    · obtain ⟨i, hi, rfl⟩ := inX_nat (by omega) (bI_nz e)
      obtain ⟨-, -, mk, g1, g2, g3⟩ := hr i hi
      refine ⟨vp_in_nI (by omega) (by omega), ?_⟩
      rw [nI_clamp (by omega), g2]
      have hp : (2 : Nat) ^ t ≤ 2 ^ 12 := Nat.pow_le_pow_right (by omega) t0
      have e1 : bcf (nI mk) = nI (cntN (fun r => M.1 286 (40 * r + i)) t) := by
        rw [bcf_ok (by omega)]
        congr 1
        obtain ⟨d, hd⟩ : ∃ d, t + d = 12 := ⟨12 - t, by omega⟩
        rw [← hd, popN_cut g1 d]
        exact popN_cnt g3
      show wp_MD_took (fun r' M2 => P (bcf (nI mk)) r' M2) (nI i) M
      rw [e1]
      unfold wp_MD_took
      rw [d2, n2]
      refine ⟨fun c => absurd c (by decide), fun _ => ⟨fun c => absurd c (nI_pos (by omega)), fun _ => ⟨fun _ => ⟨t + 1, ?_⟩, fun c => absurd (nI_lt hi (by omega)) c⟩⟩⟩
      exact q_mtook_loop t0 (by omega) t2 (hP _) t 0 (by omega)
/-- the gains by a column, node after node, tree after tree -/
def gin (M : gM) (a : Int32) (x : Int64) (r : Nat) : Nat → Int64
  | 0 => x
  | i + 1 => gin M a x r i + (if ¬ a < 0 ∧ M.1 288 (32 * r + i) = a then M.2 296 (32 * r + i) else 0)
def gall (M : gM) (a : Int32) : Nat → Int64
  | 0 => 0
  | r + 1 => gin M a (gall M a r) r (M.1 287 r).toNatClampNeg
theorem gin_t {M : gM} {a : Int32} {x : Int64} {r i : Nat} (ha : ¬ a < 0) (h : M.1 288 (32 * r + i) = a) : gin M a x r (i + 1) = gin M a x r i + M.2 296 (32 * r + i) := by
  show _ + (if _ then _ else _) = _
  rw [if_pos ⟨ha, h⟩]
theorem gin_f {M : gM} {a : Int32} {x : Int64} {r i : Nat} (h : ¬ (¬ a < 0 ∧ M.1 288 (32 * r + i) = a)) : gin M a x r (i + 1) = gin M a x r i := by
  show _ + (if _ then _ else _) = _
  rw [if_neg h, Int64.add_zero]
theorem gall_s {M : gM} {a : Int32} {r s : Nat} (hs : treeS M r s) : gall M a (r + 1) = gin M a (gall M a r) r s := by
  have s31 := hs.2.1
  show gin M a (gall M a r) r (M.1 287 r).toNatClampNeg = _
  rw [hs.2.2.2.1, nI_clamp (by omega)]
theorem q_gin {Q : Int64 → gM → Prop} {k5 : Int32 → Int64 → Int32 → gM → Prop} {M : gM} {r s : Nat} {a : Int32} {x : Int64} (ha : ¬ a < 0) (hr : r < 12) (hs : treeS M r s) (hq : k5 a (gin M a x r s) (nI (r + 1)) M) : ∀ z i, i + z = s → wp_TG_gainBy_17 Q k5 (z + 1) a (gin M a x r i) (nI r) (nI i) M := by
  have s31 := hs.2.1
  intro z
  induction z with
  | zero =>
    intro i hi
    have : i = s := by omega
    subst this
    refine ⟨vp_in_nI (by omega) (by omega), ?_⟩
    rw [nI_clamp (by omega), hs.2.2.1, nI_1]
    exact ⟨fun _ => hq, fun c => absurd (nI_le (Nat.le_refl _) (by omega)) c⟩
  | succ z ih =>
    intro i hi
    have hE := (hs.2.2.2.2.2 i (by omega)).1
    refine ⟨vp_in_nI (by omega) (by omega), ?_⟩
    rw [nI_clamp (show r < 2 ^ 31 by omega), hs.2.2.1]
    refine ⟨fun c => ?_, fun _ => ⟨vp_in_nI (by omega) (by omega), ?_⟩⟩
    · rw [nI_leI (by omega) (by omega)] at c; omega
    · rw [nI_clamp (show i < 2 ^ 31 by omega), hE.1.1, hE.2.2.2.2]
      refine ⟨fun c => ?_, fun c => ?_⟩
      · show wp_TG_gainBy_17 Q k5 (z + 1) a _ (nI r) (nI i + 1) M
        rw [nI_1, ← gin_f (x := x) (fun q => c q.2)]
        exact ih (i + 1) (by omega)
      · show wp_TG_gainBy_17 Q k5 (z + 1) a _ (nI r) (nI i + 1) M
        rw [nI_1, ← gin_t (x := x) ha c]
        exact ih (i + 1) (by omega)
theorem q_gall {Q : Int64 → gM → Prop} {M : gM} {t : Nat} {a : Int32} (ha : ¬ a < 0) (hM : MF M t) (hq : Q (gall M a t) M) : ∀ z r, r + z = t → wp_TG_gainBy_5 Q (z + 1) a (gall M a r) (nI r) M := by
  obtain ⟨m0, m1, m2, m3, m4⟩ := hM
  intro z
  induction z with
  | zero =>
    intro r hr
    have : r = t := by omega
    subst this
    refine ⟨fun _ => hq, fun c => absurd ?_ c⟩
    rw [m1]
    exact nI_le (Nat.le_refl _) (by omega)
  | succ z ih =>
    intro r hr
    obtain ⟨s, hs⟩ := m3 r (by omega)
    refine ⟨fun c => ?_, fun _ => ⟨s + 1, q_gin ha (by omega) hs ?_ s 0 (by omega)⟩⟩
    · rw [m1, nI_leI (by omega) (by omega)] at c; omega
    · have := ih (r + 1) (by omega)
      rw [gall_s hs] at this
      exact this
theorem q_mgin {Q : Int64 → gM → Prop} {k5 : Int32 → Int64 → Int32 → gM → Prop} {M : gM} {r s : Nat} {a : Int32} {x : Int64} (hr : r < 12) (hs : treeS M r s) (hq : k5 a (gin M a x r s) (nI (r + 1)) M) : ∀ z i, i + z = s → wp_MD_gain_17 Q k5 (z + 1) a (gin M a x r i) (nI r) (nI i) M := by
  have s31 := hs.2.1
  intro z
  induction z with
  | zero =>
    intro i hi
    have : i = s := by omega
    subst this
    refine ⟨vp_in_nI (by omega) (by omega), ?_⟩
    rw [nI_clamp (by omega), hs.2.2.2.1, nI_1]
    exact ⟨fun _ => hq, fun c => absurd (nI_le (Nat.le_refl _) (by omega)) c⟩
  | succ z ih =>
    intro i hi
    have nx := ih (i + 1) (by omega)
    refine ⟨vp_in_nI (by omega) (by omega), ?_⟩
    rw [nI_clamp (show r < 2 ^ 31 by omega), hs.2.2.2.1]
    refine ⟨fun c => ?_, fun _ => ⟨fun c => ?_, fun ha => ?_⟩⟩
    · rw [nI_leI (by omega) (by omega)] at c; omega
    · show wp_MD_gain_17 Q k5 (z + 1) a (_ + 0) (nI r) (nI i + 1) M
      rw [nI_1, Int64.add_zero, ← gin_f (x := x) (fun q => q.1 c)]
      exact nx
    · rw [ix32]
      refine ⟨in384 hr (by omega), ?_⟩
      rw [nI_clamp (by omega)]
      refine ⟨fun c => ?_, fun c => ?_⟩
      · show wp_MD_gain_17 Q k5 (z + 1) a (_ + 0) (nI r) (nI i + 1) M
        rw [nI_1, Int64.add_zero, ← gin_f (x := x) (fun q => c q.2)]
        exact nx
      · show wp_MD_gain_17 Q k5 (z + 1) a (_ + _) (nI r) (nI i + 1) M
        rw [nI_1, ← gin_t (x := x) ha c]
        exact nx
theorem col_cases {M : gM} {r s i : Nat} (hs : treeS M r s) (hi : i < s) : M.1 288 (32 * r + i) = -1 ∨ ∃ c, c < 4 ∧ M.1 288 (32 * r + i) = nI c := by
  rcases (hs.2.2.2.2.2 i hi).2.2.2 with h | ⟨c, l, m, d, h⟩
  · exact Or.inl h
  · exact Or.inr ⟨c, h.1.1, h.1.2⟩
theorem q_mgall {Q : Int64 → gM → Prop} {M : gM} {t : Nat} {a : Int32} (hM : MF M t) (hq : Q (gall M a t) M) : ∀ z r, r + z = t → wp_MD_gain_5 Q (z + 1) a (gall M a r) (nI r) M := by
  obtain ⟨m0, m1, m2, m3, m4⟩ := hM
  intro z
  induction z with
  | zero =>
    intro r hr
    have : r = t := by omega
    subst this
    refine ⟨fun _ => hq, fun c => absurd ?_ c⟩
    rw [m2]
    exact nI_le (Nat.le_refl _) (by omega)
  | succ z ih =>
    intro r hr
    obtain ⟨s, hs⟩ := m3 r (by omega)
    refine ⟨fun c => ?_, fun _ => ⟨s + 1, q_mgin (by omega) hs ?_ s 0 (by omega)⟩⟩
    · rw [m2, nI_leI (by omega) (by omega)] at c; omega
    · have := ih (r + 1) (by omega)
      rw [gall_s hs] at this
      exact this
theorem gall_0 {M : gM} {t : Nat} {a : Int32} (hM : MF M t) (ha : inX 4 a = false) : ∀ r, r ≤ t → gall M a r = 0 := by
  obtain ⟨m0, m1, m2, m3, m4⟩ := hM
  intro r
  induction r with
  | zero => exact fun _ => rfl
  | succ r ih =>
    intro hr
    obtain ⟨s, hs⟩ := m3 r (by omega)
    rw [gall_s hs, ih (by omega)]
    have all : ∀ i, i ≤ s → gin M a 0 r i = 0 := by
      intro i
      induction i with
      | zero => exact fun _ => rfl
      | succ i ih2 =>
        intro hi
        rw [gin_f, ih2 (by omega)]
        rintro ⟨q1, q2⟩
        rcases col_cases hs (show i < s by omega) with h | ⟨c, hc, h⟩
        · rw [← q2, h] at q1; exact q1 (by decide)
        · rw [← q2, h, show (4 : Int32) = nI 4 from rfl, inX_in (a := 0) (by omega) hc] at ha
          cases ha
    exact all s (Nat.le_refl _)
theorem s_gain {P : Int64 → Int64 → gM → Prop} {M : gM} {a1 : Int32} (hS : Sim M) (hP : ∀ r, P r r M) : wp_BF_gain (fun r M1 => wp_MD_gain (fun r' M2 => P r r' M2) a1 M1) a1 M := by
  obtain ⟨t, hM⟩ := simR_MF hS.2.2
  refine p_isIndex ⟨fun e => ⟨t + 1, ?_⟩, fun e => ⟨t + 1, ?_⟩⟩
  · refine q_mgall hM ?_ t 0 (by omega)
    rw [gall_0 hM (bI_z e) t (Nat.le_refl _)]
    exact hP _
  · have e1 := bI_nz e
    have ha : ¬ a1 < 0 := fun q => by have := (i_le _ _).mp (inX_t.mp e1).1; rw [i_lt] at q; omega
    refine q_gall ha hM ⟨t + 1, ?_⟩ t 0 (by omega)
    exact q_mgall hM (hP _) t 0 (by omega)

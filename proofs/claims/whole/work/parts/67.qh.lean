/-! ===== training: leaves of a tree just grown ===== -/
def stT (T : gM) (nm : Nat → Int32) (i : Nat) : Nat := if T.1 0 i < 0 then i else (T.1 3 i).toNatClampNeg + (if goesL (nm (T.1 0 i).toNatClampNeg) (T.1 1 i) (T.1 2 i) = true then 0 else 1)
def lfT (T : gM) (nm : Nat → Int32) : Nat → Nat
  | 0 => 0
  | j + 1 => stT T nm (lfT T nm j)
def adT (D : tD) (T : gM) (i : Nat) : Int64 := (valJ (T.2 0 i) (T.1 5 i) (D.2.2 3 2) * (D.2.2 3 3).toInt64) / 256
/-- what a grown tree is -/
def strT (T : gM) (s : Nat) : Prop := (1 ≤ s ∧ s ≤ 31) ∧ T.1 6 0 = 0 ∧ ∀ i, i < s → (∃ h, h ≤ 320 ∧ T.1 5 i = nI h) ∧ (∃ m, m ≤ 40 ∧ T.1 4 i = nI m) ∧ (T.1 0 i = -1 ∨ ∃ c l m d, nodeT T s i c l m d)
theorem treT_str {D : tD} {F : Nat → Int64} {r : Nat} (hk : okD D) : strT (treT D F r).2.1 (treT D F r).1 := by
  unfold treT
  have h := growT_inv (r := r) hk (X0_inv (F := F) (r := r) hk) 31
  generalize growT D F r (X0 D F r) 31 = X at h ⊢
  have s31 := h.1.2
  rw [Nat.min_eq_right (by omega)] at h
  refine ⟨h.1, h.2.1, fun i hi => ⟨(h.2.2.2.2.1 i hi).1, (h.2.2.2.2.1 i hi).2, h.2.2.2.2.2.2 i hi hi⟩⟩
theorem stT_leaf {T : gM} {i : Nat} {nm : Nat → Int32} (h : T.1 0 i = -1) : stT T nm i = i := by
  unfold stT
  rw [if_pos (by rw [h]; decide)]
theorem stT_node {T : gM} {s i c l m d : Nat} {nm : Nat → Int32} (hs : s ≤ 31) (h : nodeT T s i c l m d) : stT T nm i = l + (if goesL (nm c) (T.1 1 i) (T.1 2 i) = true then 0 else 1) := by
  unfold stT
  have hc := h.1.1
  have hl := h.2.1.2.2
  rw [h.1.2, if_neg (nI_pos (by omega)), h.2.1.1, nI_clamp (by omega), nI_clamp (by omega)]
theorem stT_lt {T : gM} {s i : Nat} {nm : Nat → Int32} (hs : strT T s) (hi : i < s) : stT T nm i < s := by
  rcases (hs.2.2 i hi).2.2 with h | ⟨c, l, m, d, h⟩
  · rw [stT_leaf h]; exact hi
  · rw [stT_node hs.1.2 h]
    have := h.2.1.2.2
    split <;> omega
theorem lfT_lt {T : gM} {s : Nat} {nm : Nat → Int32} (hs : strT T s) (j : Nat) : lfT T nm j < s := by
  induction j with
  | zero => exact hs.1.1
  | succ j ih => exact stT_lt hs ih
theorem lfT_congr {T : gM} {s : Nat} {nm nm' : Nat → Int32} (hs : strT T s) (e : ∀ c, c < 4 → nm c = nm' c) (j : Nat) : lfT T nm j = lfT T nm' j := by
  induction j with
  | zero => rfl
  | succ j ih =>
    show stT T nm (lfT T nm j) = stT T nm' (lfT T nm' j)
    rw [ih]
    rcases (hs.2.2 _ (lfT_lt hs (nm := nm') j)).2.2 with h | ⟨c, l, m, d, h⟩
    · rw [stT_leaf h, stT_leaf h]
    · rw [stT_node hs.1.2 h, stT_node hs.1.2 h, e c h.1.1]
theorem lfT_stay {T : gM} {j : Nat} {nm : Nat → Int32} (h : T.1 0 (lfT T nm j) = -1) : ∀ d, lfT T nm (j + d) = lfT T nm j := by
  intro d
  induction d with
  | zero => rfl
  | succ d ih =>
    show stT T nm (lfT T nm (j + d)) = _
    rw [ih, stT_leaf h]
theorem lfT_deep {T : gM} {s : Nat} {nm : Nat → Int32} (hs : strT T s) : ∀ j, j ≤ 4 → ¬ T.1 0 (lfT T nm j) = -1 → T.1 6 (lfT T nm j) = nI j := by
  intro j
  induction j with
  | zero => exact fun _ _ => hs.2.1
  | succ j ih =>
    intro hj hne
    have hne' : ¬ T.1 0 (lfT T nm j) = -1 := fun q => hne (by rw [show lfT T nm (j + 1) = lfT T nm j from lfT_stay q 1]; exact q)
    have hd := ih (by omega) hne'
    rcases (hs.2.2 _ (lfT_lt hs (nm := nm) j)).2.2 with h | ⟨c, l, m, d, h⟩
    · exact absurd h hne'
    · have e := stT_node (nm := nm) hs.1.2 h
      have ed := h.2.2.2.2.2.1
      rw [hd, nI_eq (by omega) (by have := h.2.2.2.2.1; omega)] at ed
      subst ed
      show T.1 6 (stT T nm (lfT T nm j)) = _
      rw [e]
      split
      · exact h.2.2.2.2.2.2.1
      · exact h.2.2.2.2.2.2.2
theorem q_mleafT {Q : Int32 → gM → Prop} {M : gM} {r s : Nat} {T : gM} {n0 n1 n2 n3 : Int32} (hr : r < 12) (hs : strT T s) (hT : mdT M r s T) (hq : Q (nI (lfT T (fun c => nb c n0 n1 n2 n3) 4)) M) : wp_MD_leafOf Q (nI r) n0 n1 n2 n3 M := by
  have s31 := hs.1.2
  have go : ∀ z j, j + z = 4 → wp_MD_leafOf_3 Q (z + 1) (nI r) n0 n1 n2 n3 (nI (lfT T (fun c => nb c n0 n1 n2 n3) j)) M := by
    intro z
    induction z with
    | zero =>
      intro j hj
      have : j = 4 := by omega
      subst this
      have hlt := lfT_lt hs (nm := fun c => nb c n0 n1 n2 n3) 4
      unfold wp_MD_leafOf_3
      rw [ix32]
      refine ⟨in384 hr (by omega), ?_⟩
      rw [nI_clamp (by omega), (hT _ hlt).1.1]
      refine ⟨fun _ => hq, fun c => ?_⟩
      exfalso
      have hne : ¬ T.1 0 (lfT T (fun c => nb c n0 n1 n2 n3) 4) = -1 := fun q => c (by rw [q]; decide)
      have hd := lfT_deep hs 4 (by omega) hne
      rcases (hs.2.2 _ hlt).2.2 with h | ⟨k, l, m, d, h⟩
      · exact hne h
      · have ed := h.2.2.2.2.2.1
        have d4 := h.2.2.2.2.1
        rw [hd, nI_eq (by omega) (by omega)] at ed
        omega
    | succ z ih =>
      intro j hj
      have hlt := lfT_lt hs (nm := fun c => nb c n0 n1 n2 n3) j
      have nx := ih (j + 1) (by omega)
      unfold wp_MD_leafOf_3
      rw [ix32]
      refine ⟨in384 hr (by omega), ?_⟩
      have tt := hT _ hlt
      rw [nI_clamp (by omega), tt.1.1, tt.1.2.2.2]
      rcases (hs.2.2 _ hlt).2.2 with h | ⟨k, l, m, d, h⟩
      · refine ⟨fun _ => ?_, fun c => absurd (by rw [h]; decide) c⟩
        have e := lfT_stay h (z + 1)
        rw [show j + (z + 1) = 4 by omega] at e
        rw [e] at hq
        exact hq
      · refine ⟨fun c => ?_, fun _ => ?_⟩
        · rw [h.1.2] at c
          exact absurd c (nI_pos (by have := h.1.1; omega))
        · have e := stT_node (nm := fun c => nb c n0 n1 n2 n3) s31 h
          have nx2 : wp_MD_leafOf_3 Q (z + 1) (nI r) n0 n1 n2 n3 (nI (stT T (fun c => nb c n0 n1 n2 n3) (lfT T (fun c => nb c n0 n1 n2 n3) j))) M := nx
          rw [e] at nx2
          rw [h.1.2, h.2.1.1]
          refine p_number h.1.1 ?_
          rw [tt.1.2.1, tt.1.2.2.1]
          refine p_goesLeft ⟨fun g => ?_, fun g => ?_⟩
          · rw [bI_z g, if_neg (by decide), ← nI_1] at nx2
            exact nx2
          · rw [bI_nz g, if_pos rfl] at nx2
            show wp_MD_leafOf_3 Q (z + 1) (nI r) n0 n1 n2 n3 (nI l + 0) M
            rw [Int32.add_zero]
            exact nx2
  exact ⟨5, go 4 0 (by omega)⟩
theorem q_maddT {Q : Int64 → gM → Prop} {M : gM} {D : tD} {r s i : Nat} {T : gM} (hk : okD D) (hD : mdD M D) (hr : r < 12) (hs : strT T s) (hT : mdT M r s T) (hi : i < s) (hq : Q (adT D T i) M) : wp_MD_addOf Q (nI r) (nI i) M := by
  have s31 := hs.1.2
  obtain ⟨h, hh, eh⟩ := (hs.2.2 i hi).1
  obtain ⟨a, -, ha, ea⟩ := okD_nat hk (k := 2) (lo := 0) (hi := 1000) (by omega) rfl rfl (by omega) (by omega)
  have tt := hT i hi
  unfold wp_MD_addOf
  rw [ix32]
  refine ⟨in384 hr (by omega), ?_⟩
  rw [nI_clamp (by omega), tt.2.1.2.1, tt.2.2.1, eh]
  refine p_valueOf hh ha ((hD.2.2 2 (by omega)).trans ea) ?_
  rw [hD.2.2 3 (by omega)]
  unfold adT at hq
  rw [eh, ea] at hq
  exact hq
/-- F behind a round -/
def nxF (D : tD) (F : Nat → Int64) (T : gM) : Nat → Int64 := fun i => F i + adT D T (lfT T (D.2.1 i) 4)
/-- the rounds: F and the trees' state ahead of round r -/
def Fr (D : tD) : Nat → Nat → Int64
  | 0 => fun _ => 256 * (D.2.2 3 9).toInt64
  | r + 1 => nxF D (Fr D r) (treT D (Fr D r) r).2.1
/-- held loss behind r rounds; least so far; rounds without gain -/
def lsH (D : tD) (r : Nat) : Int64 := lsN D (Fr D r) true D.1
def lst (D : tD) : Nat → Int64
  | 0 => lsH D 0
  | r + 1 => if lst D r ≤ lsH D (r + 1) then lst D r else lsH D (r + 1)
def idl (D : tD) : Nat → Nat
  | 0 => 0
  | r + 1 => if lst D r ≤ lsH D (r + 1) then idl D r + 1 else 0
def anyH (D : tD) : Nat → Bool
  | 0 => false
  | i + 1 => anyH D i || decide (¬ D.2.2 2 i = 0)
/-- is there an end behind round r -/
def endR (D : tD) (r : Nat) : Bool := decide (¬ D.2.2 3 8 ≤ 0) && (anyH D D.1 && decide (¬ nI (idl D r) < D.2.2 3 8))
/-- how many trees come: from r on, z at most -/
def stopR (D : tD) : Nat → Nat → Nat
  | r, 0 => r
  | r, z + 1 => if D.2.2 3 4 ≤ nI r then r else if endR D (r + 1) = true then r + 1 else stopR D (r + 1) z

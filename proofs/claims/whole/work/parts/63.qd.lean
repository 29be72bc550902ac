/-! ===== training: what holds of a tree that grows ===== -/
def dpt (D : tD) : Nat := (D.2.2 3 0).toNatClampNeg
theorem dpt_ok {D : tD} (h : okD D) : 1 ≤ dpt D ∧ dpt D ≤ 4 ∧ D.2.2 3 0 = nI (dpt D) := by
  obtain ⟨a, h1, h2, e⟩ := okD_nat h (k := 0) (lo := 1) (hi := 4) (by omega) rfl rfl (by omega) (by omega)
  have : dpt D = a := by unfold dpt; rw [e, nI_clamp (by omega)]
  rw [this]
  exact ⟨h1, h2, e⟩
def pS (f : Nat → Nat) (k : Nat) : Nat → Nat
  | 0 => 0
  | d + 1 => pS f k d + f (k + d)
theorem pS_head (f : Nat → Nat) (k : Nat) : ∀ d, pS f k (d + 1) = f k + pS f (k + 1) d := by
  intro d
  induction d with
  | zero => show 0 + f (k + 0) = f k + 0; rw [Nat.add_zero]; omega
  | succ d ih =>
    show pS f k (d + 1) + f (k + (d + 1)) = f k + (pS f (k + 1) d + f (k + 1 + d))
    rw [ih, show k + (d + 1) = k + 1 + d by omega]
    omega
theorem pS_congr {f g : Nat → Nat} {k : Nat} : ∀ d, (∀ i, k ≤ i → i < k + d → f i = g i) → pS f k d = pS g k d := by
  intro d
  induction d with
  | zero => exact fun _ => rfl
  | succ d ih =>
    intro e
    show pS f k d + f (k + d) = pS g k d + g (k + d)
    rw [ih (fun i h1 h2 => e i h1 (by omega)), e (k + d) (by omega) (by omega)]
theorem pS_ge {f : Nat → Nat} {k : Nat} (h : ∀ i, 1 ≤ f i) : ∀ d, d ≤ pS f k d := by
  intro d
  induction d with
  | zero => exact Nat.le_refl 0
  | succ d ih =>
    have := h (k + d)
    show d + 1 ≤ pS f k d + f (k + d)
    omega
/-- how many nodes may come of a node -/
def pf (D : tD) (T : gM) (i : Nat) : Nat := 2 ^ (dpt D + 1 - (T.1 6 i).toNatClampNeg) - 1 + (if dpt D + 1 ≤ (T.1 6 i).toNatClampNeg then 1 else 0)
theorem pf_ge {D : tD} {T : gM} : ∀ i, 1 ≤ pf D T i := by
  intro i
  unfold pf
  split
  · omega
  · rename_i h
    obtain ⟨e, he⟩ : ∃ e, dpt D + 1 - (T.1 6 i).toNatClampNeg = e + 1 := ⟨dpt D - (T.1 6 i).toNatClampNeg, by omega⟩
    rw [he, Nat.pow_succ]
    have := Nat.one_le_two_pow (n := e)
    omega
theorem pf_at {D : tD} {T : gM} {i d : Nat} (h : T.1 6 i = nI d) (hd : d ≤ dpt D) (h4 : dpt D ≤ 4) : pf D T i = 2 ^ (dpt D + 1 - d) - 1 := by
  unfold pf
  rw [h, nI_clamp (by omega), if_neg (by omega)]
  rfl
/-- a node of T that is split -/
def nodeT (T : gM) (s i c l m d : Nat) : Prop := (c < 4 ∧ T.1 0 i = nI c) ∧ (T.1 3 i = nI l ∧ i < l ∧ l + 1 < s) ∧ (T.1 2 i = 0 ∨ T.1 2 i = 1) ∧ (T.1 4 i = nI m ∧ 0 < m ∧ m ≤ 40) ∧ d < 4 ∧ T.1 6 i = nI d ∧ T.1 6 l = nI (d + 1) ∧ T.1 6 (l + 1) = nI (d + 1)
/-- a node that is laid and not yet looked at -/
def freshT (D : tD) (F : Nat → Int64) (X : gT3) (i : Nat) : Prop := (X.2.1.1 0 i = -1 ∧ X.2.1.1 1 i = -1 ∧ X.2.1.1 2 i = -1 ∧ X.2.1.1 3 i = -1 ∧ X.2.1.2 1 i = 0) ∧ X.2.1.1 4 i = nI (sN (inN X.2.2 i) D.1) ∧ X.2.1.1 5 i = nI (sH D (inN X.2.2 i) D.1) ∧ X.2.1.2 0 i = sG D F (inN X.2.2 i) D.1
def gInv (D : tD) (F : Nat → Int64) (k : Nat) (X : gT3) : Prop := (1 ≤ X.1 ∧ X.1 ≤ 31) ∧ X.2.1.1 6 0 = 0 ∧ (∀ i, i < X.1 → ∃ d, d ≤ dpt D ∧ X.2.1.1 6 i = nI d) ∧ k + pS (pf D X.2.1) k (X.1 - k) ≤ 31 ∧ (∀ i, i < X.1 → (∃ h, h ≤ 320 ∧ X.2.1.1 5 i = nI h) ∧ ∃ m, m ≤ 40 ∧ X.2.1.1 4 i = nI m) ∧ (∀ i, k ≤ i → i < X.1 → freshT D F X i) ∧ ∀ i, i < k → i < X.1 → X.2.1.1 0 i = -1 ∨ ∃ c l m d, nodeT X.2.1 X.1 i c l m d
/-- a best split is none, or one that may be, above GAIN -/
def okB (D : tD) (nd : Nat → Int32) (k : Nat) (B0 B : gS4) : Prop := B = B0 ∨ ∃ c q sd, c < 4 ∧ q < 32 ∧ sd < 2 ∧ isK D nd k c (nI q) = true ∧ B.2 = (nI c, nI q, nI sd)
theorem imp_ok {D : tD} {nd : Nat → Int32} {k c q sd : Nat} {B0 B : gS4} {d : Int64} (hc : c < 4) (hq : q < 32) (hs : sd < 2) (hK : isK D nd k c (nI q) = true) (h : okB D nd k B0 B) : okB D nd k B0 (imp d (nI c) (nI q) (nI sd) B) := by
  by_cases e : d ≤ B.1
  · rw [imp_t e]; exact h
  · rw [imp_f e]; exact Or.inr ⟨c, q, sd, hc, hq, hs, hK, rfl⟩
theorem ctL_ok {D : tD} {F : Nat → Int64} {nd : Nat → Int32} {T : gM} {k c : Nat} {B0 B : gS4} (hc : c < 4) (h : okB D nd k B0 B) : ∀ q, q ≤ 32 → okB D nd k B0 (ctL D F nd T k c B q) := by
  intro q
  induction q with
  | zero => exact fun _ => h
  | succ q ih =>
    intro hq
    show okB D nd k B0 (sdL D F nd T k c q (ctL D F nd T k c B q))
    unfold sdL
    by_cases e : isK D nd k c (nI q) = true
    · rw [if_pos e]
      exact imp_ok (sd := 1) hc (by omega) (by omega) e (imp_ok (sd := 0) hc (by omega) (by omega) e (ih (by omega)))
    · rw [if_neg e]; exact ih (by omega)
theorem clL_ok {D : tD} {F : Nat → Int64} {nd : Nat → Int32} {T : gM} {r k : Nat} {B0 : gS4} : ∀ c, c ≤ 4 → okB D nd k B0 (clL D F nd T r k B0 c) := by
  intro c
  induction c with
  | zero => exact fun _ => Or.inl rfl
  | succ c ih =>
    intro hc
    show okB D nd k B0 (if _ then _ else _)
    split
    · exact ih (by omega)
    · exact ctL_ok (by omega) (ih (by omega)) 32 (by omega)
theorem best_ok {D : tD} {F : Nat → Int64} {nd : Nat → Int32} {T : gM} {r k : Nat} (h : ¬ (best D F nd T r k).2.1 < 0) : ∃ c q sd, c < 4 ∧ q < 32 ∧ sd < 2 ∧ isK D nd k c (nI q) = true ∧ (best D F nd T r k).2 = (nI c, nI q, nI sd) := by
  rcases clL_ok (D := D) (F := F) (nd := nd) (T := T) (r := r) (k := k) (B0 := ((D.2.2 3 5).toInt64, -1, -1, -1)) 4 (by omega) with e | e
  · exfalso
    apply h
    unfold best
    rw [e]
    show (-1 : Int32) < 0
    decide
  · exact e
theorem hasV_pos {D : tD} {nd : Nat → Int32} {k c : Nat} {v : Int32} : ∀ n, hasV D nd k c v n = true → 0 < sN (inN nd k) n := by
  intro n
  induction n with
  | zero => intro h; cases h
  | succ n ih =>
    intro h
    have h : (hasV D nd k c v n || (inN nd k n && decide (D.2.1 n c = v))) = true := h
    rw [Bool.or_eq_true, Bool.and_eq_true] at h
    show 0 < sN (inN nd k) n + _
    rcases h with h | h
    · have := ih h; omega
    · rw [if_pos h.1]; omega
theorem layN_at {D : tD} {F : Nat → Int64} {nd : Nat → Int32} {T : gM} {k : Nat} {dp : Int32} : (layN D F nd T k dp).1 0 k = -1 ∧ (layN D F nd T k dp).1 1 k = -1 ∧ (layN D F nd T k dp).1 2 k = -1 ∧ (layN D F nd T k dp).1 3 k = -1 ∧ (layN D F nd T k dp).2 1 k = 0 ∧ (layN D F nd T k dp).1 4 k = nI (sN (inN nd k) D.1) ∧ (layN D F nd T k dp).1 5 k = nI (sH D (inN nd k) D.1) ∧ (layN D F nd T k dp).2 0 k = sG D F (inN nd k) D.1 ∧ (layN D F nd T k dp).1 6 k = dp := by
  unfold layN
  simp
theorem layN_ne {D : tD} {F : Nat → Int64} {nd : Nat → Int32} {T : gM} {k i : Nat} {dp : Int32} (h : i ≠ k) : (∀ j, (layN D F nd T k dp).1 j i = T.1 j i) ∧ ∀ j, (layN D F nd T k dp).2 j i = T.2 j i := ⟨fun j => if_neg h, fun j => if_neg h⟩
theorem putB_ne {T : gM} {k i : Nat} {B : gS4} {l : Int32} (h : i ≠ k) : (∀ j, (putB T k B l).1 j i = T.1 j i) ∧ ∀ j, (putB T k B l).2 j i = T.2 j i := ⟨fun j => if_neg h, fun j => if_neg (fun q => h q.1)⟩
theorem putB_at {T : gM} {k : Nat} {B : gS4} {l : Int32} : (putB T k B l).1 0 k = B.2.1 ∧ (putB T k B l).1 1 k = B.2.2.1 ∧ (putB T k B l).1 2 k = B.2.2.2 ∧ (putB T k B l).1 3 k = l ∧ (putB T k B l).2 1 k = B.1 ∧ (putB T k B l).1 4 k = T.1 4 k ∧ (putB T k B l).1 5 k = T.1 5 k ∧ (putB T k B l).1 6 k = T.1 6 k ∧ (putB T k B l).2 0 k = T.2 0 k := by
  unfold putB
  simp
theorem inN_mv {D : tD} {nd : Nat → Int32} {k l : Nat} {B : gS4} {j : Nat} (hj : j < l) (hk : j ≠ k) (h31 : l < 64) (hk3 : k < 64) : ∀ i, inN (mvN D nd k l B) j i = inN nd j i := by
  intro i
  unfold inN mvN
  by_cases e : nd i = nI k
  · rw [if_pos e, e]
    have e1 : ¬ nI k = nI j := fun q => hk ((nI_eq (by omega) (by omega)).mp q).symm
    rw [decide_eq_false e1]
    split
    · exact decide_eq_false (fun q => by rw [nI_eq (by omega) (by omega)] at q; omega)
    · exact decide_eq_false (fun q => by rw [nI_eq (by omega) (by omega)] at q; omega)
  · rw [if_neg e]
/-- a node that is not split -/
theorem keepT {D : tD} {F : Nat → Int64} {k : Nat} {X : gT3} (hk : okD D) (h : gInv D F k X) (hlt : k < X.1) : gInv D F (k + 1) X := by
  obtain ⟨d1, d2, d3⟩ := dpt_ok hk
  obtain ⟨h1, h2, h3, h4, h5, h6, h7⟩ := h
  obtain ⟨d, hd, ed⟩ := h3 k hlt
  have fr := h6 k (Nat.le_refl _) hlt
  obtain ⟨w, hw⟩ : ∃ w, X.1 - k = w + 1 := ⟨X.1 - k - 1, by omega⟩
  rw [hw, pS_head, pf_at ed hd d2] at h4
  have hge : 1 ≤ 2 ^ (dpt D + 1 - d) - 1 := by
    obtain ⟨e, he⟩ : ∃ e, dpt D + 1 - d = e + 1 := ⟨dpt D - d, by omega⟩
    rw [he, Nat.pow_succ]
    have := Nat.one_le_two_pow (n := e)
    omega
  refine ⟨h1, h2, h3, ?_, h5, fun i a b => h6 i (by omega) b, fun i a b => ?_⟩
  · rw [show X.1 - (k + 1) = w by omega]; omega
  · by_cases e : i = k
    · subst e; exact Or.inl fr.1.1
    · exact h7 i (by omega) b
/-- room for two more -/
theorem roomT {D : tD} {F : Nat → Int64} {k d : Nat} {X : gT3} (hk : okD D) (h : gInv D F k X) (hlt : k < X.1) (ed : X.2.1.1 6 k = nI d) (hd : d < dpt D) : X.1 + 2 ≤ 31 := by
  obtain ⟨d1, d2, d3⟩ := dpt_ok hk
  obtain ⟨h1, h2, h3, h4, h5, h6, h7⟩ := h
  obtain ⟨w, hw⟩ : ∃ w, X.1 - k = w + 1 := ⟨X.1 - k - 1, by omega⟩
  rw [hw, pS_head, pf_at ed (by omega) d2] at h4
  have hp := pS_ge (f := pf D X.2.1) (k := k + 1) pf_ge w
  obtain ⟨e, he⟩ : ∃ e, dpt D + 1 - d = e + 2 := ⟨dpt D - d - 1, by omega⟩
  rw [he, Nat.pow_succ, Nat.pow_succ] at h4
  have := Nat.one_le_two_pow (n := e)
  omega
/-- a node that is split -/
theorem splT_inv {D : tD} {F : Nat → Int64} {k d c q sd : Nat} {X : gT3} {B : gS4} (hk : okD D) (h : gInv D F k X) (hlt : k < X.1) (ed : X.2.1.1 6 k = nI d) (hdlt : d < dpt D) (hc : c < 4) (hsd : sd < 2) (hK : isK D X.2.2 k c (nI q) = true) (eB : B.2 = (nI c, nI q, nI sd)) : gInv D F (k + 1) (splT D F k X B) := by
  have s31 := roomT hk h hlt ed hdlt
  obtain ⟨d1, d2, d3⟩ := dpt_ok hk
  obtain ⟨h1, h2, h3, h4, h5, h6, h7⟩ := h
  have fr := h6 k (Nat.le_refl _) hlt
  obtain ⟨w, hw⟩ : ∃ w, X.1 - k = w + 1 := ⟨X.1 - k - 1, by omega⟩
  rw [hw, pS_head, pf_at ed (by omega) d2] at h4
  have en : X.2.1.1 6 k + 1 = nI (d + 1) := by rw [ed, nI_1]
  unfold splT
  rw [en]
  generalize hnd : mvN D X.2.2 k X.1 B = nd'
  -- the new nodes
  have N0 : ∀ i, i ≠ X.1 → i ≠ X.1 + 1 → i ≠ k → (∀ j, (layN D F nd' (layN D F nd' (putB X.2.1 k B (nI X.1)) X.1 (nI (d + 1))) (X.1 + 1) (nI (d + 1))).1 j i = X.2.1.1 j i) ∧ ∀ j, (layN D F nd' (layN D F nd' (putB X.2.1 k B (nI X.1)) X.1 (nI (d + 1))) (X.1 + 1) (nI (d + 1))).2 j i = X.2.1.2 j i := fun i a b e => ⟨fun j => by rw [(layN_ne b).1, (layN_ne a).1, (putB_ne e).1], fun j => by rw [(layN_ne b).2, (layN_ne a).2, (putB_ne e).2]⟩
  have Nk : (∀ j, (layN D F nd' (layN D F nd' (putB X.2.1 k B (nI X.1)) X.1 (nI (d + 1))) (X.1 + 1) (nI (d + 1))).1 j k = (putB X.2.1 k B (nI X.1)).1 j k) := fun j => by rw [(layN_ne (by omega)).1, (layN_ne (by omega)).1]
  have N1 : (∀ j, (layN D F nd' (layN D F nd' (putB X.2.1 k B (nI X.1)) X.1 (nI (d + 1))) (X.1 + 1) (nI (d + 1))).1 j X.1 = (layN D F nd' (putB X.2.1 k B (nI X.1)) X.1 (nI (d + 1))).1 j X.1) ∧ ∀ j, (layN D F nd' (layN D F nd' (putB X.2.1 k B (nI X.1)) X.1 (nI (d + 1))) (X.1 + 1) (nI (d + 1))).2 j X.1 = (layN D F nd' (putB X.2.1 k B (nI X.1)) X.1 (nI (d + 1))).2 j X.1 := ⟨fun j => (layN_ne (by omega)).1 j, fun j => (layN_ne (by omega)).2 j⟩
  have L0 := layN_at (D := D) (F := F) (nd := nd') (T := putB X.2.1 k B (nI X.1)) (k := X.1) (dp := nI (d + 1))
  have L1 := layN_at (D := D) (F := F) (nd := nd') (T := layN D F nd' (putB X.2.1 k B (nI X.1)) X.1 (nI (d + 1))) (k := X.1 + 1) (dp := nI (d + 1))
  have PK := putB_at (T := X.2.1) (k := k) (B := B) (l := nI X.1)
  generalize layN D F nd' (layN D F nd' (putB X.2.1 k B (nI X.1)) X.1 (nI (d + 1))) (X.1 + 1) (nI (d + 1)) = T' at N0 Nk N1 L1 ⊢
  generalize layN D F nd' (putB X.2.1 k B (nI X.1)) X.1 (nI (d + 1)) = T1 at N1 L0
  generalize putB X.2.1 k B (nI X.1) = TK at Nk PK
  have hHn := fun j => sH_le hk (S := inN nd' j) D.1 (Nat.le_refl _)
  have n40 := hk.1
  have old : ∀ j, j < X.1 → j ≠ k → sG D F (inN nd' j) D.1 = sG D F (inN X.2.2 j) D.1 ∧ sH D (inN nd' j) D.1 = sH D (inN X.2.2 j) D.1 ∧ sN (inN nd' j) D.1 = sN (inN X.2.2 j) D.1 := fun j a b => by
    rw [← hnd]
    exact sums_congr (fun i _ => inN_mv a b (by omega) (by omega) i) (fun _ _ => rfl)
  have dep' : ∀ i, i < X.1 → T'.1 6 i = X.2.1.1 6 i := fun i hi => by
    by_cases e : i = k
    · subst e; rw [Nk, PK.2.2.2.2.2.2.2.1]
    · exact (N0 i (by omega) (by omega) e).1 6
  refine ⟨⟨by show 1 ≤ X.1 + 2; omega, s31⟩, ?_, ?_, ?_, ?_, ?_, ?_⟩
  · show T'.1 6 0 = 0
    rw [dep' 0 (by omega)]; exact h2
  · intro i hi
    show ∃ d, d ≤ dpt D ∧ T'.1 6 i = nI d
    have hi : i < X.1 + 2 := hi
    by_cases e0 : i < X.1
    · rw [dep' i e0]; exact h3 i e0
    · by_cases e1 : i = X.1
      · subst e1; exact ⟨d + 1, by omega, by rw [N1.1, L0.2.2.2.2.2.2.2.2]⟩
      · have e2 : i = X.1 + 1 := by omega
        subst e2; exact ⟨d + 1, by omega, L1.2.2.2.2.2.2.2.2⟩
  · show k + 1 + pS (pf D T') (k + 1) (X.1 + 2 - (k + 1)) ≤ 31
    rw [show X.1 + 2 - (k + 1) = w + 1 + 1 by omega]
    show k + 1 + (pS (pf D T') (k + 1) w + pf D T' (k + 1 + w) + pf D T' (k + 1 + (w + 1))) ≤ 31
    rw [show k + 1 + w = X.1 by omega, show k + 1 + (w + 1) = X.1 + 1 by omega]
    have e1 : pf D T' X.1 = 2 ^ (dpt D + 1 - (d + 1)) - 1 := pf_at (by rw [N1.1, L0.2.2.2.2.2.2.2.2]) (by omega) d2
    have e2 : pf D T' (X.1 + 1) = 2 ^ (dpt D + 1 - (d + 1)) - 1 := pf_at L1.2.2.2.2.2.2.2.2 (by omega) d2
    have e3 : pS (pf D T') (k + 1) w = pS (pf D X.2.1) (k + 1) w := pS_congr w (fun i a b => by unfold pf; rw [dep' i (by omega)])
    rw [e1, e2, e3]
    obtain ⟨e, he⟩ : ∃ e, dpt D + 1 - d = e + 1 := ⟨dpt D - d, by omega⟩
    rw [he, Nat.pow_succ] at h4
    rw [show dpt D + 1 - (d + 1) = e by omega]
    have := Nat.one_le_two_pow (n := e)
    omega
  · intro i hi
    have hi : i < X.1 + 2 := hi
    show (∃ h, h ≤ 320 ∧ T'.1 5 i = nI h) ∧ ∃ m, m ≤ 40 ∧ T'.1 4 i = nI m
    by_cases e0 : i < X.1
    · by_cases e : i = k
      · subst e
        rw [Nk, Nk, PK.2.2.2.2.2.1, PK.2.2.2.2.2.2.1]; exact h5 i e0
      · rw [(N0 i (by omega) (by omega) e).1, (N0 i (by omega) (by omega) e).1]; exact h5 i e0
    · by_cases e1 : i = X.1
      · subst e1
        rw [N1.1, N1.1, L0.2.2.2.2.2.2.1, L0.2.2.2.2.2.1]
        exact ⟨⟨_, by have := hHn X.1; omega, rfl⟩, _, Nat.le_trans (sN_le _) n40, rfl⟩
      · have e2 : i = X.1 + 1 := by omega
        subst e2
        rw [L1.2.2.2.2.2.2.1, L1.2.2.2.2.2.1]
        exact ⟨⟨_, by have := hHn (X.1 + 1); omega, rfl⟩, _, Nat.le_trans (sN_le _) n40, rfl⟩
  · intro i a hi
    have hi : i < X.1 + 2 := hi
    show (T'.1 0 i = -1 ∧ T'.1 1 i = -1 ∧ T'.1 2 i = -1 ∧ T'.1 3 i = -1 ∧ T'.2 1 i = 0) ∧ T'.1 4 i = nI (sN (inN nd' i) D.1) ∧ T'.1 5 i = nI (sH D (inN nd' i) D.1) ∧ T'.2 0 i = sG D F (inN nd' i) D.1
    by_cases e0 : i < X.1
    · have z := N0 i (by omega) (by omega) (by omega)
      rw [z.1, z.1, z.1, z.1, z.1, z.1, z.2, z.2, (old i e0 (by omega)).1, (old i e0 (by omega)).2.1, (old i e0 (by omega)).2.2]
      exact h6 i (by omega) e0
    · by_cases e1 : i = X.1
      · subst e1
        rw [N1.1, N1.1, N1.1, N1.1, N1.1, N1.1, N1.2, N1.2]
        exact ⟨⟨L0.1, L0.2.1, L0.2.2.1, L0.2.2.2.1, L0.2.2.2.2.1⟩, L0.2.2.2.2.2.1, L0.2.2.2.2.2.2.1, L0.2.2.2.2.2.2.2.1⟩
      · have e2 : i = X.1 + 1 := by omega
        subst e2
        exact ⟨⟨L1.1, L1.2.1, L1.2.2.1, L1.2.2.2.1, L1.2.2.2.2.1⟩, L1.2.2.2.2.2.1, L1.2.2.2.2.2.2.1, L1.2.2.2.2.2.2.2.1⟩
  · intro i a hi
    show T'.1 0 i = -1 ∨ ∃ c l m d, nodeT T' (X.1 + 2) i c l m d
    by_cases e : i = k
    · subst e
      right
      have hB : B.2.1 = nI c ∧ B.2.2.2 = nI sd := by rw [eB]; exact ⟨rfl, rfl⟩
      have hV : 0 < sN (inN X.2.2 i) D.1 := by
        unfold isK at hK
        rw [Bool.and_eq_true] at hK
        exact hasV_pos _ hK.1
      refine ⟨c, X.1, sN (inN X.2.2 i) D.1, d, ⟨hc, by rw [Nk, PK.1]; exact hB.1⟩, ⟨by rw [Nk, PK.2.2.2.1], hlt, by omega⟩, ?_, ⟨by rw [Nk, PK.2.2.2.2.2.1]; exact fr.2.1, hV, Nat.le_trans (sN_le _) n40⟩, by omega, by rw [Nk, PK.2.2.2.2.2.2.2.1]; exact ed, by rw [N1.1, L0.2.2.2.2.2.2.2.2], L1.2.2.2.2.2.2.2.2⟩
      rw [Nk, PK.2.2.1, hB.2]
      rcases (show sd = 0 ∨ sd = 1 by omega) with rfl | rfl
      · exact Or.inl rfl
      · exact Or.inr rfl
    · have z := N0 i (by omega) (by omega) e
      rw [z.1]
      rcases h7 i (by omega) (by omega) with y | ⟨c, l, m, dd, y⟩
      · exact Or.inl y
      · right
        obtain ⟨y1, y2, y3, y4, y5, y6, y7, y8⟩ := y
        refine ⟨c, l, m, dd, ⟨y1.1, by rw [z.1]; exact y1.2⟩, ⟨by rw [z.1]; exact y2.1, y2.2.1, by omega⟩, by rw [z.1]; exact y3, ⟨by rw [z.1]; exact y4.1, y4.2⟩, y5, by rw [z.1]; exact y6, by rw [dep' l (by omega)]; exact y7, by rw [dep' (l + 1) (by omega)]; exact y8⟩
/-- one node is looked at -/
theorem stpT_inv {D : tD} {F : Nat → Int64} {r k : Nat} {X : gT3} (hk : okD D) (h : gInv D F k X) (hlt : k < X.1) : gInv D F (k + 1) (stpT D F r k X) := by
  by_cases c1 : X.2.1.1 6 k = D.2.2 3 0
  · rw [stpT_a c1]; exact keepT hk h hlt
  · by_cases c2 : (best D F X.2.2 X.2.1 r k).2.1 < 0
    · rw [stpT_b c2]; exact keepT hk h hlt
    · rw [stpT_c c1 c2]
      obtain ⟨d, hd, ed⟩ := h.2.2.1 k hlt
      obtain ⟨c, q, sd, hc, hq, hsd, hK, eB⟩ := best_ok c2
      refine splT_inv hk h hlt ed ?_ hc hsd hK eB
      obtain ⟨-, -, d3⟩ := dpt_ok hk
      rcases Nat.lt_or_ge d (dpt D) with z | z
      · exact z
      · exact absurd (by rw [ed, d3]; congr 1; omega) c1

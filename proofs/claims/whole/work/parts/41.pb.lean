/-- what the rows' calls leave as it was -/
def frT (M M' : gM) : Prop := (∀ k j, ¬ (k < 46 ∨ k = 272 ∨ (k = 273 ∧ j = 0) ∨ (274 ≤ k ∧ k < 278)) → M'.1 k j = M.1 k j) ∧ ∀ k j, M'.2 k j = M.2 k j
def kA (M : gM) (a b c d : Int32) : gM := wi (wi (wi (wi M 272 0 a) 272 1 b) 272 2 c) 272 3 d
theorem kA_ne {M : gM} {a b c d : Int32} {k j : Nat} (h : k ≠ 272) : (kA M a b c d).1 k j = M.1 k j := by
  unfold kA
  rw [wi_ne (Or.inl h), wi_ne (Or.inl h), wi_ne (Or.inl h), wi_ne (Or.inl h)]
theorem kA_at {M : gM} {a0 a1 a2 a3 : Int32} {c : Nat} (h : c < 4) : (kA M a0 a1 a2 a3).1 272 c = nb c a0 a1 a2 a3 := by
  have hc : c = 0 ∨ c = 1 ∨ c = 2 ∨ c = 3 := by omega
  rcases hc with rfl | rfl | rfl | rfl <;> rfl
theorem nar0 : vp_nar .boolean (0 : Int32) = 0 := by decide
theorem nar1 : vp_nar .boolean (1 : Int32) = 1 := by decide
theorem nI_clamp40 {n : Nat} (h : n ≤ 40) : (nI n).toNatClampNeg = n := nI_clamp (by omega)
/-- the new row, in the class -/
def addX (M : gM) (n : Nat) (a b c d y w : Int32) : gM := wi (wi (wi (wi (wc (kA M a b c d) 272 (3 + n) 0 0 4) 43 n y) 44 n w) 45 n 0) 1 4 (nI (n + 1))
/-- the new row, in the reference -/
def colM (M : gM) (n : Nat) (a b c d : Int32) : Nat → gM
  | 0 => M
  | k + 1 => wi (colM M n a b c d k) 274 (4 * n + k) (nb k a b c d)
def addM (M : gM) (n : Nat) (a b c d y w : Int32) : gM := wi (wi (wi (wi (colM M n a b c d 4) 275 n y) 276 n w) 277 n 0) 273 0 (nI (n + 1))
theorem q_append {Q : Int32 → gM → Prop} {M : gM} {n : Nat} {y w : Int32} (hn : n ≤ 40) (h1 : M.1 1 4 = nI n) (hq : n < 40 → Q (nI n) (wi (wi (wi (wi (wc M 272 (3 + n) 0 0 4) 43 n y) 44 n w) 45 n 0) 1 4 (nI (n + 1)))) (hb : n = 40 → Q (-2) M) : wp_TB_append Q 1 272 y w M := by
  unfold wp_TB_append
  rw [h1]
  refine ⟨fun c => ⟨?_, ?_⟩, fun c => hb ?_⟩
  · rw [show (40 : Int32) = nI 40 from rfl, nI_ltI (by omega) (by omega)] at c
    exact vp_in_nI c (by omega)
  · rw [show (40 : Int32) = nI 40 from rfl, nI_ltI (by omega) (by omega)] at c
    rw [nI_clamp40 hn, nar0, nI_1]
    exact hq c
  · rw [show (40 : Int32) = nI 40 from rfl, nI_ltI (by omega) (by omega)] at c
    omega
theorem q_row {Q : Int32 → gM → Prop} {M : gM} {n : Nat} {a b c d y w : Int32} (hT : simT M n) (hq : n < 40 → areC a b c d = true → inR (-100) 100 y = true → inR 1 8 w = true → Q (nI n) (addX M n a b c d y w)) (hb : ∀ M1, ¬ (n < 40 ∧ areC a b c d = true ∧ inR (-100) 100 y = true ∧ inR 1 8 w = true) → (M1 = M ∨ M1 = kA M a b c d) → Q (-2) M1) : wp_BF_row Q a b c d y w M := by
  refine p_areCells ⟨fun e => hb _ (fun q => ?_) (Or.inl rfl), fun e => ?_⟩
  · rw [bI_z e] at q; exact absurd q.2.1 (by decide)
  have e1 := bI_nz e
  refine p_isWithin ⟨fun e => hb _ (fun q => ?_) (Or.inl rfl), fun e => ?_⟩
  · rw [bI_z e] at q; exact absurd q.2.2.1 (by decide)
  have e2 := bI_nz e
  refine p_isWithin ⟨fun e => ?_, fun e => hb _ (fun q => ?_) (Or.inl rfl)⟩
  · have e3 := bI_nz e
    refine q_append (n := n) (M := kA M a b c d) hT.1 (by rw [kA_ne (by decide)]; exact hT.2.1) (fun h => ?_) (fun h => hb _ (fun q => by omega) (Or.inr rfl))
    exact hq h e1 e2 e3
  · rw [bI_z e] at q; exact absurd q.2.2.2 (by decide)
theorem colM_0 {M : gM} {n : Nat} {a b c d : Int32} {k j : Nat} (i : Nat) (h : k ≠ 274) : (colM M n a b c d i).1 k j = M.1 k j := by
  induction i with
  | zero => rfl
  | succ i ih => show (wi _ _ _ _).1 k j = _; rw [wi_ne (Or.inl h)]; exact ih
theorem colM_2 {M : gM} {n : Nat} {a b c d : Int32} {k j : Nat} (i : Nat) : (colM M n a b c d i).2 k j = M.2 k j := by
  induction i with
  | zero => rfl
  | succ i ih => exact ih
theorem colM_old {M : gM} {n : Nat} {a b c d : Int32} {j : Nat} (i : Nat) (hi : i ≤ 4) (h : j < 4 * n) : (colM M n a b c d i).1 274 j = M.1 274 j := by
  induction i with
  | zero => rfl
  | succ i ih => show (wi _ _ _ _).1 274 j = _; rw [wi_ne (Or.inr (by omega))]; exact ih (by omega)
theorem colM_new {M : gM} {n : Nat} {a b c d : Int32} {q : Nat} (i : Nat) (h : q < i) : (colM M n a b c d i).1 274 (4 * n + q) = nb q a b c d := by
  induction i with
  | zero => omega
  | succ i ih =>
    show (wi _ _ _ _).1 274 _ = _
    by_cases e : q = i
    · subst e; rw [wi_eq]
    · rw [wi_ne (Or.inr (by omega))]; exact ih (by omega)
theorem q_mrow_loop {Q : Int32 → gM → Prop} {M : gM} {n : Nat} {a b c d y w : Int32} (hn : n < 40) (h1 : M.1 273 0 = nI n) (hq : Q (nI n) (addM M n a b c d y w)) : ∀ z i, i + z = 4 → wp_MD_row_53 Q (z + 1) a b c d y w (nI i) (colM M n a b c d i) := by
  intro z
  have h1' : ∀ i, (colM M n a b c d i).1 273 0 = nI n := fun i => by rw [colM_0 i (by decide)]; exact h1
  induction z with
  | zero =>
    intro i hi
    have : i = 4 := by omega
    subst this
    refine ⟨fun _ => ?_, fun c => absurd (by decide) c⟩
    rw [h1' 4]
    refine ⟨vp_in_nI hn (by omega), ?_⟩
    rw [nI_clamp40 (by omega), nar0, nI_1, nI_pred]
    exact hq
  | succ z ih =>
    intro i hi
    refine ⟨fun c => ?_, fun _ => ?_⟩
    · rw [show (4 : Int32) = nI 4 from rfl, nI_leI (by omega) (by omega)] at c; omega
    · refine p_number (by omega) ?_
      rw [h1' i, show (4 : Int32) = nI 4 from rfl, pk_mul, nI_add]
      refine ⟨vp_in_nI (by omega) (by omega), ?_⟩
      rw [nI_clamp (by omega), nI_1]
      exact ih (i + 1) (by omega)
theorem q_mrow {Q : Int32 → gM → Prop} {M : gM} {n : Nat} {a b c d y w : Int32} (hn : n ≤ 40) (h1 : M.1 273 0 = nI n) (hq : n < 40 → areC a b c d = true → inR (-100) 100 y = true → inR 1 8 w = true → Q (nI n) (addM M n a b c d y w)) (hb : ¬ (n < 40 ∧ areC a b c d = true ∧ inR (-100) 100 y = true ∧ inR 1 8 w = true) → Q (-2) M) : wp_MD_row Q a b c d y w M := by
  refine p_areNumbers ⟨fun e => hb (fun q => ?_), fun e => ?_⟩
  · rw [bI_z e] at q; exact absurd q.2.1 (by decide)
  have e1 := bI_nz e
  refine ⟨fun e => hb (fun q => ?_), fun e => ⟨fun e' => hb (fun q => ?_), fun e' => ⟨fun f => hb (fun q => ?_), fun f => ⟨fun f' => hb (fun q => ?_), fun f' => ?_⟩⟩⟩⟩
  · have := (i_le _ _).mp (inR_t.mp q.2.2.1).1; rw [i_lt] at e; omega
  · have := (i_le _ _).mp (inR_t.mp q.2.2.1).2; rw [i_lt] at e'; omega
  · have := (i_le _ _).mp (inR_t.mp q.2.2.2).1; rw [i_lt] at f; omega
  · have := (i_le _ _).mp (inR_t.mp q.2.2.2).2; rw [i_lt] at f'; omega
  · have e2 : inR (-100) 100 y = true := inR_t.mpr ⟨by rw [i_le]; rw [i_lt] at e; omega, by rw [i_le]; rw [i_lt] at e'; omega⟩
    have e3 : inR 1 8 w = true := inR_t.mpr ⟨by rw [i_le]; rw [i_lt] at f; omega, by rw [i_le]; rw [i_lt] at f'; omega⟩
    rw [h1, show (40 : Int32) = nI 40 from rfl]
    refine ⟨fun g => ?_, fun g => hb (fun q => ?_)⟩
    · have hlt : n < 40 := by
        rcases Nat.lt_or_ge n 40 with q | q
        · exact q
        · exact absurd (congrArg nI (show n = 40 by omega)) g
      exact ⟨5, q_mrow_loop hlt h1 (hq hlt e1 e2 e3) 4 0 (by omega)⟩
    · rw [nI_eq (by omega) (by omega)] at g; omega

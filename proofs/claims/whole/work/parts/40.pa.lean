/-! ===== meanings, by hand: numbers, rows, settings ===== -/
abbrev b2 (p : Prop) (d : Decidable p) : Int32 := if p then 1 else 0
abbrev bI (b : Bool) : Int32 := if b = true then 1 else 0
theorem bI_nz {b : Bool} (h : ¬ bI b = 0) : b = true := by
  cases b
  · exact absurd rfl h
  · rfl
theorem bI_z {b : Bool} (h : bI b = 0) : b = false := by
  cases b
  · rfl
  · exact absurd h (by decide)
theorem bI_0 {b : Bool} {Q : Int32 → gM → Prop} {M : gM} (h : Q (bI b) M) (n : b = false) : Q 0 M := by
  subst n
  exact h
theorem bI_1 {b : Bool} {Q : Int32 → gM → Prop} {M : gM} (h : Q (bI b) M) (n : b = true) : Q 1 M := by
  subst n
  exact h
theorem i_le (a b : Int32) : a ≤ b ↔ a.toInt ≤ b.toInt := Int32.le_iff_toInt_le
theorem i_lt (a b : Int32) : a < b ↔ a.toInt < b.toInt := Int32.lt_iff_toInt_lt
def inR (lo hi a : Int32) : Bool := decide (lo ≤ a ∧ a ≤ hi)
theorem inR_t {lo hi a : Int32} : inR lo hi a = true ↔ lo ≤ a ∧ a ≤ hi := by simp [inR]
theorem inR_f {lo hi a : Int32} (h : ¬ (lo ≤ a ∧ a ≤ hi)) : inR lo hi a = false := by simpa [inR] using h
def isC (a : Int32) : Bool := inR (-1) 31 a
def areC (a b c d : Int32) : Bool := isC a && (isC b && (isC c && isC d))
theorem p_isWithin {Q : Int32 → gM → Prop} {a lo hi : Int32} {M : gM} (h : Q (bI (inR lo hi a)) M) : wp_BF_isWithin Q a lo hi M := by
  refine ⟨fun c => bI_0 h (inR_f fun q => ?_), fun c => ⟨fun c2 => bI_0 h (inR_f fun q => ?_), fun c2 => bI_1 h (inR_t.mpr ⟨?_, ?_⟩)⟩⟩
  · rw [i_lt] at c; have := (i_le _ _).mp q.1; omega
  · rw [i_lt] at c2; have := (i_le _ _).mp q.2; omega
  · rw [i_lt] at c; rw [i_le]; omega
  · rw [i_lt] at c2; rw [i_le]; omega
def inX (n a : Int32) : Bool := decide (0 ≤ a ∧ a < n)
theorem inX_t {n a : Int32} : inX n a = true ↔ 0 ≤ a ∧ a < n := by simp [inX]
theorem inX_f {n a : Int32} (h : ¬ (0 ≤ a ∧ a < n)) : inX n a = false := by simpa [inX] using h
theorem inX_nat {n : Nat} {a : Int32} (hn : n < 2 ^ 31) (h : inX (nI n) a = true) : ∃ j, j < n ∧ a = nI j := by
  obtain ⟨h1, h2⟩ := inX_t.mp h
  obtain ⟨j, hj, rfl⟩ := nI_of (x := a) (fun q => by rw [i_lt] at q; rw [i_le] at h1; omega)
  refine ⟨j, ?_, rfl⟩
  rwa [nI_ltI hj hn] at h2
theorem inX_in {n : Nat} {a : Int32} {j : Nat} (hn : n < 2 ^ 31) (hj : j < n) : inX (nI n) (nI j) = true := inX_t.mpr ⟨by
  rw [← nI_0, nI_leI (by omega) (by omega)]; omega, by rw [nI_ltI (by omega) hn]; exact hj⟩
theorem p_isIndex {Q : Int32 → gM → Prop} {a n : Int32} {M : gM} (h : Q (bI (inX n a)) M) : wp_BF_isIndex Q a n M := by
  refine ⟨fun c => bI_0 h (inX_f fun q => ?_), fun c => ⟨fun c2 => bI_0 h (inX_f fun q => ?_), fun c2 => bI_1 h (inX_t.mpr ⟨?_, ?_⟩)⟩⟩
  · rw [i_lt] at c; have := (i_le _ _).mp q.1; omega
  · rw [i_le] at c2; have := (i_lt _ _).mp q.2; omega
  · rw [i_lt] at c; rw [i_le]; omega
  · rw [i_le] at c2; rw [i_lt]; omega
theorem p_areCells {Q : Int32 → gM → Prop} {a b c d : Int32} {M : gM} (h : Q (bI (areC a b c d)) M) : wp_BF_areCells Q a b c d M := by
  refine p_isWithin ⟨fun e => bI_0 h ?_, fun e => ?_⟩
  · unfold areC isC; rw [bI_z e]; rfl
  have e1 := bI_nz e
  refine p_isWithin ⟨fun e => bI_0 h ?_, fun e => ?_⟩
  · unfold areC isC; rw [bI_z e]; simp
  have e2 := bI_nz e
  refine p_isWithin ⟨fun e => bI_0 h ?_, fun e => ?_⟩
  · unfold areC isC; rw [bI_z e]; simp
  have e3 := bI_nz e
  refine p_isWithin ⟨fun e => bI_0 h ?_, fun e => bI_1 h ?_⟩
  · unfold areC isC; rw [bI_z e]; simp
  · unfold areC isC; rw [e1, e2, e3, bI_nz e]; rfl
theorem p_isNumber {Q : Int32 → gM → Prop} {a : Int32} {M : gM} (h : Q (bI (isC a)) M) : wp_MD_isNumber Q a M := by
  refine ⟨fun c => bI_0 h (inR_f fun q => ?_), fun c => ⟨fun c2 => bI_0 h (inR_f fun q => ?_), fun c2 => bI_1 h (inR_t.mpr ⟨?_, ?_⟩)⟩⟩
  · rw [i_lt] at c; have := (i_le _ _).mp q.1; omega
  · rw [i_le] at c2; have := (i_le _ _).mp q.2
    rw [show (32 : Int32).toInt = 32 from rfl] at c2; rw [show (31 : Int32).toInt = 31 from rfl] at this; omega
  · rw [i_lt] at c; rw [i_le]; omega
  · rw [i_le] at c2; rw [i_le]
    rw [show (32 : Int32).toInt = 32 from rfl] at c2; rw [show (31 : Int32).toInt = 31 from rfl]; omega
theorem p_areNumbers {Q : Int32 → gM → Prop} {a b c d : Int32} {M : gM} (h : Q (bI (areC a b c d)) M) : wp_MD_areNumbers Q a b c d M := by
  refine p_isNumber ⟨fun e => bI_0 h ?_, fun e => ?_⟩
  · unfold areC; rw [bI_z e]; rfl
  have e1 := bI_nz e
  refine p_isNumber ⟨fun e => bI_0 h ?_, fun e => ?_⟩
  · unfold areC; rw [bI_z e]; simp
  have e2 := bI_nz e
  refine p_isNumber ⟨fun e => bI_0 h ?_, fun e => ?_⟩
  · unfold areC; rw [bI_z e]; simp
  have e3 := bI_nz e
  refine p_isNumber ⟨fun e => bI_0 h ?_, fun e => bI_1 h ?_⟩
  · unfold areC; rw [bI_z e]; simp
  · unfold areC; rw [e1, e2, e3, bI_nz e]; rfl
/-- the number of a column, of four -/
def nb (c : Nat) (a0 a1 a2 a3 : Int32) : Int32 := if c = 0 then a0 else if c = 1 then a1 else if c = 2 then a2 else a3
theorem p_number {Q : Int32 → gM → Prop} {c : Nat} (hc : c < 4) {a0 a1 a2 a3 : Int32} {M : gM} (h : Q (nb c a0 a1 a2 a3) M) : wp_MD_number Q (nI c) a0 a1 a2 a3 M := by
  have hc : c = 0 ∨ c = 1 ∨ c = 2 ∨ c = 3 := by omega
  rcases hc with rfl | rfl | rfl | rfl
  · exact ⟨fun q => absurd rfl q, fun _ => h⟩
  · exact ⟨fun _ => ⟨fun q => absurd rfl q, fun _ => h⟩, fun q => absurd q (by decide)⟩
  · exact ⟨fun _ => ⟨fun _ => ⟨fun q => absurd rfl q, fun _ => h⟩, fun q => absurd q (by decide)⟩, fun q => absurd q (by decide)⟩
  · exact ⟨fun _ => ⟨fun _ => ⟨fun _ => h, fun q => absurd q (by decide)⟩, fun q => absurd q (by decide)⟩, fun q => absurd q (by decide)⟩
theorem wi_ne {M : gM} {k j a b : Nat} {v : Int32} (h : a ≠ k ∨ b ≠ j) : (wi M k j v).1 a b = M.1 a b := if_neg (fun q => h.elim (fun z => z q.1) (fun z => z q.2))
theorem wi_eq {M : gM} {k j : Nat} {v : Int32} : (wi M k j v).1 k j = v := if_pos ⟨rfl, rfl⟩
theorem wi_eq' {M : gM} {k j a b : Nat} {v : Int32} (h1 : a = k) (h2 : b = j) : (wi M k j v).1 a b = v := if_pos ⟨h1, h2⟩
theorem wi_22 {M : gM} {k j : Nat} {v : Int32} {a b : Nat} : (wi M k j v).2 a b = M.2 a b := rfl
theorem wl_11 {M : gM} {k j : Nat} {v : Int64} {a b : Nat} : (wl M k j v).1 a b = M.1 a b := rfl
theorem wl_ne {M : gM} {k j a b : Nat} {v : Int64} (h : a ≠ k ∨ b ≠ j) : (wl M k j v).2 a b = M.2 a b := if_neg (fun q => h.elim (fun z => z q.1) (fun z => z q.2))
theorem wl_eq {M : gM} {k j : Nat} {v : Int64} : (wl M k j v).2 k j = v := if_pos ⟨rfl, rfl⟩
theorem wc_22 {M : gM} {k0 k1 sp dp n a b : Nat} : (wc M k0 k1 sp dp n).2 a b = M.2 a b := rfl
theorem wc_ne {M : gM} {k0 k1 sp dp n a b : Nat} (h : a ≠ k1) : (wc M k0 k1 sp dp n).1 a b = M.1 a b := if_neg h
theorem wc_eq {M : gM} {k0 k1 n b : Nat} (h : b < n) : (wc M k0 k1 0 0 n).1 k1 b = M.1 k0 b := by
  show (if k1 = k1 then va_cpy (M.1 k0) (M.1 k1) 0 0 n b else _) = _
  rw [if_pos rfl]
  unfold va_cpy
  rw [if_pos ⟨Nat.zero_le _, by omega⟩]
  show M.1 k0 (0 + (b - 0)) = _
  rw [Nat.zero_add, Nat.sub_zero]
def rowS (M : gM) (i : Nat) : Prop := (∀ c, c < 4 → M.1 (3 + i) c = M.1 274 (4 * i + c) ∧ isC (M.1 (3 + i) c) = true) ∧ (M.1 43 i = M.1 275 i ∧ inR (-100) 100 (M.1 43 i) = true) ∧ (M.1 44 i = M.1 276 i ∧ inR 1 8 (M.1 44 i) = true) ∧ (M.1 45 i = M.1 277 i ∧ (M.1 45 i = 0 ∨ M.1 45 i = 1))
def simT (M : gM) (n : Nat) : Prop := n ≤ 40 ∧ M.1 1 4 = nI n ∧ M.1 273 0 = nI n ∧ ∀ i, i < n → rowS M i
def simS (M : gM) : Prop := ∀ k, k < 15 → M.1 46 k = M.1 278 k ∧ inR (c_LOWEST k) (c_HIGHEST k) (M.1 46 k) = true
theorem simT_fr {M M' : gM} {n : Nat} (h : simT M n) (e : ∀ k j, k < 46 ∨ (k = 273 ∧ j = 0) ∨ (274 ≤ k ∧ k < 278) → M'.1 k j = M.1 k j) : simT M' n := by
  obtain ⟨h0, h1, h2, h3⟩ := h
  refine ⟨h0, by rw [e _ _ (by omega)]; exact h1, by rw [e _ _ (by omega)]; exact h2, fun i hi => ?_⟩
  obtain ⟨g1, g2, g3, g4⟩ := h3 i hi
  unfold rowS
  rw [e 43 i (by omega), e 44 i (by omega), e 45 i (by omega), e 275 i (by omega), e 276 i (by omega), e 277 i (by omega)]
  refine ⟨fun c hc => ?_, g2, g3, g4⟩
  rw [e (3 + i) c (by omega), e 274 _ (by omega)]
  exact g1 c hc
theorem simS_fr {M M' : gM} (h : simS M) (e : ∀ k j, k = 46 ∨ k = 278 → M'.1 k j = M.1 k j) : simS M' := fun k hk => by
  rw [e 46 k (by omega), e 278 k (by omega)]
  exact h k hk

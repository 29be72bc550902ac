/-! ===== training: what is meant ===== -/
/-- rows and settings of a training: how many; a cell; by k: 0 aims, 1 weights, 2 held, 3 settings -/
abbrev tD : Type := Nat × (Nat → Nat → Int32) × (Nat → Nat → Int32)
def okD (D : tD) : Prop := D.1 ≤ 40 ∧ (∀ i, i < D.1 → (∀ c, c < 4 → isC (D.2.1 i c) = true) ∧ inR (-100) 100 (D.2.2 0 i) = true ∧ (∃ v, 1 ≤ v ∧ v ≤ 8 ∧ D.2.2 1 i = nI v) ∧ (D.2.2 2 i = 0 ∨ D.2.2 2 i = 1)) ∧ ∀ k, k < 15 → inR (c_LOWEST k) (c_HIGHEST k) (D.2.2 3 k) = true
def mdD (M : gM) (D : tD) : Prop := M.1 273 7 = nI D.1 ∧ (∀ i, i < D.1 → (∀ c, c < 4 → M.1 279 (4 * i + c) = D.2.1 i c) ∧ M.1 280 i = D.2.2 0 i ∧ M.1 281 i = D.2.2 1 i ∧ M.1 282 i = D.2.2 2 i) ∧ ∀ k, k < 15 → M.1 283 k = D.2.2 3 k
def wN (D : tD) (i : Nat) : Nat := (D.2.2 1 i).toNatClampNeg
theorem wN_ok {D : tD} (h : okD D) {i : Nat} (hi : i < D.1) : D.2.2 1 i = nI (wN D i) ∧ 1 ≤ wN D i ∧ wN D i ≤ 8 := by
  obtain ⟨v, h1, h2, e⟩ := (h.2.1 i hi).2.2.1
  have : wN D i = v := by unfold wN; rw [e, nI_clamp (by omega)]
  rw [this]
  exact ⟨e, h1, h2⟩
def slp (D : tD) (F : Nat → Int64) (i : Nat) : Int64 := (D.2.2 1 i).toInt64 * (F i - 256 * (D.2.2 0 i).toInt64)
/-- sums over the rows of a kind, the first i -/
def sG (D : tD) (F : Nat → Int64) (S : Nat → Bool) : Nat → Int64
  | 0 => 0
  | i + 1 => sG D F S i + (if S i = true then slp D F i else 0)
def sH (D : tD) (S : Nat → Bool) : Nat → Nat
  | 0 => 0
  | i + 1 => sH D S i + (if S i = true then wN D i else 0)
def sN (S : Nat → Bool) : Nat → Nat
  | 0 => 0
  | i + 1 => sN S i + (if S i = true then 1 else 0)
theorem sH_le {D : tD} (h : okD D) {S : Nat → Bool} : ∀ i, i ≤ D.1 → sH D S i ≤ 8 * i := by
  intro i
  induction i with
  | zero => exact fun _ => Nat.le_refl 0
  | succ i ih =>
    intro hi
    have := (wN_ok h (i := i) (by omega)).2.2
    have := ih (by omega)
    show sH D S i + _ ≤ _
    split <;> omega
theorem sN_le {S : Nat → Bool} : ∀ i, sN S i ≤ i := by
  intro i
  induction i with
  | zero => exact Nat.le_refl 0
  | succ i ih =>
    show sN S i + _ ≤ _
    split <;> omega
theorem sH_0 {D : tD} (h : okD D) {S : Nat → Bool} : ∀ i, i ≤ D.1 → sH D S i = 0 → sN S i = 0 := by
  intro i
  induction i with
  | zero => exact fun _ _ => rfl
  | succ i ih =>
    intro hi e
    have hw := (wN_ok h (i := i) (by omega)).2.1
    have e : sH D S i + (if S i = true then wN D i else 0) = 0 := e
    show sN S i + (if S i = true then 1 else 0) = 0
    by_cases q : S i = true
    · rw [if_pos q] at e; omega
    · rw [if_neg q] at e ⊢
      exact ih (by omega) (by omega)
theorem sums_congr {D : tD} {F F' : Nat → Int64} {S S' : Nat → Bool} {n : Nat} (e : ∀ i, i < n → S i = S' i) (f : ∀ i, i < n → F i = F' i) : sG D F S n = sG D F' S' n ∧ sH D S n = sH D S' n ∧ sN S n = sN S' n := by
  induction n with
  | zero => exact ⟨rfl, rfl, rfl⟩
  | succ n ih =>
    obtain ⟨h1, h2, h3⟩ := ih (fun i hi => e i (by omega)) (fun i hi => f i (by omega))
    refine ⟨?_, ?_, ?_⟩
    · show sG D F S n + _ = sG D F' S' n + _
      rw [h1, e n (by omega)]
      unfold slp
      rw [f n (by omega)]
    · show sH D S n + _ = sH D S' n + _
      rw [h2, e n (by omega)]
    · show sN S n + _ = sN S' n + _
      rw [h3, e n (by omega)]
/-- two kinds that have no row in common: sums over both together -/
theorem sums_or {D : tD} {F : Nat → Int64} {S A B : Nat → Bool} {n : Nat} (h : ∀ i, i < n → (S i = (A i || B i)) ∧ (A i = true → B i = false)) : sG D F S n = sG D F A n + sG D F B n ∧ sH D S n = sH D A n + sH D B n ∧ sN S n = sN A n + sN B n := by
  induction n with
  | zero => exact ⟨rfl, rfl, rfl⟩
  | succ n ih =>
    obtain ⟨h1, h2, h3⟩ := ih (fun i hi => h i (by omega))
    obtain ⟨e, x⟩ := h n (by omega)
    have c : (A n = true ∧ B n = false ∧ S n = true) ∨ (A n = false ∧ B n = true ∧ S n = true) ∨ (A n = false ∧ B n = false ∧ S n = false) := by
      cases ha : A n <;> cases hb : B n <;> rw [ha, hb] at e <;> simp_all
    refine ⟨?_, ?_, ?_⟩
    · show sG D F S n + _ = (sG D F A n + _) + (sG D F B n + _)
      rw [h1]
      rcases c with ⟨a, b, s⟩ | ⟨a, b, s⟩ | ⟨a, b, s⟩ <;> rw [a, b, s]
      · rw [if_pos rfl, if_neg (by decide), Int64.add_zero, Int64.add_assoc, Int64.add_comm (sG D F B n), ← Int64.add_assoc]
      · rw [if_pos rfl, if_neg (by decide), Int64.add_zero, Int64.add_assoc]
      · rw [if_neg (by decide), Int64.add_zero, Int64.add_zero, Int64.add_zero]
    · show sH D S n + _ = (sH D A n + _) + (sH D B n + _)
      rw [h2]
      rcases c with ⟨a, b, s⟩ | ⟨a, b, s⟩ | ⟨a, b, s⟩ <;> rw [a, b, s] <;> simp <;> omega
    · show sN S n + _ = (sN A n + _) + (sN B n + _)
      rw [h3]
      rcases c with ⟨a, b, s⟩ | ⟨a, b, s⟩ | ⟨a, b, s⟩ <;> rw [a, b, s] <;> simp <;> omega
def worJ (g : Int64) (h ad : Int32) : Int64 := if h = 0 then 0 else (g * g) / ((h + ad).toInt64)
/-- rows of node k; those of them that go to one side -/
def inN (nd : Nat → Int32) (k : Nat) (i : Nat) : Bool := decide (nd i = nI k)
def inL (D : tD) (nd : Nat → Int32) (k c : Nat) (cut side : Int32) (lb : Bool) (i : Nat) : Bool := inN nd k i && (goesL (D.2.1 i c) cut side == lb)
/-- the difference of worths of a split, -1 if it may not be -/
def dif (D : tD) (F : Nat → Int64) (nd : Nat → Int32) (T : gM) (k c : Nat) (cut side : Int32) : Int64 :=
  let n := D.1
  let L := inL D nd k c cut side true
  let R := inL D nd k c cut side false
  let ad := D.2.2 3 2
  if nI (sN L n) < D.2.2 3 1 ∨ nI (sN R n) < D.2.2 3 1 then -1
  else if (D.2.2 3 (11 + c) = 1 ∧ valJ (sG D F R n) (nI (sH D R n)) ad < valJ (sG D F L n) (nI (sH D L n)) ad) ∨ (D.2.2 3 (11 + c) = -1 ∧ valJ (sG D F L n) (nI (sH D L n)) ad < valJ (sG D F R n) (nI (sH D R n)) ad) then -1
  else (worJ (sG D F L n) (nI (sH D L n)) ad + worJ (sG D F R n) (nI (sH D R n)) ad) - worJ (T.2 0 k) (T.1 5 k) ad
/-- a best split: difference, column, cut, side -/
abbrev gS4 : Type := Int64 × Int32 × Int32 × Int32
def imp (d : Int64) (c cut side : Int32) (B : gS4) : gS4 := if d ≤ B.1 then B else (d, c, cut, side)
def hasV (D : tD) (nd : Nat → Int32) (k c : Nat) (v : Int32) : Nat → Bool
  | 0 => false
  | i + 1 => hasV D nd k c v i || (inN nd k i && decide (D.2.1 i c = v))
def hasA (D : tD) (nd : Nat → Int32) (k c : Nat) (v : Int32) : Nat → Bool
  | 0 => false
  | i + 1 => hasA D nd k c v i || (inN nd k i && decide (¬ D.2.1 i c ≤ v))
def isK (D : tD) (nd : Nat → Int32) (k c : Nat) (v : Int32) : Bool := hasV D nd k c v D.1 && hasA D nd k c v D.1
def sdL (D : tD) (F : Nat → Int64) (nd : Nat → Int32) (T : gM) (k c cut : Nat) (B : gS4) : gS4 := if isK D nd k c (nI cut) = true then imp (dif D F nd T k c (nI cut) 1) (nI c) (nI cut) 1 (imp (dif D F nd T k c (nI cut) 0) (nI c) (nI cut) 0 B) else B
def ctL (D : tD) (F : Nat → Int64) (nd : Nat → Int32) (T : gM) (k c : Nat) (B : gS4) : Nat → gS4
  | 0 => B
  | q + 1 => sdL D F nd T k c q (ctL D F nd T k c B q)
def drw (seed a : Int32) : Int32 := ushr ((((((seed) + ((1000003 : Int32) * a)) ^^^ (ushr ((seed) + ((1000003 : Int32) * a)) (15 : Int32))) * (739982445 : Int32)) ^^^ (ushr ((((seed) + ((1000003 : Int32) * a)) ^^^ (ushr ((seed) + ((1000003 : Int32) * a)) (15 : Int32))) * (739982445 : Int32)) (12 : Int32))) * (695872825 : Int32)) (24 : Int32)
def clL (D : tD) (F : Nat → Int64) (nd : Nat → Int32) (T : gM) (r k : Nat) (B : gS4) : Nat → gS4
  | 0 => B
  | c + 1 => if D.2.2 3 7 ≤ drw (D.2.2 3 10) (((100000 : Int32) + ((4 : Int32) * nI r)) + nI c) then clL D F nd T r k B c else ctL D F nd T k c (clL D F nd T r k B c) 32
def best (D : tD) (F : Nat → Int64) (nd : Nat → Int32) (T : gM) (r k : Nat) : gS4 := clL D F nd T r k ((D.2.2 3 5).toInt64, -1, -1, -1) 4
/-- a node laid: its sums, no split yet -/
def layN (D : tD) (F : Nat → Int64) (nd : Nat → Int32) (T : gM) (k : Nat) (dp : Int32) : gM := (fun j i => if i = k then (if j = 4 then nI (sN (inN nd k) D.1) else if j = 5 then nI (sH D (inN nd k) D.1) else if j = 6 then dp else -1) else T.1 j i, fun j i => if i = k then (if j = 0 then sG D F (inN nd k) D.1 else 0) else T.2 j i)
/-- a node with its split -/
def putB (T : gM) (k : Nat) (B : gS4) (left : Int32) : gM := (fun j i => if i = k then (if j = 0 then B.2.1 else if j = 1 then B.2.2.1 else if j = 2 then B.2.2.2 else if j = 3 then left else T.1 j i) else T.1 j i, fun j i => if i = k ∧ j = 1 then B.1 else T.2 j i)
/-- the state of a tree that grows: how many nodes, the nodes, each row's node -/
abbrev gT3 : Type := Nat × gM × (Nat → Int32)
def mvN (D : tD) (nd : Nat → Int32) (k l : Nat) (B : gS4) : Nat → Int32 := fun i => if nd i = nI k then (if goesL (D.2.1 i B.2.1.toNatClampNeg) B.2.2.1 B.2.2.2 = true then nI l else nI (l + 1)) else nd i
def splT (D : tD) (F : Nat → Int64) (k : Nat) (X : gT3) (B : gS4) : gT3 := (X.1 + 2, layN D F (mvN D X.2.2 k X.1 B) (layN D F (mvN D X.2.2 k X.1 B) (putB X.2.1 k B (nI X.1)) X.1 (X.2.1.1 6 k + 1)) (X.1 + 1) (X.2.1.1 6 k + 1), mvN D X.2.2 k X.1 B)
def stpT (D : tD) (F : Nat → Int64) (r k : Nat) (X : gT3) : gT3 := if X.2.1.1 6 k = D.2.2 3 0 then X else if (best D F X.2.2 X.2.1 r k).2.1 < 0 then X else splT D F k X (best D F X.2.2 X.2.1 r k)
theorem stpT_a {D : tD} {F : Nat → Int64} {r k : Nat} {X : gT3} (h : X.2.1.1 6 k = D.2.2 3 0) : stpT D F r k X = X := if_pos h
theorem stpT_b {D : tD} {F : Nat → Int64} {r k : Nat} {X : gT3} (h : (best D F X.2.2 X.2.1 r k).2.1 < 0) : stpT D F r k X = X := by
  unfold stpT
  rw [if_pos h]
  exact ite_self _
theorem stpT_c {D : tD} {F : Nat → Int64} {r k : Nat} {X : gT3} (h : ¬ X.2.1.1 6 k = D.2.2 3 0) (h2 : ¬ (best D F X.2.2 X.2.1 r k).2.1 < 0) : stpT D F r k X = splT D F k X (best D F X.2.2 X.2.1 r k) := (if_neg h).trans (if_neg h2)
def growT (D : tD) (F : Nat → Int64) (r : Nat) (X : gT3) : Nat → gT3
  | 0 => X
  | k + 1 => if k < (growT D F r X k).1 then stpT D F r k (growT D F r X k) else growT D F r X k
def prt (D : tD) (r i : Nat) : Bool := decide (D.2.2 2 i = 0) && decide (¬ D.2.2 3 6 ≤ drw (D.2.2 3 10) (((64 : Int32) * nI r) + nI i))
def nd0 (D : tD) (r : Nat) : Nat → Int32 := fun i => if prt D r i = true then 0 else -1

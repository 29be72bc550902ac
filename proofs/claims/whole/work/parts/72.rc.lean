theorem sm_add {f g : Nat → tri} : ∀ n, sm (fun i => tA (f i) (g i)) n = tA (sm f n) (sm g n) := by
  intro n
  induction n with
  | zero => rfl
  | succ n ih =>
    show tA (sm (fun i => tA (f i) (g i)) n) (tA (f n) (g n)) = tA (tA (sm f n) (f n)) (tA (sm g n) (g n))
    rw [ih]
    unfold tA
    refine Prod.ext ?_ (Prod.ext ?_ ?_)
    · show (sm f n).1 + (sm g n).1 + ((f n).1 + (g n).1) = (sm f n).1 + (f n).1 + ((sm g n).1 + (g n).1)
      rw [Int64.add_assoc, Int64.add_assoc, ← Int64.add_assoc (sm g n).1, ← Int64.add_assoc (f n).1, Int64.add_comm (sm g n).1]
    · show (sm f n).2.1 + (sm g n).2.1 + ((f n).2.1 + (g n).2.1) = (sm f n).2.1 + (f n).2.1 + ((sm g n).2.1 + (g n).2.1)
      omega
    · show (sm f n).2.2 + (sm g n).2.2 + ((f n).2.2 + (g n).2.2) = (sm f n).2.2 + (f n).2.2 + ((sm g n).2.2 + (g n).2.2)
      omega
theorem sm_c0 {f : Nat → tri} : ∀ n, (∀ q, q < n → f q = (0, 0, 0)) → sm f n = (0, 0, 0) := fun n e => by
  have := sm_stay (f := f) (p := 0) n (fun q _ b => e q (by omega))
  rw [Nat.zero_add] at this
  exact this
theorem ordO_surj {D : tD} {c n : Nat} {o : Nat → Nat} (h : ordO D c n o) {i : Nat} (hi : i < n) : ∃ q, q < n ∧ o q = i := by
  refine Classical.byContradiction fun no => ?_
  have e := h.2.1 (fun j => if j = i then (0, 0, 1) else (0, 0, 0))
  rw [sm_c0 n (fun q hq => if_neg (fun z => no ⟨q, hq, z⟩))] at e
  have pos : ∀ m, i < m → 1 ≤ (sm (fun j => if j = i then ((0, 0, 1) : tri) else (0, 0, 0)) m).2.2 := by
    intro m
    induction m with
    | zero => exact fun z => absurd z (by omega)
    | succ m ih =>
      intro hm
      show 1 ≤ (sm (fun j => if j = i then ((0, 0, 1) : tri) else (0, 0, 0)) m).2.2 + (if m = i then ((0, 0, 1) : tri) else (0, 0, 0)).2.2
      by_cases q : m = i
      · rw [if_pos q]
        show 1 ≤ _ + 1
        omega
      · have := ih (by omega)
        omega
  have := pos n hi
  rw [← e] at this
  exact absurd this (by show ¬ 1 ≤ 0; omega)
theorem hasV_iff {D : tD} {nd : Nat → Int32} {k c : Nat} {v : Int32} : ∀ n, hasV D nd k c v n = true ↔ ∃ i, i < n ∧ inN nd k i = true ∧ D.2.1 i c = v := by
  intro n
  induction n with
  | zero => exact ⟨fun h => (by cases h), fun ⟨i, h, _⟩ => absurd h (by omega)⟩
  | succ n ih =>
    show (hasV D nd k c v n || (inN nd k n && decide (D.2.1 n c = v))) = true ↔ _
    rw [Bool.or_eq_true, Bool.and_eq_true, ih, decide_eq_true_iff]
    constructor
    · rintro (⟨i, h1, h2⟩ | h)
      · exact ⟨i, by omega, h2⟩
      · exact ⟨n, by omega, h⟩
    · rintro ⟨i, h1, h2⟩
      by_cases e : i = n
      · subst e; exact Or.inr h2
      · exact Or.inl ⟨i, by omega, h2⟩
theorem hasA_iff {D : tD} {nd : Nat → Int32} {k c : Nat} {v : Int32} : ∀ n, hasA D nd k c v n = true ↔ ∃ i, i < n ∧ inN nd k i = true ∧ ¬ D.2.1 i c ≤ v := by
  intro n
  induction n with
  | zero => exact ⟨fun h => (by cases h), fun ⟨i, h, _⟩ => absurd h (by omega)⟩
  | succ n ih =>
    show (hasA D nd k c v n || (inN nd k n && decide (¬ D.2.1 n c ≤ v))) = true ↔ _
    rw [Bool.or_eq_true, Bool.and_eq_true, ih, decide_eq_true_iff]
    constructor
    · rintro (⟨i, h1, h2⟩ | h)
      · exact ⟨i, by omega, h2⟩
      · exact ⟨n, by omega, h⟩
    · rintro ⟨i, h1, h2⟩
      by_cases e : i = n
      · subst e; exact Or.inr h2
      · exact Or.inl ⟨i, by omega, h2⟩
theorem isC_nat {v : Int32} (h : isC v = true) : v = -1 ∨ ∃ w, w < 32 ∧ v = nI w := by
  obtain ⟨g1, g2⟩ := inR_t.mp h
  rw [i_le, show (-1 : Int32).toInt = -1 from rfl] at g1
  rw [i_le, show (31 : Int32).toInt = 31 from rfl] at g2
  by_cases e : v.toInt = -1
  · exact Or.inl (Int32.toInt_inj.mp (e.trans rfl))
  · right
    obtain ⟨w, hw, rfl⟩ := nI_of (x := v) (fun q => by rw [i_lt, show (0 : Int32).toInt = 0 from rfl] at q; omega)
    rw [nI_toInt hw] at g2
    exact ⟨w, by omega, rfl⟩
theorem imp_ge {d : Int64} {c cut side : Int32} {B : gS4} : B.1 ≤ (imp d c cut side B).1 ∧ d ≤ (imp d c cut side B).1 := by
  by_cases e : d ≤ B.1
  · rw [imp_t e]; exact ⟨by rw [l_le]; omega, e⟩
  · rw [imp_f e]
    refine ⟨?_, by show d ≤ d; rw [l_le]; omega⟩
    show B.1 ≤ d
    rw [l_le] at e ⊢
    omega
theorem l_tr {a b c : Int64} (h : a ≤ b) (g : b ≤ c) : a ≤ c := by rw [l_le] at *; omega
theorem ctL_ge {D : tD} {F : Nat → Int64} {nd : Nat → Int32} {T : gM} {k c : Nat} {B : gS4} : ∀ q, B.1 ≤ (ctL D F nd T k c B q).1 := by
  intro q
  induction q with
  | zero => show B.1 ≤ B.1; rw [l_le]; omega
  | succ q ih =>
    show B.1 ≤ (sdL D F nd T k c q (ctL D F nd T k c B q)).1
    unfold sdL
    split
    · exact l_tr ih (l_tr imp_ge.1 imp_ge.1)
    · exact ih
theorem ctL_gap {D : tD} {F : Nat → Int64} {nd : Nat → Int32} {T : gM} {k c : Nat} {B : gS4} {a : Nat} : ∀ d, (∀ u, a ≤ u → u < a + d → isK D nd k c (nI u) = false) → ctL D F nd T k c B (a + d) = ctL D F nd T k c B a := by
  intro d
  induction d with
  | zero => exact fun _ => rfl
  | succ d ih =>
    intro e
    show sdL D F nd T k c (a + d) (ctL D F nd T k c B (a + d)) = _
    unfold sdL
    rw [if_neg (by rw [e (a + d) (by omega) (by omega)]; decide)]
    exact ih (fun u x y => e u x (by omega))
/-- rows of node k whose cell of column c is missing, or is not -/
def misS (D : tD) (nd : Nat → Int32) (k c i : Nat) : Bool := inN nd k i && decide (D.2.1 i c = -1)
def nmsS (D : tD) (nd : Nat → Int32) (k c i : Nat) : Bool := inN nd k i && decide (¬ D.2.1 i c = -1)
theorem dif_same {D : tD} {F : Nat → Int64} {nd : Nat → Int32} {T : gM} {k c : Nat} {cut : Int32} (hk : okD D) (hc : c < 4) (h : ∀ i, i < D.1 → misS D nd k c i = false) : dif D F nd T k c cut 1 = dif D F nd T k c cut 0 := by
  have e : ∀ lb i, i < D.1 → inL D nd k c cut 1 lb i = inL D nd k c cut 0 lb i := by
    intro lb i hi
    have hm := h i hi
    unfold inL
    cases hn : inN nd k i
    · rfl
    · unfold misS at hm
      rw [hn, Bool.true_and] at hm
      have hm := of_decide_eq_false hm
      have h0 : 0 ≤ D.2.1 i c := (isC_cases ((hk.2.1 i hi).1 c hc)).elim (fun z => absurd z hm) id
      unfold goesL
      rw [if_pos h0, if_pos h0]
  obtain ⟨a1, a2, a3⟩ := sums_congr (D := D) (F := F) (F' := F) (n := D.1) (e true) (fun _ _ => rfl)
  obtain ⟨b1, b2, b3⟩ := sums_congr (D := D) (F := F) (F' := F) (n := D.1) (e false) (fun _ _ => rfl)
  show (if _ then _ else if _ then _ else _) = (if _ then _ else if _ then _ else _)
  rw [a1, a2, a3, b1, b2, b3]
/-- the program while a tree grows: rows, order, slopes, each row's node -/
def cX (M : gM) (D : tD) (F : Nat → Int64) (nd : Nat → Int32) : Prop := cdD M D ∧ (∀ c, c < 4 → ordM M D c D.1) ∧ (∀ i, i < D.1 → M.1 100 i = nd i) ∧ (∀ i, i < D.1 → M.2 101 i = slp D F i) ∧ atS M 107 (0, 0, 0)
theorem cX_fr {M M' : gM} {D : tD} {F : Nat → Int64} {nd : Nat → Int32} (n40 : D.1 ≤ 40) (h : cX M D F nd) (e1 : ∀ k j, (k = 49 ∧ j = 4) ∨ (51 ≤ k ∧ k ≤ 100) ∨ k = 107 → M'.1 k j = M.1 k j) (e2 : ∀ k j, k = 101 ∨ k = 107 → M'.2 k j = M.2 k j) : cX M' D F nd := by
  obtain ⟨h1, h2, h3, h4, h5⟩ := h
  exact ⟨cdD_fr n40 h1 (fun k j q => e1 k j (by omega)), fun c hc => ordM_fr (h2 c hc) (fun q _ => e1 _ _ (by omega)), fun i hi => (e1 _ _ (by omega)).trans (h3 i hi), fun i hi => (e2 _ _ (by omega)).trans (h4 i hi), (e1 _ _ (by omega)).trans h5.1, (e1 _ _ (by omega)).trans h5.2.1, (e2 _ _ (by omega)).trans h5.2.2⟩
def frL (M M' : gM) : Prop := (∀ k j, ¬ (103 ≤ k ∧ k ≤ 106) → k ≠ 108 → M'.1 k j = M.1 k j) ∧ ∀ k j, ¬ (103 ≤ k ∧ k ≤ 106) → k ≠ 108 → M'.2 k j = M.2 k j
theorem frL_tr {M M' M'' : gM} (h1 : frL M M') (h2 : frL M' M'') : frL M M'' := ⟨fun k j a b => (h2.1 k j a b).trans (h1.1 k j a b), fun k j a b => (h2.2 k j a b).trans (h1.2 k j a b)⟩
theorem frL_cX {M M' : gM} {D : tD} {F : Nat → Int64} {nd : Nat → Int32} (n40 : D.1 ≤ 40) (f : frL M M') (h : cX M D F nd) : cX M' D F nd := cX_fr n40 h (fun k j q => f.1 k j (by omega) (by omega)) (fun k j q => f.2 k j (by omega) (by omega))
theorem frB_frL {b : Nat} {M M' : gM} (h : (103 ≤ b ∧ b ≤ 106) ∨ b = 108) (f : frB b M M') : frL M M' := ⟨fun k j a c => f.1 k j (by omega), fun k j a c => f.2 k j (by omega)⟩
theorem frP_frL {M M' : gM} (f : frP M M') : frL M M' := ⟨fun k j a c => f.1 k j (by omega) (by omega) c, fun k j a c => f.2 k j (by omega) (by omega) c⟩
theorem q_take {Q : gM → Prop} {k19 : Int32 → Int32 → Int32 → Int32 → gM → Prop} {M : gM} {D : tD} {F : Nat → Int64} {nd : Nat → Int32} {k c p : Nat} {o : Nat → Nat} {x1 x2 : Int32} (hk : okD D) (hX : cX M D F nd) (hp : p < D.1) (ho : o p < D.1) (hn : inN nd k (o p) = true) (h3 : atS M 103 (sm (fun q => rw1 D F (misS D nd k c) (o q)) p)) (h4 : atS M 104 (sm (fun q => rw1 D F (nmsS D nd k c) (o q)) p))
    (hq : ∀ M', frL M M' → atS M' 103 (sm (fun q => rw1 D F (misS D nd k c) (o q)) (p + 1)) → atS M' 104 (sm (fun q => rw1 D F (nmsS D nd k c) (o q)) (p + 1)) → (∀ B, atP M B → atP M' B) → k19 x1 x2 (D.2.1 (o p) c) (nI (p + 1)) M') : wp_GR_tryColumn_102 Q k19 x1 x2 (nI p) (nI (o p)) (D.2.1 (o p) c) M := by
  have n40 := hk.1
  obtain ⟨ew, -, -⟩ := wN_ok hk ho
  have e1 : M.1 92 (o p) = nI (wN D (o p)) := ((hX.1.2.1 _ ho).2.2.1).trans ew
  have e2 : M.2 101 (o p) = slp D F (o p) := hX.2.2.2.1 _ ho
  have pP : ∀ {b : Nat} {M' : gM}, b ≠ 108 → frB b M M' → ∀ B, atP M B → atP M' B := fun n f B h => ⟨(f.1 _ _ (Ne.symm n)).trans h.1, (f.1 _ _ (Ne.symm n)).trans h.2.1, (f.1 _ _ (Ne.symm n)).trans h.2.2.1, (f.2 _ _ (Ne.symm n)).trans h.2.2.2⟩
  refine ⟨fun q => ⟨vp_in_nI (by omega) (by omega), ?_⟩, fun q => ⟨vp_in_nI (by omega) (by omega), ?_⟩⟩
  · rw [nI_clamp (by omega), e1, e2]
    refine p_sAdd h4 (fun M' f g => ?_)
    show k19 x1 x2 _ (nI p + 1) M'
    rw [nI_1]
    have z1 : misS D nd k c (o p) = false := by unfold misS; rw [decide_eq_false q, Bool.and_false]
    have z2 : nmsS D nd k c (o p) = true := by unfold nmsS; rw [decide_eq_true q, hn]; rfl
    refine hq M' (frB_frL (by omega) f) ?_ ?_ (pP (by omega) f)
    · show atS M' 103 (tA (sm (fun q => rw1 D F (misS D nd k c) (o q)) p) (rw1 D F (misS D nd k c) (o p)))
      rw [rw1_f z1, tA_0]
      exact atS_fr f h3 (by omega)
    · show atS M' 104 (tA (sm (fun q => rw1 D F (nmsS D nd k c) (o q)) p) (rw1 D F (nmsS D nd k c) (o p)))
      rw [rw1_t z2]
      exact g
  · rw [nI_clamp (by omega), e1, e2]
    refine p_sAdd h3 (fun M' f g => ?_)
    show k19 x1 x2 _ (nI p + 1) M'
    rw [nI_1]
    have z1 : misS D nd k c (o p) = true := by unfold misS; rw [decide_eq_true q, hn]; rfl
    have z2 : nmsS D nd k c (o p) = false := by unfold nmsS; rw [decide_eq_false (fun z => z q), Bool.and_false]
    refine hq M' (frB_frL (by omega) f) ?_ ?_ (pP (by omega) f)
    · show atS M' 103 (tA (sm (fun q => rw1 D F (misS D nd k c) (o q)) p) (rw1 D F (misS D nd k c) (o p)))
      rw [rw1_t z1]
      exact g
    · show atS M' 104 (tA (sm (fun q => rw1 D F (nmsS D nd k c) (o q)) p) (rw1 D F (nmsS D nd k c) (o p)))
      rw [rw1_f z2, tA_0]
      exact atS_fr f h4 (by omega)
/-- where the last number seen is v (none: -1), the cuts below it are tried -/
def tcI (D : tD) (F : Nat → Int64) (nd : Nat → Int32) (T : gM) (k c : Nat) (o : Nat → Nat) (B : gS4) (M0 : gM) (p : Nat) (x3 : Int32) (M : gM) : Prop := frL M0 M ∧ atS M 103 (sm (fun q => rw1 D F (misS D nd k c) (o q)) p) ∧ atS M 104 (sm (fun q => rw1 D F (nmsS D nd k c) (o q)) p) ∧ (∀ q, q < p → inN nd k (o q) = true → D.2.1 (o q) c ≤ x3) ∧ ((x3 = -1 ∧ atP M B) ∨ ∃ v, v < 32 ∧ x3 = nI v ∧ atP M (ctL D F nd T k c B v) ∧ ∃ q, q < p ∧ inN nd k (o q) = true ∧ D.2.1 (o q) c = x3)
/-- both sides of a cut, tried -/
theorem q_bothSides {Q : gM → Prop} {M : gM} {D : tD} {F : Nat → Int64} {nd : Nat → Int32} {T : gM} {k c p v : Nat} {o : Nat → Nat} {B : gS4} (hk : okD D) (hX : cX M D F nd) (hc : c < 4) (hT : T.2 0 k = sG D F (inN nd k) D.1 ∧ T.1 5 k = nI (sH D (inN nd k) D.1)) (ho : ordO D c D.1 o) (hp : p < D.1) (hv : v < 32) (hw : atS M 102 (sT D F (inN nd k))) (h3 : atS M 103 (sm (fun q => rw1 D F (misS D nd k c) (o q)) p)) (h4 : atS M 104 (sm (fun q => rw1 D F (nmsS D nd k c) (o q)) p)) (hP : atP M B) (hB : (0 : Int64) ≤ B.1) (le : ∀ q, q < p → inN nd k (o q) = true → D.2.1 (o q) c ≤ nI v) (gt : ¬ D.2.1 (o p) c ≤ nI v) (hK : isK D nd k c (nI v) = true)
    (hq : ∀ M', frP M M' → atP M' (sdL D F nd T k c v B) → Q M') : wp_GR_trySplit (fun M9 => ((M9.1 103 0) ≤ 0 → Q M9) ∧ (¬ (M9.1 103 0) ≤ 0 → wp_GR_trySplit Q (nI c) (nI v) 1 M9)) (nI c) (nI v) 0 M := by
  have n40 := hk.1
  have later : ∀ q, p ≤ q → q < D.1 → ¬ D.2.1 (o q) c ≤ nI v := by
    intro q a b z
    by_cases e : q = p
    · rw [e] at z; exact gt z
    · have := ho.2.2 p q (by omega) b
      rw [i_le] at z this gt
      omega
  have gl : ∀ q, p ≤ q → q < D.1 → ∀ sd, goesL (D.2.1 (o q) c) (nI v) sd = false := by
    intro q a b sd
    have z := later q a b
    have g0 : 0 ≤ D.2.1 (o q) c := by
      rw [i_le, nI_toInt (by omega)] at z
      rw [i_le, show (0 : Int32).toInt = 0 from rfl]
      omega
    unfold goesL
    rw [if_pos g0]
    refine decide_eq_false (fun w => w ?_)
    rw [i_lt]; rw [i_le] at z; omega
  have full : ∀ S : Nat → Bool, (∀ q, p ≤ q → q < D.1 → S (o q) = false) → sT D F S = sm (fun q => rw1 D F S (o q)) p := by
    intro S hS
    have e := ho.2.1 (rw1 D F S)
    rw [sm_rw1] at e
    obtain ⟨d, hd⟩ : ∃ d, D.1 = p + d := ⟨D.1 - p, by omega⟩
    have e2 := sm_stay (f := fun q => rw1 D F S (o q)) (p := p) d (fun q a b => rw1_f (hS q a (by omega)))
    rw [← hd] at e2
    exact e.symm.trans e2
  have cell : ∀ q, q < p → inN nd k (o q) = true → (D.2.1 (o q) c = -1 ∧ ¬ (0 : Int32) ≤ D.2.1 (o q) c) ∨ (¬ D.2.1 (o q) c = -1 ∧ 0 ≤ D.2.1 (o q) c ∧ ¬ nI v < D.2.1 (o q) c) := by
    intro q a b
    have l := le q a b
    rcases isC_cases ((hk.2.1 (o q) (ho.1 q (by omega))).1 c hc) with e | e
    · exact Or.inl ⟨e, by rw [e]; decide⟩
    · refine Or.inr ⟨fun z => by rw [z] at e; exact absurd e (by decide), e, fun z => ?_⟩
      rw [i_le] at l; rw [i_lt] at z; omega
  have s0 : tA (sm (fun q => rw1 D F (nmsS D nd k c) (o q)) p) (sm (fun q => rw1 D F (misS D nd k c) (o q)) p) = sT D F (inL D nd k c (nI v) 0 true) := by
    rw [full _ (fun q a b => by unfold inL; rw [gl q a b]; exact Bool.and_false _), ← sm_add]
    refine sm_congr p (fun q hq2 => ?_)
    show tA (rw1 D F (nmsS D nd k c) (o q)) (rw1 D F (misS D nd k c) (o q)) = rw1 D F (inL D nd k c (nI v) 0 true) (o q)
    unfold rw1 nmsS misS inL
    cases hn : inN nd k (o q)
    · rfl
    · rcases cell q hq2 hn with ⟨a, b⟩ | ⟨a, b, e⟩
      · have g : goesL (D.2.1 (o q) c) (nI v) 0 = true := by unfold goesL; rw [if_neg b]; rfl
        rw [g, decide_eq_true a, decide_eq_false (fun z => z a)]
        refine Prod.ext (Int64.zero_add _) (Prod.ext (Nat.zero_add _) (Nat.zero_add _))
      · have g : goesL (D.2.1 (o q) c) (nI v) 0 = true := by unfold goesL; rw [if_pos b]; exact decide_eq_true e
        rw [g, decide_eq_true a, decide_eq_false a]
        exact tA_0 _
  have s1 : tA (sm (fun q => rw1 D F (nmsS D nd k c) (o q)) p) (0, 0, 0) = sT D F (inL D nd k c (nI v) 1 true) := by
    rw [full _ (fun q a b => by unfold inL; rw [gl q a b]; exact Bool.and_false _), tA_0]
    refine sm_congr p (fun q hq2 => ?_)
    show rw1 D F (nmsS D nd k c) (o q) = rw1 D F (inL D nd k c (nI v) 1 true) (o q)
    unfold rw1 nmsS inL
    cases hn : inN nd k (o q)
    · rfl
    · rcases cell q hq2 hn with ⟨a, b⟩ | ⟨a, b, e⟩
      · have g : goesL (D.2.1 (o q) c) (nI v) 1 = false := by unfold goesL; rw [if_neg b]; rfl
        rw [g, decide_eq_false (fun z => z a)]
        rfl
      · have g : goesL (D.2.1 (o q) c) (nI v) 1 = true := by unfold goesL; rw [if_pos b]; exact decide_eq_true e
        rw [g, decide_eq_true a]
        rfl
  have eS : sdL D F nd T k c v B = imp (dif D F nd T k c (nI v) 1) (nI c) (nI v) 1 (imp (dif D F nd T k c (nI v) 0) (nI c) (nI v) 0 B) := if_pos hK
  rw [eS] at hq
  refine ⟨fun z => absurd rfl z, fun _ => q_try23 hk hX.1 hc hT (Or.inl rfl) hw h4 h3 s0 hP hB (fun M9 f9 p9 => ?_)⟩
  have a3 : atS M9 103 (sm (fun q => rw1 D F (misS D nd k c) (o q)) p) := ⟨(f9.1 _ _ (by omega) (by omega) (by omega)).trans h3.1, (f9.1 _ _ (by omega) (by omega) (by omega)).trans h3.2.1, (f9.2 _ _ (by omega) (by omega) (by omega)).trans h3.2.2⟩
  have fm := full (misS D nd k c) (fun q a b => by
    unfold misS
    rw [decide_eq_false (fun z => later q a b (by rw [z, i_le, nI_toInt (by omega), show (-1 : Int32).toInt = -1 from rfl]; omega)), Bool.and_false])
  rw [← fm] at a3
  have c40 := (sT_ok (F := F) (S := misS D nd k c) hk).1
  refine ⟨fun z => hq M9 f9 ?_, fun z => ?_⟩
  · rw [a3.1, show (0 : Int32) = nI 0 from rfl, nI_leI (by omega) (by omega)] at z
    have z0 : sN (misS D nd k c) D.1 = 0 := by
      have : sN (misS D nd k c) D.1 ≤ 0 := z
      omega
    have nm : ∀ i, i < D.1 → misS D nd k c i = false := by
      have : ∀ m, sN (misS D nd k c) m = 0 → ∀ i, i < m → misS D nd k c i = false := by
        intro m
        induction m with
        | zero => exact fun _ i hi => absurd hi (by omega)
        | succ m ih =>
          intro e i hi
          cases h : misS D nd k c m
          · rw [sN_f h] at e
            by_cases e2 : i = m
            · rw [e2]; exact h
            · exact ih e i (by omega)
          · rw [sN_t h] at e; omega
      exact this D.1 z0
    rw [dif_same hk hc nm, imp_t imp_ge.2]
    exact p9
  · have X9 : cX M9 D F nd := frL_cX n40 (frP_frL f9) hX
    have b9 : (0 : Int64) ≤ (imp (dif D F nd T k c (nI v) 0) (nI c) (nI v) 0 B).1 := l_tr hB imp_ge.1
    refine ⟨fun _ => q_try23 hk X9.1 hc hT (Or.inr rfl) ⟨(f9.1 _ _ (by omega) (by omega) (by omega)).trans hw.1, (f9.1 _ _ (by omega) (by omega) (by omega)).trans hw.2.1, (f9.2 _ _ (by omega) (by omega) (by omega)).trans hw.2.2⟩ ⟨(f9.1 _ _ (by omega) (by omega) (by omega)).trans h4.1, (f9.1 _ _ (by omega) (by omega) (by omega)).trans h4.2.1, (f9.2 _ _ (by omega) (by omega) (by omega)).trans h4.2.2⟩ X9.2.2.2.2 s1 p9 b9 (fun M' f' p' => hq M' ⟨fun i j a b c => (f'.1 i j a b c).trans (f9.1 i j a b c), fun i j a b c => (f'.2 i j a b c).trans (f9.2 i j a b c)⟩ p'), fun z => absurd z (by decide)⟩

/-! ===== telling ===== -/
theorem xor_nn (a b : Int64) (hb : 0 ≤ b.toInt) : ((0 : Int64) ≤ (a ^^^ b)) ↔ 0 ≤ a.toInt := by
  rw [Int64.le_iff_toInt_le, show (0 : Int64).toInt = 0 from rfl]
  have h1 : (a ^^^ b).toBitVec.msb = decide ((a ^^^ b).toInt < 0) := BitVec.msb_eq_toInt
  have h2 : a.toBitVec.msb = decide (a.toInt < 0) := BitVec.msb_eq_toInt
  have h3 : b.toBitVec.msb = decide (b.toInt < 0) := BitVec.msb_eq_toInt
  rw [Int64.toBitVec_xor, BitVec.msb_xor, h2, h3, decide_eq_false (by omega : ¬ b.toInt < 0), Bool.xor_false] at h1
  have h4 := decide_eq_decide.mp h1
  omega
theorem div_i {a : Int64} {m : Nat} (h0 : 0 < m) (hm : m < 2 ^ 31) : (a / lN m).toInt = a.toInt.tdiv m ∧ (a / lN m * lN m).toInt = a.toInt.tdiv m * m ∧ (a - a / lN m * lN m).toInt = a.toInt - a.toInt.tdiv m * m ∧ (a.toInt.tdiv m * m).natAbs ≤ a.toInt.natAbs := by
  have hb : (lN m).toInt = m := lN_toInt hm
  have ha1 := Int64.le_toInt a
  have ha2 := Int64.toInt_lt a
  have e1 : (a / lN m).toInt = a.toInt.tdiv m := by
    rw [Int64.toInt_div_of_ne_right _ _ (fun q => by
      have := congrArg Int64.toInt q
      rw [hb, show (-1 : Int64).toInt = -1 from rfl] at this
      omega), hb]
  have hle : (a.toInt.tdiv m * m).natAbs ≤ a.toInt.natAbs := by
    rw [Int.natAbs_mul, Int.natAbs_tdiv]
    exact Nat.div_mul_le_self _ _
  have ht : a.toInt - a.toInt.tdiv m * m = a.toInt.tmod m := by rw [Int.tmod_def, Int.mul_comm]
  have hn : (a.toInt.tmod m).natAbs < m := by
    rw [Int.natAbs_tmod]
    exact Nat.mod_lt _ h0
  have e2 : (a / lN m * lN m).toInt = a.toInt.tdiv m * m := by
    rw [Int64.toInt_mul, e1, hb]
    rw [← ht] at hn
    generalize a.toInt.tdiv m * m = x at hle hn ⊢
    apply Int.bmod_eq_of_le_mul_two
    · omega
    · omega
  refine ⟨e1, e2, ?_, hle⟩
  rw [Int64.toInt_sub, e2]
  rw [ht]
  generalize a.toInt.tmod m = x at hn ⊢
  apply Int.bmod_eq_of_le_mul_two
  · omega
  · omega
/-- division, cut off downward -/
def fdv (a b : Int64) : Int64 := if (0 : Int64) ≤ a - a / b * b then a / b else a / b - 1
theorem p_floorDiv {Q : Int64 → gM → Prop} {M : gM} {a : Int64} {m : Nat} (h0 : 0 < m) (hm : m < 2 ^ 31) (hq : Q (fdv a (lN m)) M) : wp_JM_floorDiv Q a (lN m) M := by
  obtain ⟨e1, e2, e3, hle⟩ := div_i (a := a) h0 hm
  have hb : (lN m).toInt = m := lN_toInt hm
  unfold fdv at hq
  have hf : ((0 : Int64) ≤ a - a / lN m * lN m) ↔ 0 ≤ a.toInt - a.toInt.tdiv m * m := by rw [Int64.le_iff_toInt_le, show (0 : Int64).toInt = 0 from rfl, e3]
  refine ⟨lN_ne0 h0 hm, fun c => ?_, fun c => ⟨fun c2 => ?_, fun c2 => ?_⟩⟩
  · rw [xor_nn _ _ (by omega)] at c
    rw [if_pos (hf.mpr (by omega))] at hq
    exact hq
  · have := congrArg Int64.toInt c2
    rw [e2] at this
    rw [if_pos (hf.mpr (by omega))] at hq
    exact hq
  · rw [xor_nn _ _ (by omega)] at c
    have : ¬ a.toInt.tdiv m * m = a.toInt := fun q => c2 (Int64.toInt_inj.mp (by rw [e2]; exact q))
    rw [if_neg (fun q => by have := hf.mp q; omega)] at hq
    exact hq
theorem p_downward {Q : Int64 → gM → Prop} {M : gM} {a : Int64} {m : Nat} (h0 : 0 < m) (hm : m < 2 ^ 31) (hq : Q (fdv a (lN m)) M) : wp_MD_downward Q a (lN m) M := by
  unfold fdv at hq
  refine ⟨lN_ne0 h0 hm, lN_ne0 h0 hm, fun c => ?_, fun c => ?_⟩
  · rw [if_pos c] at hq; exact hq
  · rw [if_neg c] at hq; exact hq
/-- what node i tells, if V says what those below it tell -/
def body (M : gM) (r : Nat) (mask : Int32) (nm : Nat → Int32) (V : Nat → Int64) (i : Nat) : Int64 := if M.1 288 (32 * r + i) < 0 then addV M r i else if ((mask >>> (M.1 288 (32 * r + i) &&& 31)) &&& (1 : Int32)) = 1 then V (stp M r nm i) else fdv (V (M.1 291 (32 * r + i)).toNatClampNeg * (M.1 292 (32 * r + (M.1 291 (32 * r + i)).toNatClampNeg)).toInt64 + V ((M.1 291 (32 * r + i)).toNatClampNeg + 1) * (M.1 292 (32 * r + ((M.1 291 (32 * r + i)).toNatClampNeg + 1))).toInt64) (M.1 292 (32 * r + i)).toInt64
theorem body_congr {M : gM} {r s i : Nat} {mask : Int32} {nm : Nat → Int32} {V V' : Nat → Int64} (hs : treeS M r s) (hi : i < s) (e : ∀ x, i < x → x < s → V x = V' x) : body M r mask nm V i = body M r mask nm V' i := by
  have s31 := hs.2.1
  unfold body
  rcases (hs.2.2.2.2.2 i hi).2.2.2 with h | ⟨c, l, m, d, h⟩
  · rw [if_pos (by rw [h]; decide), if_pos (by rw [h]; decide)]
  · have hl := h.2.1
    rw [hl.1, nI_clamp (by omega), e l (by omega) (by omega), e (l + 1) (by omega) (by omega)]
    have : V (stp M r nm i) = V' (stp M r nm i) := by
      rw [stp_node s31 h]
      split
      · exact e _ (by omega) (by omega)
      · exact e _ (by omega) (by omega)
    rw [this]
def tlF (M : gM) (r : Nat) (mask : Int32) (nm : Nat → Int32) : Nat → Nat → Int64
  | 0 => fun _ => 0
  | k + 1 => fun i => body M r mask nm (tlF M r mask nm k) i
def good (M : gM) (r s : Nat) (mask : Int32) (nm : Nat → Int32) (V : Nat → Int64) (j : Nat) : Prop := ∀ i, j ≤ i → i < s → V i = body M r mask nm V i
theorem good_eq {M : gM} {r s : Nat} {mask : Int32} {nm : Nat → Int32} {V : Nat → Int64} {j : Nat} (hs : treeS M r s) (h : good M r s mask nm V j) : ∀ k i, j ≤ i → i < s → s - i ≤ k → V i = tlF M r mask nm k i := by
  intro k
  induction k with
  | zero => intro i _ _ _; omega
  | succ k ih =>
    intro i h1 h2 h3
    rw [h i h1 h2]
    exact body_congr hs h2 (fun x g1 g2 => ih x (by omega) g2 (by omega))
theorem good_put {M : gM} {r s k : Nat} {mask : Int32} {nm : Nat → Int32} {V V' : Nat → Int64} (hs : treeS M r s) (hk : k < s) (h : good M r s mask nm V (k + 1)) (e1 : ∀ i, i ≠ k → V' i = V i) (e2 : V' k = body M r mask nm V k) : good M r s mask nm V' k := by
  intro i h1 h2
  have e : body M r mask nm V' i = body M r mask nm V i := body_congr hs h2 (fun x g1 g2 => e1 x (by omega))
  rw [e]
  by_cases q : i = k
  · subst q; exact e2
  · rw [e1 i q]; exact h i (by omega) h2
/-- only what nodes have told, at cell K, may differ -/
def fr2 (K : Nat) (M M' : gM) : Prop := M'.1 = M.1 ∧ ∀ k j, k ≠ K → M'.2 k j = M.2 k j
theorem fr2_rf {K : Nat} {M : gM} : fr2 K M M := ⟨rfl, fun _ _ _ => rfl⟩
theorem fr2_tr {K : Nat} {M M' M'' : gM} (h1 : fr2 K M M') (h2 : fr2 K M' M'') : fr2 K M M'' := ⟨h2.1.trans h1.1, fun k j h => (h2.2 k j h).trans (h1.2 k j h)⟩
theorem fr2_wl {K j : Nat} {M : gM} {v : Int64} : fr2 K M (wl M K j v) := ⟨rfl, fun _ _ h => wl_ne (Or.inl h)⟩
theorem fr2_Q {K : Nat} {M M' : gM} (hK : K = 115 ∨ K = 298) (h : fr2 K M M') : frQ M M' := ⟨fun k j _ => by rw [h.1], fun k j h1 h2 => h.2 k j (by omega)⟩
theorem addV_fr {M M' : gM} (f : frQ M M') (r i : Nat) : addV M' r i = addV M r i := by
  unfold addV
  rw [f.2 295 _ (by omega) (by omega), f.1 293 _ (by omega), f.1 283 _ (by omega), f.1 283 _ (by omega)]
theorem stp_fr {M M' : gM} (f : frQ M M') (r : Nat) (nm : Nat → Int32) (i : Nat) : stp M' r nm i = stp M r nm i := by
  unfold stp
  rw [f.1 288 _ (by omega), f.1 289 _ (by omega), f.1 290 _ (by omega), f.1 291 _ (by omega)]
theorem body_fr {M M' : gM} (f : frQ M M') (r : Nat) (mask : Int32) (nm : Nat → Int32) (V : Nat → Int64) (i : Nat) : body M' r mask nm V i = body M r mask nm V i := by
  unfold body
  rw [f.1 288 _ (by omega), f.1 291 _ (by omega), f.1 292 _ (by omega), f.1 292 _ (by omega), f.1 292 _ (by omega), addV_fr f, stp_fr f]
theorem tlF_fr {M M' : gM} (f : frQ M M') (r : Nat) (mask : Int32) (nm : Nat → Int32) (k : Nat) : tlF M' r mask nm k = tlF M r mask nm k := by
  induction k with
  | zero => rfl
  | succ k ih =>
    funext i
    show body M' r mask nm (tlF M' r mask nm k) i = body M r mask nm (tlF M r mask nm k) i
    rw [ih, body_fr f]

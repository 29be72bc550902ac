/-! ===== the law's loop, all calls ===== -/
/-- both systems agree, and the program's empty sums are 0 -/
def SimN (M : gM) : Prop := Sim M ∧ atS M 107 (0, 0, 0)
theorem SimN_T {M M' : gM} (h : SimN M) (h1 : ∃ n, simT M' n) (f : frT M M') : SimN M' := ⟨Sim_T h.1 h1 f, (f.1 _ _ (by omega)).trans h.2.1, (f.1 _ _ (by omega)).trans h.2.2.1, (f.2 _ _).trans h.2.2.2⟩
theorem SimN_S {M M' : gM} (h : SimN M) (h1 : simS M') (f : frS M M') : SimN M' := ⟨Sim_S h.1 h1 f, (f.1 _ _ (by omega) (by omega)).trans h.2.1, (f.1 _ _ (by omega) (by omega)).trans h.2.2.1, (f.2 _ _).trans h.2.2.2⟩
theorem SimN_Q {M M' : gM} (h : SimN M) (f : frQ M M') : SimN M' := ⟨Sim_Q h.1 f, (f.1 _ _ (by omega)).trans h.2.1, (f.1 _ _ (by omega)).trans h.2.2.1, (f.2 _ _ (by omega) (by omega)).trans h.2.2.2⟩
theorem law_ok {Q : Int32 → gM → Prop} {xs : Nat → Int32} {L : Nat} (hL : L ≤ 3584) (hQ : ∀ M, Q 1 M) : ∀ n k M, 7 * k ≤ L → L < 7 * k + 7 * n → SimN M → wp_LW_law_18 Q xs L n (nI (7 * k)) M := by
  intro n
  induction n with
  | zero => exact fun k M h1 h2 _ => absurd h2 (by omega)
  | succ n ih =>
    intro k M h1 h2 hS
    have e7 : (Int32.ofNat L - 7).toInt = (L : Int) - 7 := pk_sub_toInt (a := L) (b := 7) (by omega) (by omega)
    have ek : (nI (7 * k)).toInt = ((7 * k : Nat) : Int) := nI_toInt (by omega)
    refine ⟨fun _ => hQ M, fun c => ?_⟩
    rw [i_lt, e7, ek] at c
    have hk7 : 7 * k + 7 ≤ L := by omega
    have vp : ∀ j, j < 7 → vp_in (nI (7 * k) + nI j) L := fun j hj => by rw [nI_add]; exact vp_in_nI (by omega) (by omega)
    have nx : ∀ M', SimN M' → wp_LW_law_793 Q xs L (wp_LW_law_18 Q xs L n) (nI (7 * k)) M' := by
      intro M' h'
      show wp_LW_law_18 Q xs L n (nI (7 * k) + 7) M'
      rw [show (7 : Int32) = nI 7 from rfl, nI_add, show 7 * k + 7 = 7 * (k + 1) by omega]
      exact ih (k + 1) M' (by omega) (by omega) h'
    have ok : ∀ (r : Int32) M', SimN M' → (r = r → wp_LW_law_793 Q xs L (wp_LW_law_18 Q xs L n) (nI (7 * k)) M') ∧ (¬ r = r → Q 0 M') := fun r M' h' => ⟨fun _ => nx M' h', fun z => absurd rfl z⟩
    have okl : ∀ (r : Int64) M', SimN M' → (r = r → wp_LW_law_793 Q xs L (wp_LW_law_18 Q xs L n) (nI (7 * k)) M') ∧ (¬ r = r → Q 0 M') := fun r M' h' => ⟨fun _ => nx M' h', fun z => absurd rfl z⟩
    obtain ⟨nn, hT⟩ := hS.1.1
    refine ⟨vp_in_nI (by omega) (by omega), ?_⟩
    refine ⟨fun _ => ⟨vp 1 (by omega), vp 2 (by omega), vp 3 (by omega), vp 4 (by omega), vp 5 (by omega), vp 6 (by omega), s_row (P := fun (r r1 : Int32) M1 => (r = r1 → wp_LW_law_793 Q xs L (wp_LW_law_18 Q xs L n) (nI (7 * k)) M1) ∧ (¬ r = r1 → Q 0 M1)) hT (fun r M2 a b => ok r M2 (SimN_T hS a b))⟩, fun _ => ?_⟩
    refine ⟨fun _ => ⟨vp 1 (by omega), vp 2 (by omega), s_hold (P := fun (r r1 : Int32) M1 => (r = r1 → wp_LW_law_793 Q xs L (wp_LW_law_18 Q xs L n) (nI (7 * k)) M1) ∧ (¬ r = r1 → Q 0 M1)) hT (fun r M2 a b => ok r M2 (SimN_T hS a b))⟩, fun _ => ?_⟩
    refine ⟨fun _ => ⟨vp 1 (by omega), vp 2 (by omega), s_set (P := fun (r r1 : Int32) M1 => (r = r1 → wp_LW_law_793 Q xs L (wp_LW_law_18 Q xs L n) (nI (7 * k)) M1) ∧ (¬ r = r1 → Q 0 M1)) hS.1.2.1 (fun r M2 a b => ok r M2 (SimN_S hS a b))⟩, fun _ => ?_⟩
    refine ⟨fun _ => s_clear (P := fun (r r1 : Int32) M1 => (r = r1 → wp_LW_law_793 Q xs L (wp_LW_law_18 Q xs L n) (nI (7 * k)) M1) ∧ (¬ r = r1 → Q 0 M1)) hT (fun r M2 a b => ok r M2 (SimN_T hS a b)), fun _ => ?_⟩
    refine ⟨fun _ => s_train (P := fun (r r1 : Int32) M1 => (r = r1 → wp_LW_law_793 Q xs L (wp_LW_law_18 Q xs L n) (nI (7 * k)) M1) ∧ (¬ r = r1 → Q 0 M1)) hS.1 hS.2 (fun r M2 a b => ok r M2 ⟨a, b⟩), fun _ => ?_⟩
    refine ⟨fun _ => ⟨vp 1 (by omega), vp 2 (by omega), vp 3 (by omega), s_node (P := fun (r r1 : Int32) M1 => (r = r1 → wp_LW_law_793 Q xs L (wp_LW_law_18 Q xs L n) (nI (7 * k)) M1) ∧ (¬ r = r1 → Q 0 M1)) hS.1 (fun r => ok r M hS)⟩, fun _ => ?_⟩
    refine ⟨fun _ => ⟨vp 1 (by omega), vp 2 (by omega), vp 3 (by omega), s_sum (P := fun (r r1 : Int64) M1 => (r = r1 → wp_LW_law_793 Q xs L (wp_LW_law_18 Q xs L n) (nI (7 * k)) M1) ∧ (¬ r = r1 → Q 0 M1)) hS.1 (fun r => okl r M hS)⟩, fun _ => ?_⟩
    refine ⟨fun _ => ⟨vp 1 (by omega), s_size (P := fun (r r1 : Int32) M1 => (r = r1 → wp_LW_law_793 Q xs L (wp_LW_law_18 Q xs L n) (nI (7 * k)) M1) ∧ (¬ r = r1 → Q 0 M1)) hS.1 (fun r => ok r M hS)⟩, fun _ => ?_⟩
    refine ⟨fun _ => ⟨vp 1 (by omega), vp 2 (by omega), vp 3 (by omega), vp 4 (by omega), vp 5 (by omega), s_leaf (P := fun (r r1 : Int32) M1 => (r = r1 → wp_LW_law_793 Q xs L (wp_LW_law_18 Q xs L n) (nI (7 * k)) M1) ∧ (¬ r = r1 → Q 0 M1)) hS.1 (fun r M2 a => ok r M2 (SimN_Q hS a))⟩, fun _ => ?_⟩
    refine ⟨fun _ => ⟨vp 1 (by omega), vp 2 (by omega), vp 3 (by omega), vp 4 (by omega), vp 5 (by omega), s_answer (P := fun (r r1 : Int64) M1 => (r = r1 → wp_LW_law_793 Q xs L (wp_LW_law_18 Q xs L n) (nI (7 * k)) M1) ∧ (¬ r = r1 → Q 0 M1)) hS.1 (fun r M2 a => okl r M2 (SimN_Q hS a))⟩, fun _ => ?_⟩
    refine ⟨fun _ => ⟨vp 1 (by omega), vp 2 (by omega), s_loss (P := fun (r r1 : Int64) M1 => (r = r1 → wp_LW_law_793 Q xs L (wp_LW_law_18 Q xs L n) (nI (7 * k)) M1) ∧ (¬ r = r1 → Q 0 M1)) hS.1 (fun r => okl r M hS)⟩, fun _ => ?_⟩
    refine ⟨fun _ => s_best (P := fun (r r1 : Int32) M1 => (r = r1 → wp_LW_law_793 Q xs L (wp_LW_law_18 Q xs L n) (nI (7 * k)) M1) ∧ (¬ r = r1 → Q 0 M1)) hS.1 (fun r => ok r M hS), fun _ => ?_⟩
    refine ⟨fun _ => ⟨vp 1 (by omega), s_without (P := fun (r r1 : Int64) M1 => (r = r1 → wp_LW_law_793 Q xs L (wp_LW_law_18 Q xs L n) (nI (7 * k)) M1) ∧ (¬ r = r1 → Q 0 M1)) hS.1 (fun r => okl r M hS)⟩, fun _ => ?_⟩
    refine ⟨fun _ => ⟨vp 1 (by omega), s_took (P := fun (r r1 : Int32) M1 => (r = r1 → wp_LW_law_793 Q xs L (wp_LW_law_18 Q xs L n) (nI (7 * k)) M1) ∧ (¬ r = r1 → Q 0 M1)) hS.1 (fun r => ok r M hS)⟩, fun _ => ?_⟩
    refine ⟨fun _ => ⟨vp 1 (by omega), s_gain (P := fun (r r1 : Int64) M1 => (r = r1 → wp_LW_law_793 Q xs L (wp_LW_law_18 Q xs L n) (nI (7 * k)) M1) ∧ (¬ r = r1 → Q 0 M1)) hS.1 (fun r => okl r M hS)⟩, fun _ => ?_⟩
    refine ⟨fun _ => ⟨vp 1 (by omega), vp 2 (by omega), vp 3 (by omega), vp 4 (by omega), vp 5 (by omega), s_told (P := fun (r r1 : Int64) M1 => (r = r1 → wp_LW_law_793 Q xs L (wp_LW_law_18 Q xs L n) (nI (7 * k)) M1) ∧ (¬ r = r1 → Q 0 M1)) hS.1 (fun r M2 a => okl r M2 (SimN_Q hS a))⟩, fun _ => ?_⟩
    refine ⟨fun _ => ⟨vp 1 (by omega), vp 2 (by omega), vp 3 (by omega), vp 4 (by omega), vp 5 (by omega), s_share (P := fun (r r1 : Int64) M1 => (r = r1 → wp_LW_law_793 Q xs L (wp_LW_law_18 Q xs L n) (nI (7 * k)) M1) ∧ (¬ r = r1 → Q 0 M1)) hS.1 (fun r M2 a => okl r M2 (SimN_Q hS a))⟩, fun _ => ?_⟩
    refine ⟨fun _ => ⟨vp 1 (by omega), s_count (P := fun (r r1 : Int32) M1 => (r = r1 → wp_LW_law_793 Q xs L (wp_LW_law_18 Q xs L n) (nI (7 * k)) M1) ∧ (¬ r = r1 → Q 0 M1)) hS.1 (fun r => ok r M hS)⟩, fun _ => ?_⟩
    exact nx M hS

theorem s_told {P : Int64 → Int64 → gM → Prop} {M : gM} {a1 a2 a3 a4 a5 : Int32} (hS : Sim M) (hP : ∀ r M2, frQ M M2 → P r r M2) : wp_BF_told (fun r M1 => wp_MD_told (fun r' M2 => P r r' M2) a1 a2 a3 a4 a5 M1) a1 a2 a3 a4 a5 M := by
  rcases hS.2.2 with h | ⟨n, t, h⟩
  · refine ⟨fun _ => ?_, fun c => absurd h.1.1 c⟩
    show wp_MD_told (fun r' M2 => P 0 r' M2) a1 a2 a3 a4 a5 M
    have hM : MF M 0 := ⟨by omega, h.2.1.1, h.2.1.2, fun r hr => absurd hr (by omega), fun h => absurd h (by omega)⟩
    refine ⟨fun _ => hP _ _ frQ_rf, fun c => ⟨fun _ => hP _ _ frQ_rf, fun c2 => p_areNumbers ⟨fun _ => q_mallTell hM fun M' f => ?_, fun _ => hP _ _ frQ_rf⟩⟩⟩
    have e : tall M a1 (fun c => nb c a2 a3 a4 a5) 0 = 0 := by
      show (256 : Int64) * (M.1 283 9).toInt64 = 0
      rw [h.2.2.2, b256]
    rw [e]
    exact hP _ _ (fr2_Q (Or.inr rfl) f)
  · obtain ⟨hM, hSF⟩ := TF_MF h
    have f := frQ_kA (M := M) (a := a2) (b := a3) (c := a4) (d := a5)
    obtain ⟨hM', hSF'⟩ := TF_MF (TF_fr (frQ_agR f) h)
    have bad : ¬ (inX 16 a1 = true ∧ areC a2 a3 a4 a5 = true) → wp_MD_told (fun r' M2 => P 0 r' M2) a1 a2 a3 a4 a5 M := by
      intro hb
      refine ⟨fun _ => hP _ _ frQ_rf, fun c => ⟨fun _ => hP _ _ frQ_rf, fun c2 => p_areNumbers ⟨fun e => ?_, fun _ => hP _ _ frQ_rf⟩⟩⟩
      refine absurd ⟨inX_t.mpr ⟨by rw [i_le]; rw [i_lt] at c; omega, ?_⟩, bI_nz e⟩ hb
      rw [i_lt]; rw [i_lt] at c2
      rw [show (15 : Int32).toInt = 15 from rfl] at c2
      rw [show (16 : Int32).toInt = 16 from rfl]
      omega
    unfold wp_BF_told
    rw [h.1.1]
    refine ⟨fun c => absurd c (by decide), fun _ => p_isIndex ⟨fun e => bad (fun q => by rw [bI_z e] at q; exact absurd q.1 (by decide)), fun e => p_areCells ⟨fun e2 => ?_, fun e2 => bad (fun q => by rw [bI_z e2] at q; exact absurd q.2 (by decide))⟩⟩⟩
    have e3 := bI_nz e2
    have e1 := bI_nz e
    refine q_tellAll (M := kA M a2 a3 a4 a5) (nm := fun c => nb c a2 a3 a4 a5) hM' hSF' (fun c hc => ⟨kA_at hc, areC_nb e3 hc⟩) (fun M1 f1 => ?_)
    show wp_MD_told _ a1 a2 a3 a4 a5 M1
    have f1' := frQ_tr f (fr2_Q (Or.inl rfl) f1)
    have hM1 := MF_fr (frQ_agR f1') hM
    refine ⟨fun c => ?_, fun _ => ⟨fun c => ?_, fun _ => p_areNumbers ⟨fun _ => q_mallTell hM1 fun M2 f2 => ?_, fun e5 => absurd e5 e2⟩⟩⟩
    · have := (i_le _ _).mp (inX_t.mp e1).1; rw [i_lt] at c; omega
    · have := (i_lt _ _).mp (inX_t.mp e1).2
      rw [i_lt] at c
      rw [show (15 : Int32).toInt = 15 from rfl] at c
      rw [show (16 : Int32).toInt = 16 from rfl] at this
      omega
    · rw [tall_fr (fr2_Q (Or.inl rfl) f1)]
      exact hP _ _ (frQ_tr f1' (fr2_Q (Or.inr rfl) f2))
/-- how many of four columns a set has, as the reference counts -/
def mny (k : Int32) : Int32 := ((((k &&& (1 : Int32)) + ((k >>> ((1 : Int32) &&& 31)) &&& (1 : Int32))) + ((k >>> ((2 : Int32) &&& 31)) &&& (1 : Int32))) + ((k >>> ((3 : Int32) &&& 31)) &&& (1 : Int32)))
theorem mny_bcf : ∀ k, k < 16 → bcf (nI k) = mny (nI k) := by decide
theorem own_bit : ∀ c, c < 4 → ∀ k, k < 16 → ((nI k &&& ((1 : Int32) <<< (nI c &&& 31))) = 0 ↔ ((nI k >>> (nI c &&& 31)) &&& (1 : Int32)) = 0) := by decide
def wgt (k : Int32) : Int64 := if mny k = 0 ∨ mny k = 3 then 6 else 2
/-- 24 times the fair share, the first k sets -/
def shr (M : gM) (t : Nat) (c : Nat) (nm : Nat → Int32) : Nat → Int64
  | 0 => 0
  | k + 1 => shr M t c nm k + (if ((nI k >>> (nI c &&& 31)) &&& (1 : Int32)) = 0 then (tall M (nI k ||| ((1 : Int32) <<< (nI c &&& 31))) nm t - tall M (nI k) nm t) * wgt (nI k) else 0)
theorem shr_t {M : gM} {t c k : Nat} {nm : Nat → Int32} (h : ((nI k >>> (nI c &&& 31)) &&& (1 : Int32)) = 0) : shr M t c nm (k + 1) = shr M t c nm k + (tall M (nI k ||| ((1 : Int32) <<< (nI c &&& 31))) nm t - tall M (nI k) nm t) * wgt (nI k) := by
  show _ + (if _ then _ else _) = _
  rw [if_pos h]
theorem shr_f {M : gM} {t c k : Nat} {nm : Nat → Int32} (h : ¬ ((nI k >>> (nI c &&& 31)) &&& (1 : Int32)) = 0) : shr M t c nm (k + 1) = shr M t c nm k := by
  show _ + (if _ then _ else _) = _
  rw [if_neg h, Int64.add_zero]
theorem shr_fr {M M' : gM} (f : frQ M M') (t c : Nat) (nm : Nat → Int32) (k : Nat) : shr M' t c nm k = shr M t c nm k := by
  induction k with
  | zero => rfl
  | succ k ih =>
    show shr M' t c nm k + _ = shr M t c nm k + _
    rw [ih, tall_fr f, tall_fr f]
theorem q_share {Q : Int64 → gM → Prop} {M : gM} {t c : Nat} {nm : Nat → Int32} (hM : MF M t) (hS : SF M) (hc : c < 4) (hn : nums M 272 nm) (hq : ∀ M', fr2 115 M M' → Q (shr M t c nm 16) M') : wp_TG_fairShare Q (nI c) M := by
  have go : ∀ z k M', k + z = 16 → fr2 115 M M' → wp_TG_fairShare_10 Q (z + 1) ((1 : Int32) <<< (nI c &&& 31)) (shr M t c nm k) (nI k) M' := by
    intro z
    induction z with
    | zero =>
      intro k M' hk f
      have : k = 16 := by omega
      subst this
      exact ⟨fun _ => hq M' f, fun c => absurd (show (16 : Int32) ≤ nI 16 by decide) c⟩
    | succ z ih =>
      intro k M' hk f
      have f' := fr2_Q (Or.inl rfl) f
      have hM' := MF_fr (frQ_agR f') hM
      have hS' : SF M' := fun k hk => by rw [f.1]; exact hS k hk
      have hn' : nums M' 272 nm := fun c hc => by rw [f.1]; exact hn c hc
      refine ⟨fun q => ?_, fun _ => ?_⟩
      · rw [show (16 : Int32) = nI 16 from rfl, nI_leI (by omega) (by omega)] at q; omega
      · rw [own_bit c hc k (by omega)]
        refine ⟨fun q => ?_, fun q => ?_⟩
        · show wp_TG_fairShare_10 Q (z + 1) _ (shr M t c nm k) (nI k + 1) M'
          rw [nI_1, ← shr_f q]
          exact ih (k + 1) M' (by omega) f
        · have last : ∀ s0 : Int32, s0.toInt64 = wgt (nI k) → wp_TG_fairShare_48 Q (wp_TG_fairShare_10 Q (z + 1)) ((1 : Int32) <<< (nI c &&& 31)) (shr M t c nm k) (nI k) s0 M' := by
            intro s0 hs0
            refine q_tellAll (nm := nm) hM' hS' hn' (fun M1 f1 => ?_)
            have f1' := fr2_Q (Or.inl rfl) f1
            refine q_tellAll (nm := nm) (MF_fr (frQ_agR f1') hM') (fun k hk => by rw [f1.1]; exact hS' k hk) (fun c hc => by rw [f1.1]; exact hn' c hc) (fun M2 f2 => ?_)
            show wp_TG_fairShare_10 Q (z + 1) _ (shr M t c nm k + s0.toInt64 * (_ - _)) (nI k + 1) M2
            rw [tall_fr f1', tall_fr f', tall_fr f', hs0, nI_1, Int64.mul_comm, ← shr_t q]
            exact ih (k + 1) M2 (by omega) (fr2_tr f (fr2_tr f1 f2))
          show (bcf (nI k) = 0 → _) ∧ (¬ bcf (nI k) = 0 → (¬ bcf (nI k) = 3 → _) ∧ (bcf (nI k) = 3 → _))
          rw [mny_bcf k (by omega)]
          refine ⟨fun e => last 6 ?_, fun e => ⟨fun e2 => last 2 ?_, fun e2 => last 6 ?_⟩⟩
          · unfold wgt; rw [if_pos (Or.inl e)]; rfl
          · unfold wgt; rw [if_neg (fun z => z.elim e e2)]; rfl
          · unfold wgt; rw [if_pos (Or.inr e2)]; rfl
  exact ⟨17, go 16 0 M (by omega) fr2_rf⟩
theorem q_mshare {Q : Int64 → gM → Prop} {M : gM} {t c : Nat} {n0 n1 n2 n3 : Int32} (hM : MF M t) (hc : c < 4) (hq : ∀ M', fr2 298 M M' → Q (shr M t c (fun c => nb c n0 n1 n2 n3) 16) M') : ∀ z k M', k + z = 16 → fr2 298 M M' → wp_MD_share_29 Q (z + 1) (nI c) n0 n1 n2 n3 (shr M t c (fun c => nb c n0 n1 n2 n3) k) (nI k) M' := by
  intro z
  induction z with
  | zero =>
    intro k M' hk f
    have : k = 16 := by omega
    subst this
    exact ⟨fun _ => hq M' f, fun c => absurd (show (16 : Int32) ≤ nI 16 by decide) c⟩
  | succ z ih =>
    intro k M' hk f
    have f' := fr2_Q (Or.inr rfl) f
    have hM' := MF_fr (frQ_agR f') hM
    refine ⟨fun q => ?_, fun _ => ⟨fun q => ?_, fun q => ?_⟩⟩
    · rw [show (16 : Int32) = nI 16 from rfl, nI_leI (by omega) (by omega)] at q; omega
    · show wp_MD_share_29 Q (z + 1) (nI c) n0 n1 n2 n3 (shr M t c (fun c => nb c n0 n1 n2 n3) k) (nI k + 1) M'
      rw [nI_1, ← shr_f q]
      exact ih (k + 1) M' (by omega) f
    · refine q_mallTell hM' (fun M1 f1 => ?_)
      have f1' := fr2_Q (Or.inr rfl) f1
      refine q_mallTell (MF_fr (frQ_agR f1') hM') (fun M2 f2 => ?_)
      rw [tall_fr f1', tall_fr f', tall_fr f']
      have last : ∀ w : Int64, w = wgt (nI k) → wp_MD_share_29 Q (z + 1) (nI c) n0 n1 n2 n3 (shr M t c (fun c => nb c n0 n1 n2 n3) k + (tall M (nI k ||| ((1 : Int32) <<< (nI c &&& 31))) (fun c => nb c n0 n1 n2 n3) t - tall M (nI k) (fun c => nb c n0 n1 n2 n3) t) * w) (nI k + 1) M2 := by
        intro w hw
        rw [hw, nI_1, ← shr_t q]
        exact ih (k + 1) M2 (by omega) (fr2_tr f (fr2_tr f1 f2))
      show (mny (nI k) = 0 → _) ∧ (¬ mny (nI k) = 0 → (¬ mny (nI k) = 3 → _) ∧ (mny (nI k) = 3 → _))
      refine ⟨fun e => last 6 ?_, fun e => ⟨fun e2 => last 2 ?_, fun e2 => last 6 ?_⟩⟩
      · unfold wgt; rw [if_pos (Or.inl e)]
      · unfold wgt; rw [if_neg (fun z => z.elim e e2)]
      · unfold wgt; rw [if_pos (Or.inr e2)]
theorem s_share {P : Int64 → Int64 → gM → Prop} {M : gM} {a1 a2 a3 a4 a5 : Int32} (hS : Sim M) (hP : ∀ r M2, frQ M M2 → P r r M2) : wp_BF_share (fun r M1 => wp_MD_share (fun r' M2 => P r r' M2) a1 a2 a3 a4 a5 M1) a1 a2 a3 a4 a5 M := by
  have mod : ∀ (v : Int64) (t : Nat), MF M t → (∀ c, c < 4 → a1 = nI c → areC a2 a3 a4 a5 = true → ∀ M', fr2 298 M M' → P v (shr M t c (fun c => nb c a2 a3 a4 a5) 16) M') → (¬ (inX 4 a1 = true ∧ areC a2 a3 a4 a5 = true) → P v 0 M) → wp_MD_share (fun r' M2 => P v r' M2) a1 a2 a3 a4 a5 M := by
    intro v t hM hy hb
    refine ⟨fun c => hb fun q => ?_, fun c => ⟨fun c2 => hb fun q => ?_, fun c2 => p_areNumbers ⟨fun e => ?_, fun e => hb fun q => ?_⟩⟩⟩
    · have := (i_le _ _).mp (inX_t.mp q.1).1; rw [i_lt] at c; omega
    · have := (i_lt _ _).mp (inX_t.mp q.1).2; rw [i_le] at c2; omega
    · have e1 : inX (nI 4) a1 = true := inX_t.mpr ⟨by rw [i_le]; rw [i_lt] at c; omega, by rw [i_lt]; rw [i_le] at c2; exact Int.not_le.mp c2⟩
      obtain ⟨k, hk, rfl⟩ := inX_nat (by omega) e1
      exact ⟨17, q_mshare hM hk (hy k hk rfl (bI_nz e)) 16 0 M (by omega) fr2_rf⟩
    · rw [bI_z e] at q; exact absurd q.2 (by decide)
  rcases hS.2.2 with h | ⟨n, t, h⟩
  · refine ⟨fun _ => ?_, fun c => absurd h.1.1 c⟩
    have hM : MF M 0 := ⟨by omega, h.2.1.1, h.2.1.2, fun r hr => absurd hr (by omega), fun h => absurd h (by omega)⟩
    refine mod 0 0 hM (fun c hc _ _ M' f => ?_) (fun _ => hP _ _ frQ_rf)
    have e0 : ∀ mask, tall M mask (fun c => nb c a2 a3 a4 a5) 0 = 0 := fun mask => by
      show (256 : Int64) * (M.1 283 9).toInt64 = 0
      rw [h.2.2.2, b256]
    have e : ∀ k, shr M 0 c (fun c => nb c a2 a3 a4 a5) k = 0 := by
      intro k
      induction k with
      | zero => rfl
      | succ k ih =>
        show shr M 0 c _ k + _ = 0
        rw [ih, e0, e0, Int64.sub_self, Int64.zero_mul, ite_self, Int64.add_zero]
    rw [e]
    exact hP _ _ (fr2_Q (Or.inr rfl) f)
  · obtain ⟨hM, hSF⟩ := TF_MF h
    have f := frQ_kA (M := M) (a := a2) (b := a3) (c := a4) (d := a5)
    obtain ⟨hM', hSF'⟩ := TF_MF (TF_fr (frQ_agR f) h)
    have bad : ¬ (inX 4 a1 = true ∧ areC a2 a3 a4 a5 = true) → wp_MD_share (fun r' M2 => P 0 r' M2) a1 a2 a3 a4 a5 M := fun hb => mod 0 t hM (fun c hc e1 e2 => absurd ⟨by rw [e1]; exact inX_in (a := 0) (n := 4) (by omega) hc, e2⟩ hb) (fun _ => hP _ _ frQ_rf)
    unfold wp_BF_share
    rw [h.1.1]
    refine ⟨fun c => absurd c (by decide), fun _ => p_isIndex ⟨fun e => bad (fun q => by rw [bI_z e] at q; exact absurd q.1 (by decide)), fun e => p_areCells ⟨fun e2 => ?_, fun e2 => bad (fun q => by rw [bI_z e2] at q; exact absurd q.2 (by decide))⟩⟩⟩
    have e3 := bI_nz e2
    obtain ⟨c, hc, rfl⟩ := inX_nat (n := 4) (by omega) (bI_nz e)
    refine q_share (M := kA M a2 a3 a4 a5) (nm := fun c => nb c a2 a3 a4 a5) hM' hSF' hc (fun c hc => ⟨kA_at hc, areC_nb e3 hc⟩) (fun M1 f1 => ?_)
    show wp_MD_share _ (nI c) a2 a3 a4 a5 M1
    have f1q := fr2_Q (Or.inl rfl) f1
    have f1' := frQ_tr f f1q
    have hM1 := MF_fr (frQ_agR f1') hM
    refine ⟨fun z => absurd z (nI_pos (by omega)), fun _ => ⟨fun z => ?_, fun _ => p_areNumbers ⟨fun _ => ⟨17, ?_⟩, fun e5 => absurd e5 e2⟩⟩⟩
    · rw [show (4 : Int32) = nI 4 from rfl, nI_leI (by omega) (by omega)] at z; omega
    · refine q_mshare hM1 hc (fun M2 f2 => ?_) 16 0 M1 (by omega) fr2_rf
      rw [shr_fr f1q]
      exact hP _ _ (frQ_tr f1' (fr2_Q (Or.inr rfl) f2))

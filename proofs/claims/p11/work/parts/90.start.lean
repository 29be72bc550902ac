theorem start_K {s : State} {args : Array Value} (hts : ∀ w ∈ lw_tbl, w.before args s = true) : ∃ (D : va_G) (cy : Nat → ClassId), va_K D vCl (gT cy) s := by
  have hg : ∀ w ∈ gw_tbl, w.before args s = true := fun w h => hts w (gw_in w h)
  obtain ⟨c0, i0, k0⟩ := u_known hg i_BF (hg _ kw_1_13)
  obtain ⟨c1, i1, k1⟩ := u_known hg i_TB (hg _ kw_1_21)
  obtain ⟨c2, i2, k2⟩ := u_known hg i_TG (hg _ kw_1_68)
  obtain ⟨c3, i3, k3⟩ := u_known hg i_GR (hg _ kw_1_74)
  obtain ⟨c4, i4, k4⟩ := u_known hg i_SM (hg _ kw_1_83)
  obtain ⟨c5, i5, k5⟩ := u_known hg i_SP (hg _ kw_1_104)
  obtain ⟨c6, i6, k6⟩ := u_known hg i_TR (hg _ kw_1_171)
  obtain ⟨c7, i7, k7⟩ := u_known hg i_MD (hg _ kw_3_66)
  obtain ⟨a0, q0, m0, x0, y0, z0⟩ := Cond.arrayClass_spec (hg _ kw_1_56)
  obtain ⟨a1, q1, m1, x1, y1, z1⟩ := Cond.arrayClass_spec (hg _ kw_1_102)
  obtain ⟨a2, q2, m2, x2, y2, z2⟩ := Cond.arrayClass_spec (hg _ kw_1_57)
  obtain ⟨m3, a3, q3, u3, -, y3, z3, x3⟩ := Cond.arrayOver_spec (hts _ kl_1_168)
  obtain ⟨m4, a4, q4, u4, -, y4, z4, x4⟩ := arrayOverA_spec (hts _ kl_1_27)
  obtain ⟨m5, a5, q5, u5, -, y5, z5, x5⟩ := arrayOverA_spec (hts _ kl_1_170)
  refine ⟨(fun c => match c with | 0 => c0 | 1 => c1 | 2 => c2 | 3 => c3 | 4 => c4 | 5 => c5 | 6 => c6 | _ => c7, fun c => match c with | 0 => i0 | 1 => i1 | 2 => i2 | 3 => i3 | 4 => i4 | 5 => i5 | 6 => i6 | _ => i7), fun t => match t with | 0 => a0 | 1 => a1 | 2 => a2 | 3 => a3 | 4 => a4 | _ => a5, ⟨fun c q hc => ?_, fun k q hk => ?_⟩⟩
  · match c, hc with
    | 0, hc => cases hc; exact k0
    | 1, hc => cases hc; exact k1
    | 2, hc => cases hc; exact k2
    | 3, hc => cases hc; exact k3
    | 4, hc => cases hc; exact k4
    | 5, hc => cases hc; exact k5
    | 6, hc => cases hc; exact k6
    | 7, hc => cases hc; exact k7
    | c + 8, hc => exact absurd hc (by simp [vCl])
  · match k, hk with
    | 0, hk => cases hk; exact ⟨fun n z => ⟨(fun k h => by cases h), q0, y0, m0, z0⟩, x0⟩
    | 1, hk => cases hk; exact ⟨fun n z => ⟨(fun k h => by cases h), q1, y1, m1, z1⟩, x1⟩
    | 2, hk => cases hk; exact ⟨fun n z => ⟨(fun k h => by cases h), q2, y2, m2, z2⟩, x2⟩
    | 3, hk => cases hk; exact ⟨fun n z => ⟨(fun k h => by cases h), q3, y3, m3, z3⟩, ⟨q3, m3, y3, z3, u3, x3⟩⟩
    | 4, hk => cases hk; exact ⟨fun n z => ⟨(fun k h => by cases h), q4, y4, m4, z4⟩, x4⟩
    | 5, hk => cases hk; exact ⟨fun n z => ⟨(fun k h => by cases h), q5, y5, m5, z5⟩, x5⟩
    | k + 6, hk => exact absurd hk (by simp [gT])

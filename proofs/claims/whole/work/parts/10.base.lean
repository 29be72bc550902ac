abbrev gL : Type := (Nat × Nat × Nat × Nat) ⊕ (Nat × List (Nat × Nat))
def nW : Nat := 299
def layTB (b o : Nat) : gL := if o = 0 then .inr (1, [(0, b + 1), (0, b + 42), (0, b + 43), (0, b + 44), (1, 4)]) else if o = 1 then .inl (4, 40, b + 2, 1) else if o < 42 then .inl (0, 4, 0, 0) else if o < 44 then .inl (0, 40, 0, 0) else .inl (2, 40, 0, 0)
def layTR (b o : Nat) : gL := if o = 0 then .inr (6, [(0, b + 1), (0, b + 9), (1, 2)]) else if o = 1 then .inl (4, 7, b + 2, 1) else if o < 9 then .inl (0, 31, 0, 0) else if o = 9 then .inl (5, 3, b + 10, 1) else .inl (1, 31, 0, 0)
def layMD (k : Nat) : gL := if k = 274 then .inl (0, 160, 0, 0) else if k = 275 then .inl (0, 40, 0, 0) else if k = 276 then .inl (0, 40, 0, 0) else if k = 277 then .inl (2, 40, 0, 0) else if k = 278 then .inl (0, 15, 0, 0) else if k = 279 then .inl (0, 160, 0, 0) else if k = 280 then .inl (0, 40, 0, 0) else if k = 281 then .inl (0, 40, 0, 0) else if k = 282 then .inl (2, 40, 0, 0) else if k = 283 then .inl (0, 15, 0, 0) else if k = 284 then .inl (1, 40, 0, 0) else if k = 285 then .inl (1, 26, 0, 0) else if k = 286 then .inl (2, 480, 0, 0) else if k = 287 then .inl (0, 12, 0, 0) else if k = 288 then .inl (0, 384, 0, 0) else if k = 289 then .inl (0, 384, 0, 0) else if k = 290 then .inl (0, 384, 0, 0) else if k = 291 then .inl (0, 384, 0, 0) else if k = 292 then .inl (0, 384, 0, 0) else if k = 293 then .inl (0, 384, 0, 0) else if k = 294 then .inl (0, 384, 0, 0) else if k = 295 then .inl (1, 384, 0, 0) else if k = 296 then .inl (1, 384, 0, 0) else if k = 297 then .inl (0, 40, 0, 0) else if k = 298 then .inl (1, 32, 0, 0) else .inr (99, [])
def lay (k : Nat) : gL := if k < 116 then (if k < 46 then (if k = 0 then .inr (0, [(0, 1), (0, 46), (0, 47), (0, 272)]) else layTB 1 (k - 1)) else if k < 49 then (if k = 46 then .inl (0, 15, 0, 0) else if k = 47 then .inr (2, [(0, 48), (0, 49), (0, 94), (0, 109), (0, 110), (0, 111), (0, 112), (0, 115), (1, 8), (1, 9)]) else .inr (3, [(0, 49), (0, 94), (0, 95), (0, 100), (0, 101), (0, 102), (0, 103), (0, 104), (0, 105), (0, 106), (0, 107), (0, 108)])) else if k < 94 then layTB 49 (k - 49) else if k < 102 then (if k = 94 then .inl (0, 15, 0, 0) else if k = 95 then .inl (4, 4, 96, 1) else if k < 100 then .inl (0, 40, 0, 0) else if k = 100 then .inl (0, 40, 0, 0) else .inl (1, 40, 0, 0)) else if k < 108 then .inr (4, [(1, 0), (1, 1), (2, 2)]) else if k = 108 then .inr (5, [(1, 0), (1, 1), (1, 2), (2, 3)]) else if k = 109 then .inl (3, 12, 116, 13) else if k = 110 then .inl (1, 40, 0, 0) else if k = 111 then .inl (0, 40, 0, 0) else if k = 112 then .inl (5, 2, 113, 1) else if k < 115 then .inl (1, 13, 0, 0) else .inl (1, 31, 0, 0)) else if k < 272 then layTR (116 + 13 * ((k - 116) / 13)) ((k - 116) % 13) else if k = 272 then .inl (0, 4, 0, 0) else if k = 273 then .inr (7, [(1, 0), (0, 274), (0, 275), (0, 276), (0, 277), (0, 278), (1, 6), (1, 7), (0, 279), (0, 280), (0, 281), (0, 282), (0, 283), (0, 284), (1, 14), (0, 285), (0, 286), (0, 287), (0, 288), (0, 289), (0, 290), (0, 291), (0, 292), (0, 293), (0, 294), (0, 295), (0, 296), (0, 297), (0, 298), (2, 29), (1, 30), (1, 31)]) else layMD k
theorem lay_0 : lay 0 = .inr (0, [(0, 1), (0, 46), (0, 47), (0, 272)]) := rfl
theorem lay_46 : lay 46 = .inl (0, 15, 0, 0) := rfl
theorem lay_272 : lay 272 = .inl (0, 4, 0, 0) := rfl
theorem lay_47 : lay 47 = .inr (2, [(0, 48), (0, 49), (0, 94), (0, 109), (0, 110), (0, 111), (0, 112), (0, 115), (1, 8), (1, 9)]) := rfl
theorem lay_48 : lay 48 = .inr (3, [(0, 49), (0, 94), (0, 95), (0, 100), (0, 101), (0, 102), (0, 103), (0, 104), (0, 105), (0, 106), (0, 107), (0, 108)]) := rfl
theorem lay_94 : lay 94 = .inl (0, 15, 0, 0) := rfl
theorem lay_95 : lay 95 = .inl (4, 4, 96, 1) := rfl
theorem lay_100 : lay 100 = .inl (0, 40, 0, 0) := rfl
theorem lay_101 : lay 101 = .inl (1, 40, 0, 0) := rfl
theorem lay_102 : lay 102 = .inr (4, [(1, 0), (1, 1), (2, 2)]) := rfl
theorem lay_103 : lay 103 = .inr (4, [(1, 0), (1, 1), (2, 2)]) := rfl
theorem lay_104 : lay 104 = .inr (4, [(1, 0), (1, 1), (2, 2)]) := rfl
theorem lay_105 : lay 105 = .inr (4, [(1, 0), (1, 1), (2, 2)]) := rfl
theorem lay_106 : lay 106 = .inr (4, [(1, 0), (1, 1), (2, 2)]) := rfl
theorem lay_107 : lay 107 = .inr (4, [(1, 0), (1, 1), (2, 2)]) := rfl
theorem lay_108 : lay 108 = .inr (5, [(1, 0), (1, 1), (1, 2), (2, 3)]) := rfl
theorem lay_109 : lay 109 = .inl (3, 12, 116, 13) := rfl
theorem lay_110 : lay 110 = .inl (1, 40, 0, 0) := rfl
theorem lay_111 : lay 111 = .inl (0, 40, 0, 0) := rfl
theorem lay_112 : lay 112 = .inl (5, 2, 113, 1) := rfl
theorem lay_115 : lay 115 = .inl (1, 31, 0, 0) := rfl
theorem lay_273 : lay 273 = .inr (7, [(1, 0), (0, 274), (0, 275), (0, 276), (0, 277), (0, 278), (1, 6), (1, 7), (0, 279), (0, 280), (0, 281), (0, 282), (0, 283), (0, 284), (1, 14), (0, 285), (0, 286), (0, 287), (0, 288), (0, 289), (0, 290), (0, 291), (0, 292), (0, 293), (0, 294), (0, 295), (0, 296), (0, 297), (0, 298), (2, 29), (1, 30), (1, 31)]) := rfl
theorem lay_274 : lay 274 = .inl (0, 160, 0, 0) := rfl
theorem lay_275 : lay 275 = .inl (0, 40, 0, 0) := rfl
theorem lay_276 : lay 276 = .inl (0, 40, 0, 0) := rfl
theorem lay_277 : lay 277 = .inl (2, 40, 0, 0) := rfl
theorem lay_278 : lay 278 = .inl (0, 15, 0, 0) := rfl
theorem lay_279 : lay 279 = .inl (0, 160, 0, 0) := rfl
theorem lay_280 : lay 280 = .inl (0, 40, 0, 0) := rfl
theorem lay_281 : lay 281 = .inl (0, 40, 0, 0) := rfl
theorem lay_282 : lay 282 = .inl (2, 40, 0, 0) := rfl
theorem lay_283 : lay 283 = .inl (0, 15, 0, 0) := rfl
theorem lay_284 : lay 284 = .inl (1, 40, 0, 0) := rfl
theorem lay_285 : lay 285 = .inl (1, 26, 0, 0) := rfl
theorem lay_286 : lay 286 = .inl (2, 480, 0, 0) := rfl
theorem lay_287 : lay 287 = .inl (0, 12, 0, 0) := rfl
theorem lay_288 : lay 288 = .inl (0, 384, 0, 0) := rfl
theorem lay_289 : lay 289 = .inl (0, 384, 0, 0) := rfl
theorem lay_290 : lay 290 = .inl (0, 384, 0, 0) := rfl
theorem lay_291 : lay 291 = .inl (0, 384, 0, 0) := rfl
theorem lay_292 : lay 292 = .inl (0, 384, 0, 0) := rfl
theorem lay_293 : lay 293 = .inl (0, 384, 0, 0) := rfl
theorem lay_294 : lay 294 = .inl (0, 384, 0, 0) := rfl
theorem lay_295 : lay 295 = .inl (1, 384, 0, 0) := rfl
theorem lay_296 : lay 296 = .inl (1, 384, 0, 0) := rfl
theorem lay_297 : lay 297 = .inl (0, 40, 0, 0) := rfl
theorem lay_298 : lay 298 = .inl (1, 32, 0, 0) := rfl
def isSM (k : Nat) : Prop := lay k = .inr (4, [(1, 0), (1, 1), (2, 2)])
def isTB (b : Nat) : Prop := lay b = .inr (1, [(0, b + 1), (0, b + 42), (0, b + 43), (0, b + 44), (1, 4)]) ∧ lay (b + 1) = .inl (4, 40, b + 2, 1) ∧ (∀ i, i < 40 → lay (b + 2 + i) = .inl (0, 4, 0, 0)) ∧ lay (b + 42) = .inl (0, 40, 0, 0) ∧ lay (b + 43) = .inl (0, 40, 0, 0) ∧ lay (b + 44) = .inl (2, 40, 0, 0)
def isTR (b : Nat) : Prop := lay b = .inr (6, [(0, b + 1), (0, b + 9), (1, 2)]) ∧ lay (b + 1) = .inl (4, 7, b + 2, 1) ∧ (∀ i, i < 7 → lay (b + 2 + i) = .inl (0, 31, 0, 0)) ∧ lay (b + 9) = .inl (5, 3, b + 10, 1) ∧ (∀ i, i < 3 → lay (b + 10 + i) = .inl (1, 31, 0, 0))
theorem isTB_1 : isTB 1 := ⟨rfl, rfl, by decide, rfl, rfl, rfl⟩
theorem isTB_49 : isTB 49 := ⟨rfl, rfl, by decide, rfl, rfl, rfl⟩
theorem isSM_102 : isSM 102 := rfl
theorem isSM_103 : isSM 103 := rfl
theorem isSM_104 : isSM 104 := rfl
theorem isSM_105 : isSM 105 := rfl
theorem isSM_106 : isSM 106 := rfl
theorem isSM_107 : isSM 107 := rfl
theorem isTR_at : ∀ t, t < 12 → isTR (116 + 13 * t) := by
  intro t ht
  have h : t = 0 ∨ t = 1 ∨ t = 2 ∨ t = 3 ∨ t = 4 ∨ t = 5 ∨ t = 6 ∨ t = 7 ∨ t = 8 ∨ t = 9 ∨ t = 10 ∨ t = 11 := by omega
  rcases h with rfl | rfl | rfl | rfl | rfl | rfl | rfl | rfl | rfl | rfl | rfl | rfl <;> exact ⟨rfl, rfl, by decide, rfl, by decide⟩
theorem lay_order : ∀ i, i < 4 → lay (96 + i) = .inl (0, 40, 0, 0) := by decide
theorem lay_losses : ∀ i, i < 2 → lay (113 + i) = .inl (1, 13, 0, 0) := by decide
theorem lay_big {k : Nat} (h : nW ≤ k) : lay k = .inr (99, []) := by
  have h : 299 ≤ k := h
  unfold lay layMD
  rw [if_neg (by omega), if_neg (by omega), if_neg (by omega), if_neg (by omega)]
  rw [if_neg (show ¬ k = 274 by omega), if_neg (show ¬ k = 275 by omega), if_neg (show ¬ k = 276 by omega), if_neg (show ¬ k = 277 by omega), if_neg (show ¬ k = 278 by omega), if_neg (show ¬ k = 279 by omega), if_neg (show ¬ k = 280 by omega), if_neg (show ¬ k = 281 by omega), if_neg (show ¬ k = 282 by omega), if_neg (show ¬ k = 283 by omega), if_neg (show ¬ k = 284 by omega), if_neg (show ¬ k = 285 by omega), if_neg (show ¬ k = 286 by omega), if_neg (show ¬ k = 287 by omega), if_neg (show ¬ k = 288 by omega), if_neg (show ¬ k = 289 by omega), if_neg (show ¬ k = 290 by omega), if_neg (show ¬ k = 291 by omega), if_neg (show ¬ k = 292 by omega), if_neg (show ¬ k = 293 by omega), if_neg (show ¬ k = 294 by omega), if_neg (show ¬ k = 295 by omega), if_neg (show ¬ k = 296 by omega), if_neg (show ¬ k = 297 by omega), if_neg (show ¬ k = 298 by omega)]
/-! ===== the world: every cell of both systems by its index; what may change is numbers alone ===== -/
abbrev gM : Type := (Nat → Nat → Int32) × (Nat → Nat → Int64)
def wi (M : gM) (k j : Nat) (v : Int32) : gM := (fun a b => if a = k ∧ b = j then v else M.1 a b, M.2)
def wl (M : gM) (k j : Nat) (v : Int64) : gM := (M.1, fun a b => if a = k ∧ b = j then v else M.2 a b)
/-- a copy of a stretch of numbers -/
def wc (M : gM) (k0 k1 sp dp n : Nat) : gM := (fun a b => if a = k1 then va_cpy (M.1 k0) (M.1 k1) sp dp n b else M.1 a b, M.2)
def gF (ad : Nat → Nat) (M : gM) (k : Nat) (q : Nat × Nat) : Value := match q.1 with
  | 0 => .ref (ad q.2)
  | 1 => .int (M.1 k q.2)
  | _ => .long (M.2 k q.2)
def gC (cy : Nat → ClassId) (ad : Nat → Nat) (M : gM) (k : Nat) (L : gL) : va_E := match L with
  | .inl (0, n, _, _) => .inl (cy 0, n, .inl (M.1 k))
  | .inl (1, n, _, _) => .inl (cy 1, n, .inr (.inl (M.2 k)))
  | .inl (2, n, _, _) => .inl (cy 2, n, .inl (M.1 k))
  | .inl (t + 3, n, a, d) => .inl (cy (t + 3), n, .inr (.inr (.inr (.inr (fun j => if j < n then some (ad (a + d * j)) else none)))))
  | .inr (c, fs) => .inr (c, fs.map (gF ad M k))
def wd (cy : Nat → ClassId) (ad : Nat → Nat) (M : gM) : va_W := (List.range nW).map (fun k => (ad k, gC cy ad M k (lay k)))
def gT (cy : Nat → ClassId) : List (ClassId × FieldType) := [(cy 0, .int), (cy 1, .long), (cy 2, .boolean), (cy 3, .object "BoostForests$Tree"), (cy 4, .array .int), (cy 5, .array .long)]
def gJ (ad : Nat → Nat) : Prop := ∀ i j, i < nW → j < nW → ad i = ad j → i = j
def gA (ad : Nat → Nat) (sz : Nat) : Nat → Prop := fun q => (∃ k, k < nW ∧ q = ad k) ∨ sz ≤ q
theorem wd_get {cy : Nat → ClassId} {ad : Nat → Nat} {M : gM} {k : Nat} (h : k < nW) : (wd cy ad M)[k]? = some (ad k, gC cy ad M k (lay k)) := by
  unfold wd
  rw [List.getElem?_map, List.getElem?_range h]
  rfl
theorem lay_lt {k : Nat} {L : gL} (h : lay k = L) (hn : L ≠ .inr (99, [])) : k < nW := by
  rcases Nat.lt_or_ge k nW with q | q
  · exact q
  · exact absurd (h.symm.trans (lay_big q)) hn
theorem wd_at {cy : Nat → ClassId} {ad : Nat → Nat} {M : gM} {k : Nat} {L : gL} (h : lay k = L) (hn : L ≠ .inr (99, [])) : (wd cy ad M)[k]? = some (ad k, gC cy ad M k L) := by
  rw [wd_get (lay_lt h hn), h]
theorem lay_ne_l {t n a d : Nat} : (.inl (t, n, a, d) : gL) ≠ .inr (99, []) := fun h => by cases h
theorem lay_ne_r {c : Nat} {fs : List (Nat × Nat)} {r : vw_C} (hc : vCl[c]? = some r) : (.inr (c, fs) : gL) ≠ .inr (99, []) := fun h => by
  cases h
  cases hc
theorem wd_len {cy : Nat → ClassId} {ad : Nat → Nat} {M : gM} : (wd cy ad M).length = nW := by simp [wd]
theorem gD {cy : Nat → ClassId} {ad : Nat → Nat} {M : gM} {sz : Nat} (hj : gJ ad) : va_D (gA ad sz) (wd cy ad M) := by
  refine ⟨fun i j x y hi hj2 h => ?_, fun k q hk => ?_⟩
  · have li : i < nW := by have := (List.getElem?_eq_some_iff.mp hi).1; rwa [wd_len] at this
    have lj : j < nW := by have := (List.getElem?_eq_some_iff.mp hj2).1; rwa [wd_len] at this
    rw [wd_get li] at hi
    rw [wd_get lj] at hj2
    cases hi
    cases hj2
    exact hj i j li lj h
  · have lk : k < nW := by have := (List.getElem?_eq_some_iff.mp hk).1; rwa [wd_len] at this
    rw [wd_get lk] at hk
    cases hk
    exact Or.inl ⟨k, lk, rfl⟩
theorem wd_set {cy : Nat → ClassId} {ad : Nat → Nat} {M M' : gM} {k : Nat} {e : va_E} (hk : k < nW) (he : e = gC cy ad M' k (lay k)) (ho : ∀ j, j ≠ k → ∀ L, gC cy ad M' j L = gC cy ad M j L) : (wd cy ad M).set k (ad k, e) = wd cy ad M' := by
  apply List.ext_getElem?
  intro j
  by_cases h : j = k
  · subst h
    rw [List.getElem?_set_self (by rw [wd_len]; exact hk), wd_get hk, he]
  · rw [List.getElem?_set_ne (Ne.symm h)]
    by_cases hj : j < nW
    · rw [wd_get hj, wd_get hj, ho j h]
    · rw [List.getElem?_eq_none (by rw [wd_len]; omega), List.getElem?_eq_none (by rw [wd_len]; omega)]
theorem gC_congr {cy : Nat → ClassId} {ad : Nat → Nat} {M M' : gM} {k : Nat} (h1 : M'.1 k = M.1 k) (h2 : M'.2 k = M.2 k) (L : gL) : gC cy ad M' k L = gC cy ad M k L := by
  have hF : gF ad M' k = gF ad M k := by
    funext q
    unfold gF
    rw [h1, h2]
  rcases L with ⟨t, n, a, d⟩ | ⟨c, fs⟩
  · match t with
    | 0 => show Sum.inl (cy 0, n, Sum.inl (M'.1 k)) = _; rw [h1]; rfl
    | 1 => show Sum.inl (cy 1, n, Sum.inr (Sum.inl (M'.2 k))) = _; rw [h2]; rfl
    | 2 => show Sum.inl (cy 2, n, Sum.inl (M'.1 k)) = _; rw [h1]; rfl
    | t + 3 => rfl
  · show Sum.inr (c, fs.map (gF ad M' k)) = _
    rw [hF]
    rfl
theorem wi_1n {M : gM} {k j a : Nat} {v : Int32} (h : a ≠ k) : (wi M k j v).1 a = M.1 a := by
  funext b
  simp [wi, h]
theorem wi_1s {M : gM} {k j : Nat} {v : Int32} : (wi M k j v).1 k = upd (M.1 k) j v := by
  funext b
  simp [wi, upd]
theorem wi_2 {M : gM} {k j : Nat} {v : Int32} : (wi M k j v).2 = M.2 := rfl
theorem wl_1 {M : gM} {k j : Nat} {v : Int64} : (wl M k j v).1 = M.1 := rfl
theorem wl_2n {M : gM} {k j a : Nat} {v : Int64} (h : a ≠ k) : (wl M k j v).2 a = M.2 a := by
  funext b
  simp [wl, h]
theorem wl_2s {M : gM} {k j : Nat} {v : Int64} : (wl M k j v).2 k = vp_updL (M.2 k) j v := by
  funext b
  simp [wl, vp_updL]
theorem wc_1n {M : gM} {k0 k1 sp dp n a : Nat} (h : a ≠ k1) : (wc M k0 k1 sp dp n).1 a = M.1 a := by
  funext b
  simp [wc, h]
theorem wc_1s {M : gM} {k0 k1 sp dp n : Nat} : (wc M k0 k1 sp dp n).1 k1 = va_cpy (M.1 k0) (M.1 k1) sp dp n := by
  funext b
  simp [wc]
theorem gF_seti {ad : Nat → Nat} {M : gM} {k j : Nat} {fs : List (Nat × Nat)} {x : Int32} (hok : ∀ (i : Nat) (q : Nat × Nat), fs[i]? = some q → q.1 ≠ 0 → q.2 = i) (hj : fs[j]? = some (1, j)) : (fs.map (gF ad M k)).set j (.int x) = fs.map (gF ad (wi M k j x) k) := by
  have hl := (List.getElem?_eq_some_iff.mp hj).1
  apply List.ext_getElem?
  intro i
  by_cases h : j = i
  · subst h
    rw [List.getElem?_set_self (by rw [List.length_map]; exact hl), List.getElem?_map, hj]
    simp [gF, wi]
  · rw [List.getElem?_set_ne h, List.getElem?_map, List.getElem?_map]
    cases hq : fs[i]? with
    | none => rfl
    | some q =>
      obtain ⟨t, z⟩ := q
      have := hok i _ hq
      match t, this with
      | 0, _ => rfl
      | 1, this =>
        have e : z = i := this (show (1 : Nat) ≠ 0 by decide)
        subst e
        simp [gF, wi, Ne.symm h]
      | t + 2, _ => rfl
theorem gF_setl {ad : Nat → Nat} {M : gM} {k j : Nat} {fs : List (Nat × Nat)} {x : Int64} (hok : ∀ (i : Nat) (q : Nat × Nat), fs[i]? = some q → q.1 ≠ 0 → q.2 = i) (hj : fs[j]? = some (2, j)) : (fs.map (gF ad M k)).set j (.long x) = fs.map (gF ad (wl M k j x) k) := by
  have hl := (List.getElem?_eq_some_iff.mp hj).1
  apply List.ext_getElem?
  intro i
  by_cases h : j = i
  · subst h
    rw [List.getElem?_set_self (by rw [List.length_map]; exact hl), List.getElem?_map, hj]
    simp [gF, wl]
  · rw [List.getElem?_set_ne h, List.getElem?_map, List.getElem?_map]
    cases hq : fs[i]? with
    | none => rfl
    | some q =>
      obtain ⟨t, z⟩ := q
      have := hok i _ hq
      match t, this with
      | 0, _ => rfl
      | 1, _ => rfl
      | t + 2, this =>
        have e : z = i := this (by omega)
        subst e
        simp [gF, wl, Ne.symm h]
/-- places of numbers among an object's fields bear their own number -/
def gOk (fs : List (Nat × Nat)) : Bool := (List.range fs.length).all fun i => match fs[i]? with
  | some q => q.1 == 0 || q.2 == i
  | none => true
theorem gOk_spec {fs : List (Nat × Nat)} (h : gOk fs = true) : ∀ (i : Nat) (q : Nat × Nat), fs[i]? = some q → q.1 ≠ 0 → q.2 = i := by
  intro i q hq hn
  have hl := (List.getElem?_eq_some_iff.mp hq).1
  have h2 := List.all_eq_true.mp h i (List.mem_range.mpr hl)
  rw [hq] at h2
  have h3 : (q.1 == 0 || q.2 == i) = true := h2
  rw [Bool.or_eq_true] at h3
  rcases h3 with h3 | h3
  · exact absurd (beq_iff_eq.mp h3) hn
  · exact beq_iff_eq.mp h3
theorem vi_lit (i : Int32) (n : Nat) (h : decide (¬ (i < 0 ∨ n ≤ i.toNatClampNeg)) = true) : vp_in i n := of_decide_eq_true (p := ¬ (i < 0 ∨ n ≤ i.toNatClampNeg)) h
theorem vi_lt {i : Int32} {n : Nat} (h : vp_in i n) : i.toNatClampNeg < n := Nat.not_le.mp fun q => h (Or.inr q)
def ushr (x y : Int32) : Int32 := (x.toUInt32 >>> (y.toUInt32 &&& Int32.toUInt32 31)).toInt32
/-- what a method's body may use -/
def Cx (p : Program) (s : State) (m : MethodId) (args : Array Value) (meth : Method) (c : Code) (cc : ByteArray) (nL : Nat) (ret : Option FieldType) (own : String) (D : va_G) (cy : Nat → ClassId) (ad : Nat → Nat) : Prop :=
  p.tables.exec = Jvm.exec ∧ c.code = cc ∧ c.maxLocals = nL ∧ s.vm.findClass own = some m.cls ∧ (∀ w ∈ gw_tbl, w.before args s = true) ∧ meth.sig.returnType = ret ∧ meth.locks = false ∧ va_K D vCl (gT cy) s ∧ gJ ad
/-- what holds of the heap at any point of a body -/
def gI (D : va_G) (cy : Nat → ClassId) (ad : Nat → Nat) (s : State) (M : gM) (H : Heap) (locs : List Loc) : Prop := va_P D vCl (wd cy ad M) H ∧ va_S (gA ad s.heap.size) s.heap H locs
def gP (D : va_G) (cy : Nat → ClassId) (ad : Nat → Nat) (av : List Value) (M : gM) (sz : Nat) : Array Value → State → Prop := va_Pc av (fun U => U.heap.size = sz ∧ va_P D vCl (wd cy ad M) U.heap ∧ va_K D vCl (gT cy) U)
def gB (D : va_G) (cy : Nat → ClassId) (ad : Nat → Nat) : gM → State → Prop := fun M t => va_P D vCl (wd cy ad M) t.heap
theorem gP_blind {D : va_G} {cy : Nat → ClassId} {ad : Nat → Nat} {av : List Value} {M : gM} {sz : Nat} : FrameBlind (gP D cy ad av M sz) := fun a U g mk q => ⟨q.1, q.2.1, q.2.2.1, va_K.moved (u := U) (U := U.calling g mk a) (Vm.Alike.refl U.vm) q.2.2.2⟩
/-- contracts: the method answers r and leaves the numbers M' so that Q r M' -/
def Ci (l : Launch) (y : MethodName) (b : ByteArray) (maxL : Nat) (ret : Option FieldType) (rm : Room) (D : va_G) (cy : Nat → ClassId) (ad : Nat → Nat) (av : List Value) (M : gM) (Q : Int32 → gM → Prop) : Prop := ∀ sz, Met l y (Cond.code y b maxL ret :: gw_tbl) rm (gP D cy ad av M sz) (va_Qi Q (gB D cy ad) (gA ad sz)) 0 0 (gA ad sz)
def Cl (l : Launch) (y : MethodName) (b : ByteArray) (maxL : Nat) (ret : Option FieldType) (rm : Room) (D : va_G) (cy : Nat → ClassId) (ad : Nat → Nat) (av : List Value) (M : gM) (Q : Int64 → gM → Prop) : Prop := ∀ sz, Met l y (Cond.code y b maxL ret :: gw_tbl) rm (gP D cy ad av M sz) (va_Ql Q (gB D cy ad) (gA ad sz)) 0 0 (gA ad sz)
def Cv (l : Launch) (y : MethodName) (b : ByteArray) (maxL : Nat) (ret : Option FieldType) (rm : Room) (D : va_G) (cy : Nat → ClassId) (ad : Nat → Nat) (av : List Value) (M : gM) (Q : gM → Prop) : Prop := ∀ sz, Met l y (Cond.code y b maxL ret :: gw_tbl) rm (gP D cy ad av M sz) (va_Qv Q (gB D cy ad) (gA ad sz)) 0 0 (gA ad sz)
section GW
variable {p : Program} {l : Launch} {e : Env} {R : Room} {s : State} {m : MethodId} {args : Array Value} {below : List Frame} {meth : Method} {c : Code} {H : Heap} {locs : List Loc} {cells slots : Nat} {Q : State → Prop}
variable {cc : ByteArray} {pc nL : Nat} {ls : Array Slot} {rest : List Value} {D : va_G} {cy : Nat → ClassId} {ad : Nat → Nat} {M : gM} {ret : Option FieldType} {own : String}
theorem gw_iald (C : Cx p s m args meth c cc nL ret own D cy ad) (hI : gI D cy ad s M H locs) {k n a d : Nat} (hk : lay k = .inl (0, n, a, d)) {i : Int32} {j : Nat} (hj : i.toNatClampNeg = j) {v : Int32} (hv : M.1 k j = v) (hin : vp_in i n) (hdg : decode cc pc = .ok (.iaload, 1))
    (kk : W p l e R s m args below meth c H locs cells slots Q (F0 m (pc + 1) ls (.int v :: rest))) : W p l e R s m args below meth c H locs cells slots Q (F0 m pc ls (.int i :: .ref (ad k) :: rest)) := by
  subst hj
  subst hv
  obtain ⟨hx, hb, hml, hown, hts, hr, hlk, hK, hja⟩ := C
  exact va_iald hx hb hK hI.1 k 0 (wd_at hk lay_ne_l) rfl hin hdg kk
theorem gw_lald (C : Cx p s m args meth c cc nL ret own D cy ad) (hI : gI D cy ad s M H locs) {k n a d : Nat} (hk : lay k = .inl (1, n, a, d)) {i : Int32} {j : Nat} (hj : i.toNatClampNeg = j) {v : Int64} (hv : M.2 k j = v) (hin : vp_in i n) (hdg : decode cc pc = .ok (.laload, 1))
    (kk : W p l e R s m args below meth c H locs cells slots Q (F0 m (pc + 1) ls (.long v :: rest))) : W p l e R s m args below meth c H locs cells slots Q (F0 m pc ls (.int i :: .ref (ad k) :: rest)) := by
  subst hj
  subst hv
  obtain ⟨hx, hb, hml, hown, hts, hr, hlk, hK, hja⟩ := C
  exact va_lald hx hb hK hI.1 k 1 (wd_at hk lay_ne_l) rfl hin hdg kk
theorem gw_zald (C : Cx p s m args meth c cc nL ret own D cy ad) (hI : gI D cy ad s M H locs) {k n a d : Nat} (hk : lay k = .inl (2, n, a, d)) {i : Int32} {j : Nat} (hj : i.toNatClampNeg = j) {v : Int32} (hv : M.1 k j = v) (hin : vp_in i n) (hdg : decode cc pc = .ok (.baload, 1))
    (kk : W p l e R s m args below meth c H locs cells slots Q (F0 m (pc + 1) ls (.int v :: rest))) : W p l e R s m args below meth c H locs cells slots Q (F0 m pc ls (.int i :: .ref (ad k) :: rest)) := by
  subst hj
  subst hv
  obtain ⟨hx, hb, hml, hown, hts, hr, hlk, hK, hja⟩ := C
  exact va_zald hx hb hK hI.1 k 2 (wd_at hk lay_ne_l) rfl hin hdg kk
theorem gw_aald (C : Cx p s m args meth c cc nL ret own D cy ad) (hI : gI D cy ad s M H locs) {k n t a d : Nat} (hk : lay k = .inl (t + 3, n, a, d)) {ty : FieldType} (ht : (gT cy)[t + 3]? = some (cy (t + 3), ty)) (hty : ty.isReference = true) {i : Int32} {j : Nat} (hj : i.toNatClampNeg = j) {k' : Nat} (hk' : a + d * j = k') (hin : vp_in i n) (hdg : decode cc pc = .ok (.aaload, 1))
    (kk : W p l e R s m args below meth c H locs cells slots Q (F0 m (pc + 1) ls (.ref (ad k') :: rest))) : W p l e R s m args below meth c H locs cells slots Q (F0 m pc ls (.int i :: .ref (ad k) :: rest)) := by
  subst hj
  subst hk'
  obtain ⟨hx, hb, hml, hown, hts, hr, hlk, hK, hja⟩ := C
  have hlt := vi_lt hin
  refine W.aald (v := .ref (ad (a + d * i.toNatClampNeg))) (ty := ty) hx hb (hI.1 k _ (wd_at hk lay_ne_l)) ((hK.2 (t + 3) _ ht).1 n _) hty (fun q => by cases q) ?_ ?_ rfl rfl hdg kk
  · show ¬ (i < 0 ∨ (arrV _ _ _).slots.size ≤ _)
    rw [arrV_size]
    exact hin
  · show (arrV _ _ _).slots[_]? = _
    rw [arrV_read _ _ hlt]
    show some (va_rf (if i.toNatClampNeg < n then some (ad (a + d * i.toNatClampNeg)) else none)) = _
    rw [if_pos hlt]
    rfl
theorem gw_iast (C : Cx p s m args meth c cc nL ret own D cy ad) (hI : gI D cy ad s M H locs) {k n a d : Nat} (hk : lay k = .inl (0, n, a, d)) {i x : Int32} {j : Nat} (hj : i.toNatClampNeg = j) (hin : vp_in i n) (hdg : decode cc pc = .ok (.iastore, 1))
    (kk : ∀ (H1 : Heap) (locs1 : List Loc), gI D cy ad s (wi M k j x) H1 locs1 → W p l e R s m args below meth c H1 locs1 cells slots Q (F0 m (pc + 1) ls rest)) : W p l e R s m args below meth c H locs cells slots Q (F0 m pc ls (.int x :: .int i :: .ref (ad k) :: rest)) := by
  subst hj
  obtain ⟨hx, hb, hml, hown, hts, hr, hlk, hK, hja⟩ := C
  have hset : (wd cy ad M).set k (ad k, .inl (cy 0, n, .inl (upd (M.1 k) i.toNatClampNeg x))) = wd cy ad (wi M k i.toNatClampNeg x) := wd_set (lay_lt hk lay_ne_l) (by rw [hk]; show _ = Sum.inl (cy 0, n, Sum.inl ((wi M k i.toNatClampNeg x).1 k)); rw [wi_1s]) (fun j hj L => gC_congr (wi_1n hj) rfl L)
  exact va_iast hx hb hK hI.1 (gD hja) hI.2 k 0 (wd_at hk lay_ne_l) rfl hin hdg (fun H1 locs1 h1 _ h3 => kk H1 locs1 ⟨by rw [← hset]; exact h1, h3⟩)
theorem gw_last (C : Cx p s m args meth c cc nL ret own D cy ad) (hI : gI D cy ad s M H locs) {k n a d : Nat} (hk : lay k = .inl (1, n, a, d)) {i : Int32} {x : Int64} {j : Nat} (hj : i.toNatClampNeg = j) (hin : vp_in i n) (hdg : decode cc pc = .ok (.lastore, 1))
    (kk : ∀ (H1 : Heap) (locs1 : List Loc), gI D cy ad s (wl M k j x) H1 locs1 → W p l e R s m args below meth c H1 locs1 cells slots Q (F0 m (pc + 1) ls rest)) : W p l e R s m args below meth c H locs cells slots Q (F0 m pc ls (.long x :: .int i :: .ref (ad k) :: rest)) := by
  subst hj
  obtain ⟨hx, hb, hml, hown, hts, hr, hlk, hK, hja⟩ := C
  have hset : (wd cy ad M).set k (ad k, .inl (cy 1, n, .inr (.inl (vp_updL (M.2 k) i.toNatClampNeg x)))) = wd cy ad (wl M k i.toNatClampNeg x) := wd_set (lay_lt hk lay_ne_l) (by rw [hk]; show _ = Sum.inl (cy 1, n, Sum.inr (Sum.inl ((wl M k i.toNatClampNeg x).2 k))); rw [wl_2s]) (fun j hj L => gC_congr (M := M) (M' := wl M k _ x) rfl (wl_2n hj) L)
  exact va_last hx hb hK hI.1 (gD hja) hI.2 k 1 (wd_at hk lay_ne_l) rfl hin hdg (fun H1 locs1 h1 _ h3 => kk H1 locs1 ⟨by rw [← hset]; exact h1, h3⟩)
theorem gw_zast (C : Cx p s m args meth c cc nL ret own D cy ad) (hI : gI D cy ad s M H locs) {k n a d : Nat} (hk : lay k = .inl (2, n, a, d)) {i x : Int32} {j : Nat} (hj : i.toNatClampNeg = j) (hin : vp_in i n) (hdg : decode cc pc = .ok (.bastore, 1))
    (kk : ∀ (H1 : Heap) (locs1 : List Loc), gI D cy ad s (wi M k j (vp_nar .boolean x)) H1 locs1 → W p l e R s m args below meth c H1 locs1 cells slots Q (F0 m (pc + 1) ls rest)) : W p l e R s m args below meth c H locs cells slots Q (F0 m pc ls (.int x :: .int i :: .ref (ad k) :: rest)) := by
  subst hj
  obtain ⟨hx, hb, hml, hown, hts, hr, hlk, hK, hja⟩ := C
  have hset : (wd cy ad M).set k (ad k, .inl (cy 2, n, .inl (upd (M.1 k) i.toNatClampNeg (vp_nar .boolean x)))) = wd cy ad (wi M k i.toNatClampNeg (vp_nar .boolean x)) := wd_set (lay_lt hk lay_ne_l) (by rw [hk]; show _ = Sum.inl (cy 2, n, Sum.inl ((wi M k i.toNatClampNeg (vp_nar .boolean x)).1 k)); rw [wi_1s]) (fun j hj L => gC_congr (wi_1n hj) rfl L)
  exact va_zast hx hb hK hI.1 (gD hja) hI.2 k 2 (wd_at hk lay_ne_l) rfl hin hdg (fun H1 locs1 h1 _ h3 => kk H1 locs1 ⟨by rw [← hset]; exact h1, h3⟩)
theorem gw_get (C : Cx p s m args meth c cc nL ret own D cy ad) (hI : gI D cy ad s M H locs) {k ci : Nat} {fs : List (Nat × Nat)} (hk : lay k = .inr (ci, fs)) {C' : String} {T : u_T} {N : Nat} (hin : ∀ w ∈ u_ws C' T N, w ∈ gw_tbl) (hc : vCl[ci]? = some (C', T, N)) (j : Nat) (hj : j < N) {index : Nat} (hlink : Cond.fieldLink own index (T j).1 (T j).2.1 (T j).2.2.1 ∈ gw_tbl) {q : Nat × Nat} (hq : fs[j]? = some q) {v : Value} (hv : gF ad M k q = v) (hdg : decode cc pc = .ok (.getfield index, 3))
    (kk : W p l e R s m args below meth c H locs cells slots Q (F0 m (pc + 3) ls (v :: rest))) : W p l e R s m args below meth c H locs cells slots Q (F0 m pc ls (.ref (ad k) :: rest)) := by
  obtain ⟨hx, hb, hml, hown, hts, hr, hlk, hK, hja⟩ := C
  exact va_get hx hb hts hin hown hK hI.1 k (wd_at hk (lay_ne_r hc)) hc j hj (hts _ hlink) (fun _ h => h) (by rw [List.getElem?_map, hq]; exact congrArg some hv) hdg kk
theorem gw_puti (C : Cx p s m args meth c cc nL ret own D cy ad) (hI : gI D cy ad s M H locs) {k ci : Nat} {fs : List (Nat × Nat)} (hk : lay k = .inr (ci, fs)) {C' : String} {T : u_T} {N : Nat} (hin : ∀ w ∈ u_ws C' T N, w ∈ gw_tbl) (hc : vCl[ci]? = some (C', T, N)) {ty0 : Nat → FieldType} (hty : ∀ k, k < N → parseFieldDescriptor (T k).2.2.1 = some (ty0 k)) (hnm : ∀ a, a < N → ∀ b, b < N → a ≠ b → (T a).2.1 ≠ (T b).2.1) (j : Nat) (hj : j < N) {index : Nat} (hlink : Cond.fieldLink own index (T j).1 (T j).2.1 (T j).2.2.1 ∈ gw_tbl) (hfin : (T j).2.2.2 = false) (hok : gOk fs = true) (hq : fs[j]? = some (1, j)) {x : Int32} (hn : narrow (ty0 j) (.int x) = .int x) (hf : fits (ty0 j) (.int x) = true) (hdg : decode cc pc = .ok (.putfield index, 3))
    (kk : ∀ (H1 : Heap) (locs1 : List Loc), gI D cy ad s (wi M k j x) H1 locs1 → W p l e R s m args below meth c H1 locs1 cells slots Q (F0 m (pc + 3) ls rest)) : W p l e R s m args below meth c H locs cells slots Q (F0 m pc ls (.int x :: .ref (ad k) :: rest)) := by
  obtain ⟨hx, hb, hml, hown, hts, hr, hlk, hK, hja⟩ := C
  have hset : (wd cy ad M).set k (ad k, .inr (ci, (fs.map (gF ad M k)).set j (.int x))) = wd cy ad (wi M k j x) := wd_set (lay_lt hk (lay_ne_r hc)) (by rw [hk]; show _ = Sum.inr (ci, fs.map (gF ad (wi M k j x) k)); rw [gF_seti (gOk_spec hok) hq]) (fun j hj L => gC_congr (wi_1n hj) rfl L)
  exact va_put hx hb hts hin ty0 hty hnm hown hK hI.1 (gD hja) hI.2 k (wd_at hk (lay_ne_r hc)) hc j hj (hts _ hlink) (fun _ h => h) hfin (hty j hj) hn hf (by rw [List.length_map]; exact (List.getElem?_eq_some_iff.mp hq).1) hdg (fun H1 locs1 h1 _ h3 => kk H1 locs1 ⟨by rw [← hset]; exact h1, h3⟩)
theorem gw_putl (C : Cx p s m args meth c cc nL ret own D cy ad) (hI : gI D cy ad s M H locs) {k ci : Nat} {fs : List (Nat × Nat)} (hk : lay k = .inr (ci, fs)) {C' : String} {T : u_T} {N : Nat} (hin : ∀ w ∈ u_ws C' T N, w ∈ gw_tbl) (hc : vCl[ci]? = some (C', T, N)) {ty0 : Nat → FieldType} (hty : ∀ k, k < N → parseFieldDescriptor (T k).2.2.1 = some (ty0 k)) (hnm : ∀ a, a < N → ∀ b, b < N → a ≠ b → (T a).2.1 ≠ (T b).2.1) (j : Nat) (hj : j < N) {index : Nat} (hlink : Cond.fieldLink own index (T j).1 (T j).2.1 (T j).2.2.1 ∈ gw_tbl) (hfin : (T j).2.2.2 = false) (hok : gOk fs = true) (hq : fs[j]? = some (2, j)) {x : Int64} (hn : narrow (ty0 j) (.long x) = .long x) (hf : fits (ty0 j) (.long x) = true) (hdg : decode cc pc = .ok (.putfield index, 3))
    (kk : ∀ (H1 : Heap) (locs1 : List Loc), gI D cy ad s (wl M k j x) H1 locs1 → W p l e R s m args below meth c H1 locs1 cells slots Q (F0 m (pc + 3) ls rest)) : W p l e R s m args below meth c H locs cells slots Q (F0 m pc ls (.long x :: .ref (ad k) :: rest)) := by
  obtain ⟨hx, hb, hml, hown, hts, hr, hlk, hK, hja⟩ := C
  have hset : (wd cy ad M).set k (ad k, .inr (ci, (fs.map (gF ad M k)).set j (.long x))) = wd cy ad (wl M k j x) := wd_set (lay_lt hk (lay_ne_r hc)) (by rw [hk]; show _ = Sum.inr (ci, fs.map (gF ad (wl M k j x) k)); rw [gF_setl (gOk_spec hok) hq]) (fun j hj L => gC_congr (M := M) (M' := wl M k _ x) rfl (wl_2n hj) L)
  exact va_put hx hb hts hin ty0 hty hnm hown hK hI.1 (gD hja) hI.2 k (wd_at hk (lay_ne_r hc)) hc j hj (hts _ hlink) (fun _ h => h) hfin (hty j hj) hn hf (by rw [List.length_map]; exact (List.getElem?_eq_some_iff.mp hq).1) hdg (fun H1 locs1 h1 _ h3 => kk H1 locs1 ⟨by rw [← hset]; exact h1, h3⟩)
theorem gA_up {sz : Nat} (hI : gI D cy ad s M H locs) : ∀ q, gA ad H.size q → gA ad s.heap.size q := fun q h => h.elim Or.inl (fun h => Or.inr (Nat.le_trans hI.2.1 h))
theorem gGood {w : Cond} (h : w ∈ gw_tbl) : GoodIn gw_tbl (w :: gw_tbl) := fun v hv => by
  rcases List.mem_cons.mp hv with rfl | hv
  · exact ⟨h, gw_good _ h⟩
  · exact ⟨hv, gw_good _ hv⟩
theorem gCB {y : MethodName} {b : ByteArray} {maxL index : Nat} {ret' : Option FieldType} {rm : Room} {n : Nat} (hts : ∀ w ∈ gw_tbl, w.before args s = true) (h0 : rm.cells = 0 ∧ rm.slots = 0) (h1 : Cond.methodLink own index y ∈ gw_tbl) (h4 : Cond.initialized y.cls ∈ gw_tbl) (h5 : Cond.code y b maxL ret' ∈ gw_tbl)
    (hd : y.cls ≠ "java/lang/invoke/MethodHandle" ∧ y.cls ≠ "java/lang/invoke/VarHandle" ∧ (parseMethodDescriptor y.desc).map (fun d => d.parameters.length) = some n) (hR : rm.frames + 1 ≤ R.frames ∧ 8 + (maxL + 11) + rm.locals ≤ R.locals) : CallB R s args own index y b maxL ret' (Cond.code y b maxL ret' :: gw_tbl) rm 0 0 n :=
  callB_of n hts (gGood h5) rfl h0.1 h0.2 (hts _ h4) (hts _ h1) hd hR
end GW
section GW2
variable {p : Program} {l : Launch} {e : Env} {R : Room} {s : State} {m : MethodId} {args : Array Value} {below : List Frame} {meth : Method} {c : Code} {H : Heap} {locs : List Loc} {cells slots : Nat} {Q : State → Prop}
variable {cc : ByteArray} {pc nL : Nat} {ls : Array Slot} {rest : List Value} {D : va_G} {cy : Nat → ClassId} {ad : Nat → Nat} {M : gM} {ret : Option FieldType} {own : String}
theorem gPreV (C : Cx p s m args meth c cc nL ret own D cy ad) (hI : gI D cy ad s M H locs) {k ci N : Nat} {fs : List (Nat × Nat)} {T : u_T} {C' : String} {As : List Value} (hk : lay k = .inr (ci, fs)) (hc : vCl[ci]? = some (C', T, N)) : PreV s H C' (ad k) (gP D cy ad (.ref (ad k) :: As) M H.size) As := by
  obtain ⟨hx, hb, hml, hown, hts, hr, hlk, hK, hja⟩ := C
  exact ⟨gP_blind, va_recv hK hI.1 hc (wd_at hk (lay_ne_r hc)), fun U hU hW => ⟨rfl, by rw [hU], by rw [hU]; exact hI.1, va_K.moved hW.alike hK⟩⟩
theorem gPreS (C : Cx p s m args meth c cc nL ret own D cy ad) (hI : gI D cy ad s M H locs) {As : List Value} : PreS s H (gP D cy ad As M H.size) As := by
  obtain ⟨hx, hb, hml, hown, hts, hr, hlk, hK, hja⟩ := C
  exact ⟨gP_blind, fun U hU hW => ⟨rfl, by rw [hU], by rw [hU]; exact hI.1, va_K.moved hW.alike hK⟩⟩
/-- the words of a call on an object -/
def kV (own : String) (index : Nat) (y : MethodName) (b : ByteArray) (maxL : Nat) (ret : Option FieldType) (n : Nat) : Prop := Cond.methodLink own index y ∈ gw_tbl ∧ Cond.instanceMethod y ∈ gw_tbl ∧ Cond.selects y.cls y y ∈ gw_tbl ∧ Cond.initialized y.cls ∈ gw_tbl ∧ Cond.code y b maxL ret ∈ gw_tbl ∧ (y.cls ≠ "java/lang/invoke/MethodHandle" ∧ y.cls ≠ "java/lang/invoke/VarHandle" ∧ (parseMethodDescriptor y.desc).map (fun d => d.parameters.length) = some n)
def kS (own : String) (index : Nat) (y : MethodName) (b : ByteArray) (maxL : Nat) (ret : Option FieldType) (n : Nat) : Prop := Cond.methodLink own index y ∈ gw_tbl ∧ Cond.static y ∈ gw_tbl ∧ Cond.initialized y.cls ∈ gw_tbl ∧ Cond.code y b maxL ret ∈ gw_tbl ∧ (y.cls ≠ "java/lang/invoke/MethodHandle" ∧ y.cls ≠ "java/lang/invoke/VarHandle" ∧ (parseMethodDescriptor y.desc).map (fun d => d.parameters.length) = some n)
theorem gw_Vi (C : Cx p s m args meth c cc nL ret own D cy ad) (hI : gI D cy ad s M H locs) (hl : ls.size = nL) {k ci N : Nat} {fs : List (Nat × Nat)} {T : u_T} {As : List Value} {y : MethodName} {b : ByteArray} {maxL index n : Nat} {ret' : Option FieldType} {rm : Room} {Q1 : Int32 → gM → Prop}
    (hM : Ci l y b maxL ret' rm D cy ad (.ref (ad k) :: As) M Q1) (hw : kV own index y b maxL ret' n) (hk : lay k = .inr (ci, fs)) (hc : vCl[ci]? = some (y.cls, T, N)) (hn : As.length = n) (h0 : rm.cells = 0 ∧ rm.slots = 0) (hR : rm.frames + 1 ≤ R.frames ∧ 8 + (maxL + 11) + rm.locals ≤ R.locals) {st0 : List Value} (hst : st0 = As.reverse ++ .ref (ad k) :: rest) (hrest : (rest.map fun v => v.category).sum ≤ 8) (hcs : cells ≤ R.cells ∧ slots ≤ R.slots) (hdg : decode cc pc = .ok (.invokevirtual index, 3))
    (kk : ∀ (r : Int32) (M' : gM) (H1 : Heap) (locs1 : List Loc), Q1 r M' → gI D cy ad s M' H1 locs1 → W p l e R s m args below meth c H1 locs1 cells slots Q (F0 m (pc + 3) ls (.int r :: rest))) : W p l e R s m args below meth c H locs cells slots Q (F0 m pc ls st0) := by
  have hp := gPreV (As := As) C hI hk hc
  obtain ⟨hx, hb, hml, hown, hts, hr, hlk, hK, hja⟩ := C
  obtain ⟨h1, h2, h3, h4, h5, hd⟩ := hw
  exact va_calli (va_runV (Ts := gw_tbl) (nL := nL) ⟨hx, hb, hml, hown, hts⟩ (hM H.size) ⟨gCB hts h0 h1 h4 h5 hd hR, hts _ h2, hts _ h3⟩ hp rfl hn hl hst (lv_room hrest) hdg hcs) hI.2 (fun q _ h => gA_up (sz := 0) hI q h) (gA_up (sz := 0) hI) (fun r u t H1 locs1 ht hvm hq hB hz hkk hS => kk r u H1 locs1 hq ⟨by rw [← ht]; exact hB, hS⟩)
theorem gw_Vl (C : Cx p s m args meth c cc nL ret own D cy ad) (hI : gI D cy ad s M H locs) (hl : ls.size = nL) {k ci N : Nat} {fs : List (Nat × Nat)} {T : u_T} {As : List Value} {y : MethodName} {b : ByteArray} {maxL index n : Nat} {ret' : Option FieldType} {rm : Room} {Q1 : Int64 → gM → Prop}
    (hM : Cl l y b maxL ret' rm D cy ad (.ref (ad k) :: As) M Q1) (hw : kV own index y b maxL ret' n) (hk : lay k = .inr (ci, fs)) (hc : vCl[ci]? = some (y.cls, T, N)) (hn : As.length = n) (h0 : rm.cells = 0 ∧ rm.slots = 0) (hR : rm.frames + 1 ≤ R.frames ∧ 8 + (maxL + 11) + rm.locals ≤ R.locals) {st0 : List Value} (hst : st0 = As.reverse ++ .ref (ad k) :: rest) (hrest : (rest.map fun v => v.category).sum ≤ 8) (hcs : cells ≤ R.cells ∧ slots ≤ R.slots) (hdg : decode cc pc = .ok (.invokevirtual index, 3))
    (kk : ∀ (r : Int64) (M' : gM) (H1 : Heap) (locs1 : List Loc), Q1 r M' → gI D cy ad s M' H1 locs1 → W p l e R s m args below meth c H1 locs1 cells slots Q (F0 m (pc + 3) ls (.long r :: rest))) : W p l e R s m args below meth c H locs cells slots Q (F0 m pc ls st0) := by
  have hp := gPreV (As := As) C hI hk hc
  obtain ⟨hx, hb, hml, hown, hts, hr, hlk, hK, hja⟩ := C
  obtain ⟨h1, h2, h3, h4, h5, hd⟩ := hw
  exact va_calll (va_runV (Ts := gw_tbl) (nL := nL) ⟨hx, hb, hml, hown, hts⟩ (hM H.size) ⟨gCB hts h0 h1 h4 h5 hd hR, hts _ h2, hts _ h3⟩ hp rfl hn hl hst (lv_room hrest) hdg hcs) hI.2 (fun q _ h => gA_up (sz := 0) hI q h) (gA_up (sz := 0) hI) (fun r u t H1 locs1 ht hvm hq hB hz hkk hS => kk r u H1 locs1 hq ⟨by rw [← ht]; exact hB, hS⟩)
theorem gw_Vv (C : Cx p s m args meth c cc nL ret own D cy ad) (hI : gI D cy ad s M H locs) (hl : ls.size = nL) {k ci N : Nat} {fs : List (Nat × Nat)} {T : u_T} {As : List Value} {y : MethodName} {b : ByteArray} {maxL index n : Nat} {ret' : Option FieldType} {rm : Room} {Q1 : gM → Prop}
    (hM : Cv l y b maxL ret' rm D cy ad (.ref (ad k) :: As) M Q1) (hw : kV own index y b maxL ret' n) (hk : lay k = .inr (ci, fs)) (hc : vCl[ci]? = some (y.cls, T, N)) (hn : As.length = n) (h0 : rm.cells = 0 ∧ rm.slots = 0) (hR : rm.frames + 1 ≤ R.frames ∧ 8 + (maxL + 11) + rm.locals ≤ R.locals) {st0 : List Value} (hst : st0 = As.reverse ++ .ref (ad k) :: rest) (hrest : (rest.map fun v => v.category).sum ≤ 8) (hcs : cells ≤ R.cells ∧ slots ≤ R.slots) (hdg : decode cc pc = .ok (.invokevirtual index, 3))
    (kk : ∀ (M' : gM) (H1 : Heap) (locs1 : List Loc), Q1 M' → gI D cy ad s M' H1 locs1 → W p l e R s m args below meth c H1 locs1 cells slots Q (F0 m (pc + 3) ls rest)) : W p l e R s m args below meth c H locs cells slots Q (F0 m pc ls st0) := by
  have hp := gPreV (As := As) C hI hk hc
  obtain ⟨hx, hb, hml, hown, hts, hr, hlk, hK, hja⟩ := C
  obtain ⟨h1, h2, h3, h4, h5, hd⟩ := hw
  exact va_callv (va_runV (Ts := gw_tbl) (nL := nL) ⟨hx, hb, hml, hown, hts⟩ (hM H.size) ⟨gCB hts h0 h1 h4 h5 hd hR, hts _ h2, hts _ h3⟩ hp rfl hn hl hst (lv_room hrest) hdg hcs) hI.2 (fun q _ h => gA_up (sz := 0) hI q h) (gA_up (sz := 0) hI) (fun u t H1 locs1 ht hvm hq hB hz hkk hS => kk u H1 locs1 hq ⟨by rw [← ht]; exact hB, hS⟩)
theorem gw_Si (C : Cx p s m args meth c cc nL ret own D cy ad) (hI : gI D cy ad s M H locs) (hl : ls.size = nL) {As : List Value} {y : MethodName} {b : ByteArray} {maxL index n : Nat} {ret' : Option FieldType} {rm : Room} {Q1 : Int32 → gM → Prop}
    (hM : Ci l y b maxL ret' rm D cy ad As M Q1) (hw : kS own index y b maxL ret' n) (hn : As.length = n) (h0 : rm.cells = 0 ∧ rm.slots = 0) (hR : rm.frames + 1 ≤ R.frames ∧ 8 + (maxL + 11) + rm.locals ≤ R.locals) {st0 : List Value} (hst : st0 = As.reverse ++ rest) (hrest : (rest.map fun v => v.category).sum ≤ 8) (hcs : cells ≤ R.cells ∧ slots ≤ R.slots) (hdg : decode cc pc = .ok (.invokestatic index, 3))
    (kk : ∀ (r : Int32) (M' : gM) (H1 : Heap) (locs1 : List Loc), Q1 r M' → gI D cy ad s M' H1 locs1 → W p l e R s m args below meth c H1 locs1 cells slots Q (F0 m (pc + 3) ls (.int r :: rest))) : W p l e R s m args below meth c H locs cells slots Q (F0 m pc ls st0) := by
  have hp := gPreS (As := As) C hI
  obtain ⟨hx, hb, hml, hown, hts, hr, hlk, hK, hja⟩ := C
  obtain ⟨h1, h2, h4, h5, hd⟩ := hw
  exact va_calli (va_runS (Ts := gw_tbl) (nL := nL) ⟨hx, hb, hml, hown, hts⟩ (hM H.size) ⟨gCB hts h0 h1 h4 h5 hd hR, hts _ h2⟩ hp rfl hn hl hst (lv_room hrest) hdg hcs) hI.2 (fun q _ h => gA_up (sz := 0) hI q h) (gA_up (sz := 0) hI) (fun r u t H1 locs1 ht hvm hq hB hz hkk hS => kk r u H1 locs1 hq ⟨by rw [← ht]; exact hB, hS⟩)
theorem gw_Sl (C : Cx p s m args meth c cc nL ret own D cy ad) (hI : gI D cy ad s M H locs) (hl : ls.size = nL) {As : List Value} {y : MethodName} {b : ByteArray} {maxL index n : Nat} {ret' : Option FieldType} {rm : Room} {Q1 : Int64 → gM → Prop}
    (hM : Cl l y b maxL ret' rm D cy ad As M Q1) (hw : kS own index y b maxL ret' n) (hn : As.length = n) (h0 : rm.cells = 0 ∧ rm.slots = 0) (hR : rm.frames + 1 ≤ R.frames ∧ 8 + (maxL + 11) + rm.locals ≤ R.locals) {st0 : List Value} (hst : st0 = As.reverse ++ rest) (hrest : (rest.map fun v => v.category).sum ≤ 8) (hcs : cells ≤ R.cells ∧ slots ≤ R.slots) (hdg : decode cc pc = .ok (.invokestatic index, 3))
    (kk : ∀ (r : Int64) (M' : gM) (H1 : Heap) (locs1 : List Loc), Q1 r M' → gI D cy ad s M' H1 locs1 → W p l e R s m args below meth c H1 locs1 cells slots Q (F0 m (pc + 3) ls (.long r :: rest))) : W p l e R s m args below meth c H locs cells slots Q (F0 m pc ls st0) := by
  have hp := gPreS (As := As) C hI
  obtain ⟨hx, hb, hml, hown, hts, hr, hlk, hK, hja⟩ := C
  obtain ⟨h1, h2, h4, h5, hd⟩ := hw
  exact va_calll (va_runS (Ts := gw_tbl) (nL := nL) ⟨hx, hb, hml, hown, hts⟩ (hM H.size) ⟨gCB hts h0 h1 h4 h5 hd hR, hts _ h2⟩ hp rfl hn hl hst (lv_room hrest) hdg hcs) hI.2 (fun q _ h => gA_up (sz := 0) hI q h) (gA_up (sz := 0) hI) (fun r u t H1 locs1 ht hvm hq hB hz hkk hS => kk r u H1 locs1 hq ⟨by rw [← ht]; exact hB, hS⟩)
theorem gr_i (C : Cx p s m args meth c cc nL (some .int) own D cy ad) (hI : gI D cy ad s M H locs) {Qr : Int32 → gM → Prop} {v : Int32} (hq : Qr v M) (hdg : decode cc pc = .ok (.ireturn, 1)) : W p l e R s m args below meth c H locs cells slots (MQ below (va_Qi Qr (gB D cy ad) (gA ad s.heap.size)) args s cells slots (gA ad s.heap.size)) (F0 m pc ls [.int v]) := by
  obtain ⟨hx, hb, hml, hown, hts, hr, hlk, hK, hja⟩ := C
  exact W.iret hx hb hr (fun t ht hW => ⟨⟨v, M, rfl, hq, by unfold gB; rw [ht]; exact hI.1⟩, hI.2.F ht⟩) hI.2.2.2 hdg hlk
theorem gr_z (C : Cx p s m args meth c cc nL (some .boolean) own D cy ad) (hI : gI D cy ad s M H locs) {Qr : Int32 → gM → Prop} {v : Int32} (hn : narrow .boolean (.int v) = .int v) (hq : Qr v M) (hdg : decode cc pc = .ok (.ireturn, 1)) : W p l e R s m args below meth c H locs cells slots (MQ below (va_Qi Qr (gB D cy ad) (gA ad s.heap.size)) args s cells slots (gA ad s.heap.size)) (F0 m pc ls [.int v]) := by
  obtain ⟨hx, hb, hml, hown, hts, hr, hlk, hK, hja⟩ := C
  exact W.zret hx hb hr hn (fun t ht hW => ⟨⟨v, M, rfl, hq, by unfold gB; rw [ht]; exact hI.1⟩, hI.2.F ht⟩) hI.2.2.2 hdg hlk
theorem gr_l (C : Cx p s m args meth c cc nL (some .long) own D cy ad) (hI : gI D cy ad s M H locs) {Qr : Int64 → gM → Prop} {v : Int64} (hq : Qr v M) (hdg : decode cc pc = .ok (.lreturn, 1)) : W p l e R s m args below meth c H locs cells slots (MQ below (va_Ql Qr (gB D cy ad) (gA ad s.heap.size)) args s cells slots (gA ad s.heap.size)) (F0 m pc ls [.long v]) := by
  obtain ⟨hx, hb, hml, hown, hts, hr, hlk, hK, hja⟩ := C
  exact W.lret hx hb hr (fun t ht hW => ⟨⟨v, M, rfl, hq, by unfold gB; rw [ht]; exact hI.1⟩, hI.2.F ht⟩) hI.2.2.2 hdg hlk
theorem gr_v (C : Cx p s m args meth c cc nL none own D cy ad) (hI : gI D cy ad s M H locs) {Qr : gM → Prop} (hq : Qr M) (hdg : decode cc pc = .ok (.return_, 1)) : W p l e R s m args below meth c H locs cells slots (MQ below (va_Qv Qr (gB D cy ad) (gA ad s.heap.size)) args s cells slots (gA ad s.heap.size)) (F0 m pc ls []) := by
  obtain ⟨hx, hb, hml, hown, hts, hr, hlk, hK, hja⟩ := C
  exact W.vret hx hb hr (fun t ht hW => ⟨⟨M, rfl, hq, by unfold gB; rw [ht]; exact hI.1⟩, hI.2.F ht⟩) hI.2.2.2 hdg hlk
/-- a contract out of a walk, for a method that no table of natives replaces -/
theorem gOfW {y : MethodName} {ws ws' : List Cond} {rm : Room} {Pc : Array Value → State → Prop} {Qc : Array Value → State → Outcome → State → Prop} {free : Addr → Prop} {maxL : Nat}
    (hy : plainFor y = true) (hw : ws = Cond.code y cc maxL ret :: ws')
    (body : ∀ p e s m args below meth c s₁, BodyLoose p l y (headSpec ws rm) cc maxL ret e s m args below meth c s₁ → c.maxLocals = maxL → Pc args s →
      W p l e (headSpec ws rm).room s m args below meth c s.heap [] 0 0 (MQ below Qc args s 0 0 free) (entryFrame m args maxL)) : Met l y ws rm Pc Qc 0 0 free := by
  refine MetFree.of_bodySF (code := cc) (maxLocals := maxL) (ret := ret) hy ?_ ?_
  · intro args s m h hn
    obtain ⟨meth, c, h1, h2, h3, h4, h5, h6, -, -⟩ := Cond.code_spec hn (atoms_spec (ws := ws) h _ (by rw [hw]; exact List.mem_cons_self))
    exact ⟨meth, c, h1, h2, h3, h4, h5, h6⟩
  · intro p e s m args below meth c s₁ B hml hP _
    have hh0 : s₁.heap = s.heap := by rw [B.state]; rfl
    obtain ⟨t, a1, o, b1, b2, b3⟩ := body p e s m args below meth c s₁ B hml hP s₁ hh0 (Stand.of_body B)
    exact ⟨t, o, a1, b1, b2, ⟨b3.1, b3.2⟩⟩
/-- a contract out of the walk of the body -/
theorem gm {y : MethodName} {maxL : Nat} {rm : Room} {av : List Value} {Qc : Nat → Array Value → State → Outcome → State → Prop} (hy : plainFor y = true) (hj : gJ ad) (hlen : (lg_sl av).length ≤ maxL)
    (body : ∀ (p : Program) (e : Env) (s : State) (m : MethodId) (args : Array Value) (below : List Frame) (meth : Method) (c : Code) (ls : Array Slot), Cx p s m args meth c cc maxL ret y.cls D cy ad → lv_has ls maxL (lv_args 0 av) → gI D cy ad s M s.heap [] → W p l e rm s m args below meth c s.heap [] 0 0 (MQ below (Qc s.heap.size) args s 0 0 (gA ad s.heap.size)) (F0 m 0 ls [])) : ∀ sz, Met l y (Cond.code y cc maxL ret :: gw_tbl) rm (gP D cy ad av M sz) (Qc sz) 0 0 (gA ad sz) := by
  intro sz
  refine gOfW (cc := cc) (maxL := maxL) (ret := ret) hy rfl ?_
  intro p e s m args below meth c s₁ B hml hv
  obtain ⟨rfl, hsz, hP, hK⟩ := hv
  have hts := atoms_spec (ws := Cond.code y cc maxL ret :: gw_tbl) B.pre
  subst hsz
  rw [lg_entry_eq]
  exact body p e s m _ below meth c _ ⟨B.exec, B.bytes, hml, findClass_of_methodNamed B.named, fun w hw => hts w (List.mem_cons_of_mem _ hw), B.returns, B.notSynchronized, hK, hj⟩ (lv_entry av hlen) ⟨hP, va_S.rf⟩
theorem gl_ge (C : Cx p s m args meth c cc nL ret own D cy ad) {x y : Int64} {off : Int} {tgt : Nat} (h1 : decode cc pc = .ok (.lcmp, 1)) (h2 : decode cc (pc + 1) = .ok (.ifCond .ge off, 3)) (ht : ((pc + 1 : Nat) : Int) + off = (tgt : Int)) (kt : y ≤ x → W p l e R s m args below meth c H locs cells slots Q (F0 m tgt ls rest)) (kf : ¬ y ≤ x → W p l e R s m args below meth c H locs cells slots Q (F0 m (pc + 1 + 3) ls rest)) : W p l e R s m args below meth c H locs cells slots Q (F0 m pc ls (.long y :: .long x :: rest)) :=
  W.lcmp C.1 C.2.1 h1 (lv_if_ge C.1 C.2.1 h2 ht (fun h => kt ((lg_cmp_ge x y).mp h)) (fun h => kf (fun q => h ((lg_cmp_ge x y).mpr q))))
theorem gl_gt (C : Cx p s m args meth c cc nL ret own D cy ad) {x y : Int64} {off : Int} {tgt : Nat} (h1 : decode cc pc = .ok (.lcmp, 1)) (h2 : decode cc (pc + 1) = .ok (.ifCond .gt off, 3)) (ht : ((pc + 1 : Nat) : Int) + off = (tgt : Int)) (kt : y < x → W p l e R s m args below meth c H locs cells slots Q (F0 m tgt ls rest)) (kf : ¬ y < x → W p l e R s m args below meth c H locs cells slots Q (F0 m (pc + 1 + 3) ls rest)) : W p l e R s m args below meth c H locs cells slots Q (F0 m pc ls (.long y :: .long x :: rest)) :=
  W.lcmp C.1 C.2.1 h1 (lv_if_gt C.1 C.2.1 h2 ht (fun h => kt ((lg_cmp_gt x y).mp h)) (fun h => kf (fun q => h ((lg_cmp_gt x y).mpr q))))
theorem gl_le (C : Cx p s m args meth c cc nL ret own D cy ad) {x y : Int64} {off : Int} {tgt : Nat} (h1 : decode cc pc = .ok (.lcmp, 1)) (h2 : decode cc (pc + 1) = .ok (.ifCond .le off, 3)) (ht : ((pc + 1 : Nat) : Int) + off = (tgt : Int)) (kt : x ≤ y → W p l e R s m args below meth c H locs cells slots Q (F0 m tgt ls rest)) (kf : ¬ x ≤ y → W p l e R s m args below meth c H locs cells slots Q (F0 m (pc + 1 + 3) ls rest)) : W p l e R s m args below meth c H locs cells slots Q (F0 m pc ls (.long y :: .long x :: rest)) :=
  W.lcmp C.1 C.2.1 h1 (lv_if_le C.1 C.2.1 h2 ht (fun h => kt ((lg_cmp_le x y).mp h)) (fun h => kf (fun q => h ((lg_cmp_le x y).mpr q))))
theorem gl_lt (C : Cx p s m args meth c cc nL ret own D cy ad) {x y : Int64} {off : Int} {tgt : Nat} (h1 : decode cc pc = .ok (.lcmp, 1)) (h2 : decode cc (pc + 1) = .ok (.ifCond .lt off, 3)) (ht : ((pc + 1 : Nat) : Int) + off = (tgt : Int)) (kt : x < y → W p l e R s m args below meth c H locs cells slots Q (F0 m tgt ls rest)) (kf : ¬ x < y → W p l e R s m args below meth c H locs cells slots Q (F0 m (pc + 1 + 3) ls rest)) : W p l e R s m args below meth c H locs cells slots Q (F0 m pc ls (.long y :: .long x :: rest)) :=
  W.lcmp C.1 C.2.1 h1 (lv_if_lt C.1 C.2.1 h2 ht (fun h => kt ((lg_cmp_lt x y).mp h)) (fun h => kf (fun q => h ((lg_cmp_lt x y).mpr q))))
theorem gl_eq (C : Cx p s m args meth c cc nL ret own D cy ad) {x y : Int64} {off : Int} {tgt : Nat} (h1 : decode cc pc = .ok (.lcmp, 1)) (h2 : decode cc (pc + 1) = .ok (.ifCond .eq off, 3)) (ht : ((pc + 1 : Nat) : Int) + off = (tgt : Int)) (kt : x = y → W p l e R s m args below meth c H locs cells slots Q (F0 m tgt ls rest)) (kf : ¬ x = y → W p l e R s m args below meth c H locs cells slots Q (F0 m (pc + 1 + 3) ls rest)) : W p l e R s m args below meth c H locs cells slots Q (F0 m pc ls (.long y :: .long x :: rest)) :=
  W.lcmp C.1 C.2.1 h1 (lv_if_eq C.1 C.2.1 h2 ht (fun h => kt ((lg_cmp_eq x y).mp h)) (fun h => kf (fun q => h ((lg_cmp_eq x y).mpr q))))
theorem gl_ne (C : Cx p s m args meth c cc nL ret own D cy ad) {x y : Int64} {off : Int} {tgt : Nat} (h1 : decode cc pc = .ok (.lcmp, 1)) (h2 : decode cc (pc + 1) = .ok (.ifCond .ne off, 3)) (ht : ((pc + 1 : Nat) : Int) + off = (tgt : Int)) (kt : ¬ x = y → W p l e R s m args below meth c H locs cells slots Q (F0 m tgt ls rest)) (kf : x = y → W p l e R s m args below meth c H locs cells slots Q (F0 m (pc + 1 + 3) ls rest)) : W p l e R s m args below meth c H locs cells slots Q (F0 m pc ls (.long y :: .long x :: rest)) :=
  W.lcmp C.1 C.2.1 h1 (lv_if_ne C.1 C.2.1 h2 ht (fun h => kt (fun q => h ((lg_cmp_eq x y).mpr q))) (fun h => kf ((lg_cmp_eq x y).mp h)))
theorem gw_copy (C : Cx p s m args meth c cc nL ret own D cy ad) (hI : gI D cy ad s M H locs) (hl : ls.size = nL) {index k0 k1 n0 n1 a0 d0 a1 d1 : Nat} (h1 : Cond.methodLink own index arraycopyName ∈ gw_tbl) (h2 : Cond.native arraycopyName ∈ gw_tbl) (h3 : Cond.static arraycopyName ∈ gw_tbl) (h4 : Cond.initialized "java/lang/System" ∈ gw_tbl) (hk0 : lay k0 = .inl (0, n0, a0, d0)) (hk1 : lay k1 = .inl (0, n1, a1, d1))
    {sp dp n : Int32} {sp' dp' n' : Nat} (e1 : sp.toNatClampNeg = sp') (e2 : dp.toNatClampNeg = dp') (e3 : n.toNatClampNeg = n') (g1 : ¬ sp < 0) (g2 : ¬ dp < 0) (g3 : ¬ n < 0) (g4 : sp' + n' ≤ n0) (g5 : dp' + n' ≤ n1) (hframes : 1 ≤ R.frames) (hlocals : (rest.map fun v => v.category).sum + (nativeFrameWords "java/lang/System" "arraycopy" 5 + 11) ≤ R.locals) (hdg : decode cc pc = .ok (.invokestatic index, 3))
    (kk : ∀ (H1 : Heap) (locs1 : List Loc), gI D cy ad s (wc M k0 k1 sp' dp' n') H1 locs1 → W p l e R s m args below meth c H1 locs1 cells slots Q (F0 m (pc + 3) ls rest)) : W p l e R s m args below meth c H locs cells slots Q (F0 m pc ls (.int n :: .int dp :: .ref (ad k1) :: .int sp :: .ref (ad k0) :: rest)) := by
  subst e1; subst e2; subst e3
  obtain ⟨hx, hb, hml, hown, hts, hr, hlk, hK, hja⟩ := C
  have hset : (wd cy ad M).set k1 (ad k1, .inl (cy 0, n1, .inl (va_cpy (M.1 k0) (M.1 k1) sp.toNatClampNeg dp.toNatClampNeg n.toNatClampNeg))) = wd cy ad (wc M k0 k1 sp.toNatClampNeg dp.toNatClampNeg n.toNatClampNeg) := wd_set (lay_lt hk1 lay_ne_l) (by rw [hk1]; show _ = Sum.inl (cy 0, n1, Sum.inl ((wc M k0 k1 sp.toNatClampNeg dp.toNatClampNeg n.toNatClampNeg).1 k1)); rw [wc_1s]) (fun j hj L => gC_congr (wc_1n hj) rfl L)
  exact va_copyi (ty := .int) hx hb (hml.trans hl.symm) hown (hts _ h1) (hts _ h2) (hts _ h3) (hts _ h4) hK hI.1 (gD hja) hI.2 k0 k1 0 0 (wd_at hk0 lay_ne_l) (wd_at hk1 lay_ne_l) rfl rfl rfl g1 g2 g3 g4 g5 (fun i _ => rfl) hframes hlocals hdg (fun H1 locs1 q1 _ q3 => kk H1 locs1 ⟨by rw [← hset]; exact q1, q3⟩)
end GW2
def c_LOWEST : Nat → Int32 := fun k => ([1, 1, 0, 1, 0, 0, 1, 1, 0, -100, -2147483648, -1, -1, -1, -1] : List Int32).getD k 0
def c_HIGHEST : Nat → Int32 := fun k => ([4, 20, 1000, 256, 12, 1000000, 256, 256, 12, 100, 2147483647, 1, 1, 1, 1] : List Int32).getD k 0
def gS (ad : Nat → Nat) (tl th : Nat) (U : State) : Prop := va_Z "BoostForests" "LOWEST" "[I" (.ref tl) (gA ad U.heap.size) U U.heap ∧ va_T .int tl 15 (fun k => .int (c_LOWEST k)) (gA ad U.heap.size) U U.heap ∧ va_Z "BoostForests" "HIGHEST" "[I" (.ref th) (gA ad U.heap.size) U U.heap ∧ va_T .int th 15 (fun k => .int (c_HIGHEST k)) (gA ad U.heap.size) U U.heap
def gPS (D : va_G) (cy : Nat → ClassId) (ad : Nat → Nat) (tl th : Nat) (av : List Value) (M : gM) (sz : Nat) : Array Value → State → Prop := va_Pc av (fun U => U.heap.size = sz ∧ va_P D vCl (wd cy ad M) U.heap ∧ va_K D vCl (gT cy) U ∧ gS ad tl th U)
theorem gPS_blind {D : va_G} {cy : Nat → ClassId} {ad : Nat → Nat} {tl th : Nat} {av : List Value} {M : gM} {sz : Nat} : FrameBlind (gPS D cy ad tl th av M sz) := fun a U g mk q => ⟨q.1, q.2.1, q.2.2.1, va_K.moved (u := U) (U := U.calling g mk a) (Vm.Alike.refl U.vm) q.2.2.2.1, va_Z.moved (u := U) (U := U.calling g mk a) (Vm.Alike.refl U.vm) q.2.2.2.2.1, va_T.moved (u := U) (U := U.calling g mk a) (Vm.Alike.refl U.vm) q.2.2.2.2.2.1, va_Z.moved (u := U) (U := U.calling g mk a) (Vm.Alike.refl U.vm) q.2.2.2.2.2.2.1, va_T.moved (u := U) (U := U.calling g mk a) (Vm.Alike.refl U.vm) q.2.2.2.2.2.2.2⟩
def CiS (l : Launch) (y : MethodName) (b : ByteArray) (maxL : Nat) (ret : Option FieldType) (rm : Room) (D : va_G) (cy : Nat → ClassId) (ad : Nat → Nat) (tl th : Nat) (av : List Value) (M : gM) (Q : Int32 → gM → Prop) : Prop := ∀ sz, Met l y (Cond.code y b maxL ret :: gw_tbl) rm (gPS D cy ad tl th av M sz) (va_Qi Q (gB D cy ad) (gA ad sz)) 0 0 (gA ad sz)
section GW3
variable {p : Program} {l : Launch} {e : Env} {R : Room} {s : State} {m : MethodId} {args : Array Value} {below : List Frame} {meth : Method} {c : Code} {H : Heap} {locs : List Loc} {cells slots : Nat} {Q : State → Prop}
variable {cc : ByteArray} {pc nL : Nat} {ls : Array Slot} {rest : List Value} {D : va_G} {cy : Nat → ClassId} {ad : Nat → Nat} {M : gM} {ret : Option FieldType} {own : String}
theorem gmS {y : MethodName} {maxL tl th : Nat} {rm : Room} {av : List Value} {Qc : Nat → Array Value → State → Outcome → State → Prop} (hy : plainFor y = true) (hj : gJ ad) (hlen : (lg_sl av).length ≤ maxL)
    (body : ∀ (p : Program) (e : Env) (s : State) (m : MethodId) (args : Array Value) (below : List Frame) (meth : Method) (c : Code) (ls : Array Slot), Cx p s m args meth c cc maxL ret y.cls D cy ad → lv_has ls maxL (lv_args 0 av) → gI D cy ad s M s.heap [] → gS ad tl th s → W p l e rm s m args below meth c s.heap [] 0 0 (MQ below (Qc s.heap.size) args s 0 0 (gA ad s.heap.size)) (F0 m 0 ls [])) : ∀ sz, Met l y (Cond.code y cc maxL ret :: gw_tbl) rm (gPS D cy ad tl th av M sz) (Qc sz) 0 0 (gA ad sz) := by
  intro sz
  refine gOfW (cc := cc) (maxL := maxL) (ret := ret) hy rfl ?_
  intro p e s m args below meth c s₁ B hml hv
  obtain ⟨rfl, hsz, hP, hK, hS⟩ := hv
  have hts := atoms_spec (ws := Cond.code y cc maxL ret :: gw_tbl) B.pre
  subst hsz
  rw [lg_entry_eq]
  exact body p e s m _ below meth c _ ⟨B.exec, B.bytes, hml, findClass_of_methodNamed B.named, fun w hw => hts w (List.mem_cons_of_mem _ hw), B.returns, B.notSynchronized, hK, hj⟩ (lv_entry av hlen) ⟨hP, va_S.rf⟩ hS
theorem gw_VS (C : Cx p s m args meth c cc nL ret own D cy ad) (hI : gI D cy ad s M H locs) (hl : ls.size = nL) {tl th : Nat} (z1 : va_Z "BoostForests" "LOWEST" "[I" (.ref tl) (gA ad s.heap.size) s s.heap) (z2 : va_T .int tl 15 (fun k => .int (c_LOWEST k)) (gA ad s.heap.size) s s.heap) (z3 : va_Z "BoostForests" "HIGHEST" "[I" (.ref th) (gA ad s.heap.size) s s.heap) (z4 : va_T .int th 15 (fun k => .int (c_HIGHEST k)) (gA ad s.heap.size) s s.heap) {k ci N : Nat} {fs : List (Nat × Nat)} {T : u_T} {As : List Value} {y : MethodName} {b : ByteArray} {maxL index n : Nat} {ret' : Option FieldType} {rm : Room} {Q1 : Int32 → gM → Prop}
    (hM : CiS l y b maxL ret' rm D cy ad tl th (.ref (ad k) :: As) M Q1) (hw : kV own index y b maxL ret' n) (hk : lay k = .inr (ci, fs)) (hc : vCl[ci]? = some (y.cls, T, N)) (hn : As.length = n) (h0 : rm.cells = 0 ∧ rm.slots = 0) (hR : rm.frames + 1 ≤ R.frames ∧ 8 + (maxL + 11) + rm.locals ≤ R.locals) {st0 : List Value} (hst : st0 = As.reverse ++ .ref (ad k) :: rest) (hrest : (rest.map fun v => v.category).sum ≤ 8) (hcs : cells ≤ R.cells ∧ slots ≤ R.slots) (hdg : decode cc pc = .ok (.invokevirtual index, 3))
    (kk : ∀ (r : Int32) (M' : gM) (H1 : Heap) (locs1 : List Loc), Q1 r M' → gI D cy ad s M' H1 locs1 → W p l e R s m args below meth c H1 locs1 cells slots Q (F0 m (pc + 3) ls (.int r :: rest))) : W p l e R s m args below meth c H locs cells slots Q (F0 m pc ls st0) := by
  obtain ⟨hx, hb, hml, hown, hts, hr, hlk, hK, hja⟩ := C
  obtain ⟨h1, h2, h3, h4, h5, hd⟩ := hw
  have up := gA_up (sz := 0) hI
  have hp : PreV s H y.cls (ad k) (gPS D cy ad tl th (.ref (ad k) :: As) M H.size) As := ⟨gPS_blind, va_recv hK hI.1 hc (wd_at hk (lay_ne_r hc)), fun U hU hW => ⟨rfl, by rw [hU], by rw [hU]; exact hI.1, va_K.moved hW.alike hK, by
    unfold gS
    rw [hU]
    exact ⟨((z1.kept hI.2.2.1).moved hW.alike).narrow up, ((z2.kept hI.2.2.1).moved hW.alike).narrow up, ((z3.kept hI.2.2.1).moved hW.alike).narrow up, ((z4.kept hI.2.2.1).moved hW.alike).narrow up⟩⟩⟩
  exact va_calli (va_runV (Ts := gw_tbl) (nL := nL) ⟨hx, hb, hml, hown, hts⟩ (hM H.size) ⟨gCB hts h0 h1 h4 h5 hd hR, hts _ h2, hts _ h3⟩ hp rfl hn hl hst (lv_room hrest) hdg hcs) hI.2 (fun q _ h => up q h) up (fun r u t H1 locs1 ht hvm hq hB hz hkk hS => kk r u H1 locs1 hq ⟨by rw [← ht]; exact hB, hS⟩)
end GW3

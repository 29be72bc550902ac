abbrev gL : Type := (Nat × Nat × Nat × Nat) ⊕ (Nat × List (Nat × Nat))
def layTB (b o : Nat) : gL := if o = 0 then .inr (1, [(0, b + 1), (0, b + 42), (0, b + 43), (0, b + 44), (1, 4)]) else if o = 1 then .inl (4, 40, b + 2, 1) else if o < 42 then .inl (0, 4, 0, 0) else if o < 44 then .inl (0, 40, 0, 0) else .inl (2, 40, 0, 0)
def layTR (b o : Nat) : gL := if o = 0 then .inr (6, [(0, b + 1), (0, b + 9), (1, 2)]) else if o = 1 then .inl (4, 7, b + 2, 1) else if o < 9 then .inl (0, 31, 0, 0) else if o = 9 then .inl (5, 3, b + 10, 1) else .inl (1, 31, 0, 0)
def layMD (k : Nat) : gL := if k = 274 then .inl (0, 160, 0, 0) else if k = 275 then .inl (0, 40, 0, 0) else if k = 276 then .inl (0, 40, 0, 0) else if k = 277 then .inl (2, 40, 0, 0) else if k = 278 then .inl (0, 15, 0, 0) else if k = 279 then .inl (0, 160, 0, 0) else if k = 280 then .inl (0, 40, 0, 0) else if k = 281 then .inl (0, 40, 0, 0) else if k = 282 then .inl (2, 40, 0, 0) else if k = 283 then .inl (0, 15, 0, 0) else if k = 284 then .inl (1, 40, 0, 0) else if k = 285 then .inl (1, 26, 0, 0) else if k = 286 then .inl (2, 480, 0, 0) else if k = 287 then .inl (0, 12, 0, 0) else if k = 288 then .inl (0, 384, 0, 0) else if k = 289 then .inl (0, 384, 0, 0) else if k = 290 then .inl (0, 384, 0, 0) else if k = 291 then .inl (0, 384, 0, 0) else if k = 292 then .inl (0, 384, 0, 0) else if k = 293 then .inl (0, 384, 0, 0) else if k = 294 then .inl (0, 384, 0, 0) else if k = 295 then .inl (1, 384, 0, 0) else if k = 296 then .inl (1, 384, 0, 0) else if k = 297 then .inl (0, 40, 0, 0) else if k = 298 then .inl (1, 32, 0, 0) else .inr (99, [])
def lay (k : Nat) : gL := if k < 116 then (if k < 46 then (if k = 0 then .inr (0, [(0, 1), (0, 46), (0, 47), (0, 272)]) else layTB 1 (k - 1)) else if k < 49 then (if k = 46 then .inl (0, 15, 0, 0) else if k = 47 then .inr (2, [(0, 48), (0, 49), (0, 94), (0, 109), (0, 110), (0, 111), (0, 112), (0, 115), (1, 8), (1, 9)]) else .inr (3, [(0, 49), (0, 94), (0, 95), (0, 100), (0, 101), (0, 102), (0, 103), (0, 104), (0, 105), (0, 106), (0, 107), (0, 108)])) else if k < 94 then layTB 49 (k - 49) else if k < 102 then (if k = 94 then .inl (0, 15, 0, 0) else if k = 95 then .inl (4, 4, 96, 1) else if k < 100 then .inl (0, 40, 0, 0) else if k = 100 then .inl (0, 40, 0, 0) else .inl (1, 40, 0, 0)) else if k < 108 then .inr (4, [(1, 0), (1, 1), (2, 2)]) else if k = 108 then .inr (5, [(1, 0), (1, 1), (1, 2), (2, 3)]) else if k = 109 then .inl (3, 12, 116, 13) else if k = 110 then .inl (1, 40, 0, 0) else if k = 111 then .inl (0, 40, 0, 0) else if k = 112 then .inl (5, 2, 113, 1) else if k < 115 then .inl (1, 13, 0, 0) else .inl (1, 31, 0, 0)) else if k < 272 then layTR (116 + 13 * ((k - 116) / 13)) ((k - 116) % 13) else if k = 272 then .inl (0, 4, 0, 0) else if k = 273 then .inr (7, [(1, 0), (0, 274), (0, 275), (0, 276), (0, 277), (0, 278), (1, 6), (1, 7), (0, 279), (0, 280), (0, 281), (0, 282), (0, 283), (0, 284), (1, 14), (0, 285), (0, 286), (0, 287), (0, 288), (0, 289), (0, 290), (0, 291), (0, 292), (0, 293), (0, 294), (0, 295), (0, 296), (0, 297), (0, 298), (2, 29), (1, 30), (1, 31)]) else layMD k
theorem lay_0 : lay 0 = .inr (0, [(0, 1), (0, 46), (0, 47), (0, 272)]) := rfl
theorem lay_272 : lay 272 = .inl (0, 4, 0, 0) := rfl
theorem lay_47 : lay 47 = .inr (2, [(0, 48), (0, 49), (0, 94), (0, 109), (0, 110), (0, 111), (0, 112), (0, 115), (1, 8), (1, 9)]) := rfl
theorem lay_48 : lay 48 = .inr (3, [(0, 49), (0, 94), (0, 95), (0, 100), (0, 101), (0, 102), (0, 103), (0, 104), (0, 105), (0, 106), (0, 107), (0, 108)]) := rfl
theorem lay_94 : lay 94 = .inl (0, 15, 0, 0) := rfl
theorem lay_95 : lay 95 = .inl (4, 4, 96, 1) := rfl
theorem lay_100 : lay 100 = .inl (0, 40, 0, 0) := rfl
theorem lay_101 : lay 101 = .inl (1, 40, 0, 0) := rfl
theorem lay_108 : lay 108 = .inr (5, [(1, 0), (1, 1), (1, 2), (2, 3)]) := rfl
theorem lay_109 : lay 109 = .inl (3, 12, 116, 13) := rfl
theorem lay_110 : lay 110 = .inl (1, 40, 0, 0) := rfl
theorem lay_111 : lay 111 = .inl (0, 40, 0, 0) := rfl
theorem lay_112 : lay 112 = .inl (5, 2, 113, 1) := rfl
theorem lay_115 : lay 115 = .inl (1, 31, 0, 0) := rfl
theorem lay_273 : lay 273 = .inr (7, [(1, 0), (0, 274), (0, 275), (0, 276), (0, 277), (0, 278), (1, 6), (1, 7), (0, 279), (0, 280), (0, 281), (0, 282), (0, 283), (0, 284), (1, 14), (0, 285), (0, 286), (0, 287), (0, 288), (0, 289), (0, 290), (0, 291), (0, 292), (0, 293), (0, 294), (0, 295), (0, 296), (0, 297), (0, 298), (2, 29), (1, 30), (1, 31)]) := rfl
theorem lay_274 : lay 274 = .inl (0, 160, 0, 0) := rfl
theorem lay_275 : lay 275 = .inl (0, 40, 0, 0) := rfl
theorem lay_276 : lay 276 = .inl (0, 40, 0, 0) := rfl
theorem lay_277 : lay 277 = .inl (2, 40, 0, 0) := rfl
theorem lay_278 : lay 278 = .inl (0, 15, 0, 0) := rfl
theorem lay_279 : lay 279 = .inl (0, 160, 0, 0) := rfl
theorem lay_280 : lay 280 = .inl (0, 40, 0, 0) := rfl
theorem lay_281 : lay 281 = .inl (0, 40, 0, 0) := rfl
theorem lay_282 : lay 282 = .inl (2, 40, 0, 0) := rfl
theorem lay_283 : lay 283 = .inl (0, 15, 0, 0) := rfl
theorem lay_284 : lay 284 = .inl (1, 40, 0, 0) := rfl
theorem lay_285 : lay 285 = .inl (1, 26, 0, 0) := rfl
theorem lay_286 : lay 286 = .inl (2, 480, 0, 0) := rfl
theorem lay_287 : lay 287 = .inl (0, 12, 0, 0) := rfl
theorem lay_288 : lay 288 = .inl (0, 384, 0, 0) := rfl
theorem lay_289 : lay 289 = .inl (0, 384, 0, 0) := rfl
theorem lay_290 : lay 290 = .inl (0, 384, 0, 0) := rfl
theorem lay_291 : lay 291 = .inl (0, 384, 0, 0) := rfl
theorem lay_292 : lay 292 = .inl (0, 384, 0, 0) := rfl
theorem lay_293 : lay 293 = .inl (0, 384, 0, 0) := rfl
theorem lay_294 : lay 294 = .inl (0, 384, 0, 0) := rfl
theorem lay_295 : lay 295 = .inl (1, 384, 0, 0) := rfl
theorem lay_296 : lay 296 = .inl (1, 384, 0, 0) := rfl
theorem lay_297 : lay 297 = .inl (0, 40, 0, 0) := rfl
theorem lay_298 : lay 298 = .inl (1, 32, 0, 0) := rfl
def isSM (k : Nat) : Prop := lay k = .inr (4, [(1, 0), (1, 1), (2, 2)])
def isTB (b : Nat) : Prop := lay b = .inr (1, [(0, b + 1), (0, b + 42), (0, b + 43), (0, b + 44), (1, 4)]) ∧ lay (b + 1) = .inl (4, 40, b + 2, 1) ∧ (∀ i, i < 40 → lay (b + 2 + i) = .inl (0, 4, 0, 0)) ∧ lay (b + 42) = .inl (0, 40, 0, 0) ∧ lay (b + 43) = .inl (0, 40, 0, 0) ∧ lay (b + 44) = .inl (2, 40, 0, 0)
def isTR (b : Nat) : Prop := lay b = .inr (6, [(0, b + 1), (0, b + 9), (1, 2)]) ∧ lay (b + 1) = .inl (4, 7, b + 2, 1) ∧ (∀ i, i < 7 → lay (b + 2 + i) = .inl (0, 31, 0, 0)) ∧ lay (b + 9) = .inl (5, 3, b + 10, 1) ∧ (∀ i, i < 3 → lay (b + 10 + i) = .inl (1, 31, 0, 0))
theorem isTB_1 : isTB 1 := ⟨rfl, rfl, by decide, rfl, rfl, rfl⟩
theorem isTB_49 : isTB 49 := ⟨rfl, rfl, by decide, rfl, rfl, rfl⟩
theorem isSM_102 : isSM 102 := rfl
theorem isSM_103 : isSM 103 := rfl
theorem isSM_104 : isSM 104 := rfl
theorem isSM_105 : isSM 105 := rfl
theorem isSM_106 : isSM 106 := rfl
theorem isSM_107 : isSM 107 := rfl
theorem isTR_at : ∀ t, t < 12 → isTR (116 + 13 * t) := by
  intro t ht
  have h : t = 0 ∨ t = 1 ∨ t = 2 ∨ t = 3 ∨ t = 4 ∨ t = 5 ∨ t = 6 ∨ t = 7 ∨ t = 8 ∨ t = 9 ∨ t = 10 ∨ t = 11 := by omega
  rcases h with rfl | rfl | rfl | rfl | rfl | rfl | rfl | rfl | rfl | rfl | rfl | rfl <;> exact ⟨rfl, rfl, by decide, rfl, by decide⟩
theorem lay_order : ∀ i, i < 4 → lay (96 + i) = .inl (0, 40, 0, 0) := by decide
theorem lay_losses : ∀ i, i < 2 → lay (113 + i) = .inl (1, 13, 0, 0) := by decide
abbrev gM : Type := (Nat → Nat → Int32) × (Nat → Nat → Int64)
def gF (ad : Nat → Nat) (M : gM) (k : Nat) (q : Nat × Nat) : Value := match q.1 with
  | 0 => .ref (ad q.2)
  | 1 => .int (M.1 k q.2)
  | _ => .long (M.2 k q.2)
def gC (cy : Nat → ClassId) (ad : Nat → Nat) (M : gM) (k : Nat) (L : gL) : va_E := match L with
  | .inl (0, n, _, _) => .inl (cy 0, n, .inl (M.1 k))
  | .inl (1, n, _, _) => .inl (cy 1, n, .inr (.inl (M.2 k)))
  | .inl (2, n, _, _) => .inl (cy 2, n, .inl (M.1 k))
  | .inl (t + 3, n, a, d) => .inl (cy (t + 3), n, .inr (.inr (.inr (.inr (fun j => if j < n then some (ad (a + d * j)) else none)))))
  | .inr (c, fs) => .inr (c, fs.map (gF ad M k))
def gT (cy : Nat → ClassId) : List (ClassId × FieldType) := [(cy 0, .int), (cy 1, .long), (cy 2, .boolean), (cy 3, .object "BoostForests$Tree"), (cy 4, .array .int), (cy 5, .array .long)]
theorem vi_lit (i : Int32) (n : Nat) (h : decide (¬ (i < 0 ∨ n ≤ i.toNatClampNeg)) = true) : vp_in i n := of_decide_eq_true (p := ¬ (i < 0 ∨ n ≤ i.toNatClampNeg)) h
section GW
variable {p : Program} {l : Launch} {e : Env} {R : Room} {s : State} {m : MethodId} {args : Array Value} {below : List Frame} {meth : Method} {c : Code} {H : Heap} {locs : List Loc} {cells slots : Nat} {Q : State → Prop}
variable {cc : ByteArray} {pc nL : Nat} {ls : Array Slot} {rest : List Value} {D : va_G} {cy : Nat → ClassId} {ad : Nat → Nat} {M : gM} {ret : Option FieldType} {own : String}
theorem gGood {w : Cond} (h : w ∈ gw_tbl) : GoodIn gw_tbl (w :: gw_tbl) := fun v hv => by
  rcases List.mem_cons.mp hv with rfl | hv
  · exact ⟨h, gw_good _ h⟩
  · exact ⟨hv, gw_good _ hv⟩
end GW
section GW2
variable {p : Program} {l : Launch} {e : Env} {R : Room} {s : State} {m : MethodId} {args : Array Value} {below : List Frame} {meth : Method} {c : Code} {H : Heap} {locs : List Loc} {cells slots : Nat} {Q : State → Prop}
variable {cc : ByteArray} {pc nL : Nat} {ls : Array Slot} {rest : List Value} {D : va_G} {cy : Nat → ClassId} {ad : Nat → Nat} {M : gM} {ret : Option FieldType} {own : String}
end GW2
section GW3
variable {p : Program} {l : Launch} {e : Env} {R : Room} {s : State} {m : MethodId} {args : Array Value} {below : List Frame} {meth : Method} {c : Code} {H : Heap} {locs : List Loc} {cells slots : Nat} {Q : State → Prop}
variable {cc : ByteArray} {pc nL : Nat} {ls : Array Slot} {rest : List Value} {D : va_G} {cy : Nat → ClassId} {ad : Nat → Nat} {M : gM} {ret : Option FieldType} {own : String}
end GW3


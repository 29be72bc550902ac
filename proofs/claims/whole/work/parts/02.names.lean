abbrev gw_tbl : List Cond := lw_tbl.filter goodWord
theorem gw_good : ∀ w ∈ gw_tbl, (w.onTables && w.keeps) = true ∨ ∃ ty, w = .arrayClass ty := fun w h => good_of_word (List.mem_filter.mp h).2
theorem gw_in : ∀ w ∈ gw_tbl, w ∈ lw_tbl := fun w h => (List.mem_filter.mp h).1
theorem kt_1 : ∀ w ∈ tables_1_1, w ∈ lw_tbl := fun _ h => List.mem_append_right _ (List.mem_append_left _ h)
theorem kt_2 : ∀ w ∈ tables_1_2, w ∈ lw_tbl := fun _ h => List.mem_append_right _ (List.mem_append_right _ (List.mem_append_left _ h))
theorem kt_3 : ∀ w ∈ tables_1_3, w ∈ lw_tbl := fun _ h => List.mem_append_right _ (List.mem_append_right _ (List.mem_append_right _ (List.mem_append_left _ h)))
theorem kt_4 : ∀ w ∈ tables_1_4, w ∈ lw_tbl := fun _ h => List.mem_append_right _ (List.mem_append_right _ (List.mem_append_right _ (List.mem_append_right _ h)))
def R_BF : String := "BoostForests"
def F_BF : u_T := fun k => match k with
  | 0 => ("BoostForests", "table", "LBoostForests$Table;", true)
  | 1 => ("BoostForests", "settings", "[I", true)
  | 2 => ("BoostForests", "training", "LBoostForests$Training;", true)
  | _ => ("BoostForests", "asked", "[I", true)
def t_BF : Nat → FieldType := fun k => match k with
  | 0 => .object "BoostForests$Table"
  | 1 => .array .int
  | 2 => .object "BoostForests$Training"
  | _ => .array .int
abbrev w_BF : List Cond := u_ws R_BF F_BF 4
theorem n_BF : ∀ a, a < 4 → ∀ b, b < 4 → a ≠ b → (F_BF a).2.1 ≠ (F_BF b).2.1 := by decide +kernel
theorem t_BF_ok : ∀ k, k < 4 → parseFieldDescriptor (F_BF k).2.2.1 = some (t_BF k) := by decide +kernel
theorem i_BF : ∀ w ∈ w_BF, w ∈ gw_tbl := by
  intro w hw
  obtain ⟨k, hk, rfl⟩ := List.mem_map.mp hw
  have hk := List.mem_range.mp hk
  match k, hk with
  | 0, _ => exact List.mem_filter.mpr ⟨kt_1 _ (List.mem_of_getElem? (i := 236) rfl), rfl⟩
  | 1, _ => exact List.mem_filter.mpr ⟨kt_1 _ (List.mem_of_getElem? (i := 238) rfl), rfl⟩
  | 2, _ => exact List.mem_filter.mpr ⟨kt_2 _ (List.mem_of_getElem? (i := 0) rfl), rfl⟩
  | 3, _ => exact List.mem_filter.mpr ⟨kt_2 _ (List.mem_of_getElem? (i := 2) rfl), rfl⟩
  | k + 4, hk => exact absurd hk (by omega)
def R_TB : String := "BoostForests$Table"
def F_TB : u_T := fun k => match k with
  | 0 => ("BoostForests$Table", "cells", "[[I", true)
  | 1 => ("BoostForests$Table", "aims", "[I", true)
  | 2 => ("BoostForests$Table", "weights", "[I", true)
  | 3 => ("BoostForests$Table", "held", "[Z", true)
  | _ => ("BoostForests$Table", "number", "I", false)
def t_TB : Nat → FieldType := fun k => match k with
  | 0 => .array (.array .int)
  | 1 => .array .int
  | 2 => .array .int
  | 3 => .array .boolean
  | _ => .int
abbrev w_TB : List Cond := u_ws R_TB F_TB 5
theorem n_TB : ∀ a, a < 5 → ∀ b, b < 5 → a ≠ b → (F_TB a).2.1 ≠ (F_TB b).2.1 := by decide +kernel
theorem t_TB_ok : ∀ k, k < 5 → parseFieldDescriptor (F_TB k).2.2.1 = some (t_TB k) := by decide +kernel
theorem i_TB : ∀ w ∈ w_TB, w ∈ gw_tbl := by
  intro w hw
  obtain ⟨k, hk, rfl⟩ := List.mem_map.mp hw
  have hk := List.mem_range.mp hk
  match k, hk with
  | 0, _ => exact List.mem_filter.mpr ⟨kt_1 _ (List.mem_of_getElem? (i := 45) rfl), rfl⟩
  | 1, _ => exact List.mem_filter.mpr ⟨kt_1 _ (List.mem_of_getElem? (i := 47) rfl), rfl⟩
  | 2, _ => exact List.mem_filter.mpr ⟨kt_1 _ (List.mem_of_getElem? (i := 49) rfl), rfl⟩
  | 3, _ => exact List.mem_filter.mpr ⟨kt_1 _ (List.mem_of_getElem? (i := 51) rfl), rfl⟩
  | 4, _ => exact List.mem_filter.mpr ⟨kt_1 _ (List.mem_of_getElem? (i := 53) rfl), rfl⟩
  | k + 5, hk => exact absurd hk (by omega)
def R_TG : String := "BoostForests$Training"
def F_TG : u_T := fun k => match k with
  | 0 => ("BoostForests$Training", "grower", "LBoostForests$Grower;", true)
  | 1 => ("BoostForests$Training", "rows", "LBoostForests$Table;", true)
  | 2 => ("BoostForests$Training", "chosen", "[I", true)
  | 3 => ("BoostForests$Training", "trees", "[LBoostForests$Tree;", true)
  | 4 => ("BoostForests$Training", "f", "[J", true)
  | 5 => ("BoostForests$Training", "tookPart", "[I", true)
  | 6 => ("BoostForests$Training", "losses", "[[J", true)
  | 7 => ("BoostForests$Training", "tells", "[J", true)
  | 8 => ("BoostForests$Training", "done", "Z", false)
  | _ => ("BoostForests$Training", "made", "I", false)
def t_TG : Nat → FieldType := fun k => match k with
  | 0 => .object "BoostForests$Grower"
  | 1 => .object "BoostForests$Table"
  | 2 => .array .int
  | 3 => .array (.object "BoostForests$Tree")
  | 4 => .array .long
  | 5 => .array .int
  | 6 => .array (.array .long)
  | 7 => .array .long
  | 8 => .boolean
  | _ => .int
abbrev w_TG : List Cond := u_ws R_TG F_TG 10
theorem n_TG : ∀ a, a < 10 → ∀ b, b < 10 → a ≠ b → (F_TG a).2.1 ≠ (F_TG b).2.1 := by decide +kernel
theorem t_TG_ok : ∀ k, k < 10 → parseFieldDescriptor (F_TG k).2.2.1 = some (t_TG k) := by decide +kernel
theorem i_TG : ∀ w ∈ w_TG, w ∈ gw_tbl := by
  intro w hw
  obtain ⟨k, hk, rfl⟩ := List.mem_map.mp hw
  have hk := List.mem_range.mp hk
  match k, hk with
  | 0, _ => exact List.mem_filter.mpr ⟨kt_1 _ (List.mem_of_getElem? (i := 211) rfl), rfl⟩
  | 1, _ => exact List.mem_filter.mpr ⟨kt_1 _ (List.mem_of_getElem? (i := 213) rfl), rfl⟩
  | 2, _ => exact List.mem_filter.mpr ⟨kt_1 _ (List.mem_of_getElem? (i := 215) rfl), rfl⟩
  | 3, _ => exact List.mem_filter.mpr ⟨kt_1 _ (List.mem_of_getElem? (i := 217) rfl), rfl⟩
  | 4, _ => exact List.mem_filter.mpr ⟨kt_1 _ (List.mem_of_getElem? (i := 219) rfl), rfl⟩
  | 5, _ => exact List.mem_filter.mpr ⟨kt_1 _ (List.mem_of_getElem? (i := 221) rfl), rfl⟩
  | 6, _ => exact List.mem_filter.mpr ⟨kt_1 _ (List.mem_of_getElem? (i := 223) rfl), rfl⟩
  | 7, _ => exact List.mem_filter.mpr ⟨kt_1 _ (List.mem_of_getElem? (i := 225) rfl), rfl⟩
  | 8, _ => exact List.mem_filter.mpr ⟨kt_1 _ (List.mem_of_getElem? (i := 227) rfl), rfl⟩
  | 9, _ => exact List.mem_filter.mpr ⟨kt_1 _ (List.mem_of_getElem? (i := 229) rfl), rfl⟩
  | k + 10, hk => exact absurd hk (by omega)
def R_GR : String := "BoostForests$Grower"
def F_GR : u_T := fun k => match k with
  | 0 => ("BoostForests$Grower", "rows", "LBoostForests$Table;", true)
  | 1 => ("BoostForests$Grower", "chosen", "[I", true)
  | 2 => ("BoostForests$Grower", "order", "[[I", true)
  | 3 => ("BoostForests$Grower", "nodeOf", "[I", true)
  | 4 => ("BoostForests$Grower", "slopes", "[J", true)
  | 5 => ("BoostForests$Grower", "whole", "LBoostForests$Sums;", true)
  | 6 => ("BoostForests$Grower", "missing", "LBoostForests$Sums;", true)
  | 7 => ("BoostForests$Grower", "below", "LBoostForests$Sums;", true)
  | 8 => ("BoostForests$Grower", "low", "LBoostForests$Sums;", true)
  | 9 => ("BoostForests$Grower", "high", "LBoostForests$Sums;", true)
  | 10 => ("BoostForests$Grower", "nothing", "LBoostForests$Sums;", true)
  | _ => ("BoostForests$Grower", "split", "LBoostForests$Split;", true)
def t_GR : Nat → FieldType := fun k => match k with
  | 0 => .object "BoostForests$Table"
  | 1 => .array .int
  | 2 => .array (.array .int)
  | 3 => .array .int
  | 4 => .array .long
  | 5 => .object "BoostForests$Sums"
  | 6 => .object "BoostForests$Sums"
  | 7 => .object "BoostForests$Sums"
  | 8 => .object "BoostForests$Sums"
  | 9 => .object "BoostForests$Sums"
  | 10 => .object "BoostForests$Sums"
  | _ => .object "BoostForests$Split"
abbrev w_GR : List Cond := u_ws R_GR F_GR 12
theorem n_GR : ∀ a, a < 12 → ∀ b, b < 12 → a ≠ b → (F_GR a).2.1 ≠ (F_GR b).2.1 := by decide +kernel
theorem t_GR_ok : ∀ k, k < 12 → parseFieldDescriptor (F_GR k).2.2.1 = some (t_GR k) := by decide +kernel
theorem i_GR : ∀ w ∈ w_GR, w ∈ gw_tbl := by
  intro w hw
  obtain ⟨k, hk, rfl⟩ := List.mem_map.mp hw
  have hk := List.mem_range.mp hk
  match k, hk with
  | 0, _ => exact List.mem_filter.mpr ⟨kt_1 _ (List.mem_of_getElem? (i := 142) rfl), rfl⟩
  | 1, _ => exact List.mem_filter.mpr ⟨kt_1 _ (List.mem_of_getElem? (i := 144) rfl), rfl⟩
  | 2, _ => exact List.mem_filter.mpr ⟨kt_1 _ (List.mem_of_getElem? (i := 146) rfl), rfl⟩
  | 3, _ => exact List.mem_filter.mpr ⟨kt_1 _ (List.mem_of_getElem? (i := 148) rfl), rfl⟩
  | 4, _ => exact List.mem_filter.mpr ⟨kt_1 _ (List.mem_of_getElem? (i := 150) rfl), rfl⟩
  | 5, _ => exact List.mem_filter.mpr ⟨kt_1 _ (List.mem_of_getElem? (i := 152) rfl), rfl⟩
  | 6, _ => exact List.mem_filter.mpr ⟨kt_1 _ (List.mem_of_getElem? (i := 154) rfl), rfl⟩
  | 7, _ => exact List.mem_filter.mpr ⟨kt_1 _ (List.mem_of_getElem? (i := 156) rfl), rfl⟩
  | 8, _ => exact List.mem_filter.mpr ⟨kt_1 _ (List.mem_of_getElem? (i := 158) rfl), rfl⟩
  | 9, _ => exact List.mem_filter.mpr ⟨kt_1 _ (List.mem_of_getElem? (i := 160) rfl), rfl⟩
  | 10, _ => exact List.mem_filter.mpr ⟨kt_1 _ (List.mem_of_getElem? (i := 162) rfl), rfl⟩
  | 11, _ => exact List.mem_filter.mpr ⟨kt_1 _ (List.mem_of_getElem? (i := 164) rfl), rfl⟩
  | k + 12, hk => exact absurd hk (by omega)
def R_SM : String := "BoostForests$Sums"
def F_SM : u_T := fun k => match k with
  | 0 => ("BoostForests$Sums", "rows", "I", false)
  | 1 => ("BoostForests$Sums", "h", "I", false)
  | _ => ("BoostForests$Sums", "g", "J", false)
def t_SM : Nat → FieldType := fun k => match k with
  | 0 => .int
  | 1 => .int
  | _ => .long
abbrev w_SM : List Cond := u_ws R_SM F_SM 3
theorem n_SM : ∀ a, a < 3 → ∀ b, b < 3 → a ≠ b → (F_SM a).2.1 ≠ (F_SM b).2.1 := by decide +kernel
theorem t_SM_ok : ∀ k, k < 3 → parseFieldDescriptor (F_SM k).2.2.1 = some (t_SM k) := by decide +kernel
theorem i_SM : ∀ w ∈ w_SM, w ∈ gw_tbl := by
  intro w hw
  obtain ⟨k, hk, rfl⟩ := List.mem_map.mp hw
  have hk := List.mem_range.mp hk
  match k, hk with
  | 0, _ => exact List.mem_filter.mpr ⟨kt_1 _ (List.mem_of_getElem? (i := 95) rfl), rfl⟩
  | 1, _ => exact List.mem_filter.mpr ⟨kt_1 _ (List.mem_of_getElem? (i := 97) rfl), rfl⟩
  | 2, _ => exact List.mem_filter.mpr ⟨kt_1 _ (List.mem_of_getElem? (i := 99) rfl), rfl⟩
  | k + 3, hk => exact absurd hk (by omega)
def R_SP : String := "BoostForests$Split"
def F_SP : u_T := fun k => match k with
  | 0 => ("BoostForests$Split", "column", "I", false)
  | 1 => ("BoostForests$Split", "cut", "I", false)
  | 2 => ("BoostForests$Split", "side", "I", false)
  | _ => ("BoostForests$Split", "difference", "J", false)
def t_SP : Nat → FieldType := fun k => match k with
  | 0 => .int
  | 1 => .int
  | 2 => .int
  | _ => .long
abbrev w_SP : List Cond := u_ws R_SP F_SP 4
theorem n_SP : ∀ a, a < 4 → ∀ b, b < 4 → a ≠ b → (F_SP a).2.1 ≠ (F_SP b).2.1 := by decide +kernel
theorem t_SP_ok : ∀ k, k < 4 → parseFieldDescriptor (F_SP k).2.2.1 = some (t_SP k) := by decide +kernel
theorem i_SP : ∀ w ∈ w_SP, w ∈ gw_tbl := by
  intro w hw
  obtain ⟨k, hk, rfl⟩ := List.mem_map.mp hw
  have hk := List.mem_range.mp hk
  match k, hk with
  | 0, _ => exact List.mem_filter.mpr ⟨kt_1 _ (List.mem_of_getElem? (i := 119) rfl), rfl⟩
  | 1, _ => exact List.mem_filter.mpr ⟨kt_1 _ (List.mem_of_getElem? (i := 121) rfl), rfl⟩
  | 2, _ => exact List.mem_filter.mpr ⟨kt_1 _ (List.mem_of_getElem? (i := 123) rfl), rfl⟩
  | 3, _ => exact List.mem_filter.mpr ⟨kt_1 _ (List.mem_of_getElem? (i := 125) rfl), rfl⟩
  | k + 4, hk => exact absurd hk (by omega)
def R_TR : String := "BoostForests$Tree"
def F_TR : u_T := fun k => match k with
  | 0 => ("BoostForests$Tree", "facts", "[[I", true)
  | 1 => ("BoostForests$Tree", "sums", "[[J", true)
  | _ => ("BoostForests$Tree", "nodes", "I", false)
def t_TR : Nat → FieldType := fun k => match k with
  | 0 => .array (.array .int)
  | 1 => .array (.array .long)
  | _ => .int
abbrev w_TR : List Cond := u_ws R_TR F_TR 3
theorem n_TR : ∀ a, a < 3 → ∀ b, b < 3 → a ≠ b → (F_TR a).2.1 ≠ (F_TR b).2.1 := by decide +kernel
theorem t_TR_ok : ∀ k, k < 3 → parseFieldDescriptor (F_TR k).2.2.1 = some (t_TR k) := by decide +kernel
theorem i_TR : ∀ w ∈ w_TR, w ∈ gw_tbl := by
  intro w hw
  obtain ⟨k, hk, rfl⟩ := List.mem_map.mp hw
  have hk := List.mem_range.mp hk
  match k, hk with
  | 0, _ => exact List.mem_filter.mpr ⟨kt_1 _ (List.mem_of_getElem? (i := 188) rfl), rfl⟩
  | 1, _ => exact List.mem_filter.mpr ⟨kt_1 _ (List.mem_of_getElem? (i := 190) rfl), rfl⟩
  | 2, _ => exact List.mem_filter.mpr ⟨kt_1 _ (List.mem_of_getElem? (i := 192) rfl), rfl⟩
  | k + 3, hk => exact absurd hk (by omega)
def R_MD : String := "BoostForestsModel"
def F_MD : u_T := fun k => match k with
  | 0 => ("BoostForestsModel", "rows", "I", false)
  | 1 => ("BoostForestsModel", "columns", "[I", true)
  | 2 => ("BoostForestsModel", "aims", "[I", true)
  | 3 => ("BoostForestsModel", "weights", "[I", true)
  | 4 => ("BoostForestsModel", "held", "[Z", true)
  | 5 => ("BoostForestsModel", "settings", "[I", true)
  | 6 => ("BoostForestsModel", "trained", "Z", false)
  | 7 => ("BoostForestsModel", "trainedRows", "I", false)
  | 8 => ("BoostForestsModel", "cols", "[I", true)
  | 9 => ("BoostForestsModel", "ys", "[I", true)
  | 10 => ("BoostForestsModel", "ws", "[I", true)
  | 11 => ("BoostForestsModel", "isHeld", "[Z", true)
  | 12 => ("BoostForestsModel", "then", "[I", true)
  | 13 => ("BoostForestsModel", "now", "[J", true)
  | 14 => ("BoostForestsModel", "trees", "I", false)
  | 15 => ("BoostForestsModel", "losses", "[J", true)
  | 16 => ("BoostForestsModel", "takesPart", "[Z", true)
  | 17 => ("BoostForestsModel", "sizes", "[I", true)
  | 18 => ("BoostForestsModel", "nodeColumns", "[I", true)
  | 19 => ("BoostForestsModel", "nodeCuts", "[I", true)
  | 20 => ("BoostForestsModel", "nodeSides", "[I", true)
  | 21 => ("BoostForestsModel", "nodeLefts", "[I", true)
  | 22 => ("BoostForestsModel", "nodeRows", "[I", true)
  | 23 => ("BoostForestsModel", "nodeWeights", "[I", true)
  | 24 => ("BoostForestsModel", "nodeDepths", "[I", true)
  | 25 => ("BoostForestsModel", "nodeSlopes", "[J", true)
  | 26 => ("BoostForestsModel", "nodeGains", "[J", true)
  | 27 => ("BoostForestsModel", "nodeOf", "[I", true)
  | 28 => ("BoostForestsModel", "tells", "[J", true)
  | 29 => ("BoostForestsModel", "slope", "J", false)
  | 30 => ("BoostForestsModel", "weight", "I", false)
  | _ => ("BoostForestsModel", "count", "I", false)
def t_MD : Nat → FieldType := fun k => match k with
  | 0 => .int
  | 1 => .array .int
  | 2 => .array .int
  | 3 => .array .int
  | 4 => .array .boolean
  | 5 => .array .int
  | 6 => .boolean
  | 7 => .int
  | 8 => .array .int
  | 9 => .array .int
  | 10 => .array .int
  | 11 => .array .boolean
  | 12 => .array .int
  | 13 => .array .long
  | 14 => .int
  | 15 => .array .long
  | 16 => .array .boolean
  | 17 => .array .int
  | 18 => .array .int
  | 19 => .array .int
  | 20 => .array .int
  | 21 => .array .int
  | 22 => .array .int
  | 23 => .array .int
  | 24 => .array .int
  | 25 => .array .long
  | 26 => .array .long
  | 27 => .array .int
  | 28 => .array .long
  | 29 => .long
  | 30 => .int
  | _ => .int
abbrev w_MD : List Cond := u_ws R_MD F_MD 32
theorem n_MD : ∀ a, a < 32 → ∀ b, b < 32 → a ≠ b → (F_MD a).2.1 ≠ (F_MD b).2.1 := by decide +kernel
theorem t_MD_ok : ∀ k, k < 32 → parseFieldDescriptor (F_MD k).2.2.1 = some (t_MD k) := by decide +kernel
theorem i_MD : ∀ w ∈ w_MD, w ∈ gw_tbl := by
  intro w hw
  obtain ⟨k, hk, rfl⟩ := List.mem_map.mp hw
  have hk := List.mem_range.mp hk
  match k, hk with
  | 0, _ => exact List.mem_filter.mpr ⟨kt_3 _ (List.mem_of_getElem? (i := 103) rfl), rfl⟩
  | 1, _ => exact List.mem_filter.mpr ⟨kt_3 _ (List.mem_of_getElem? (i := 105) rfl), rfl⟩
  | 2, _ => exact List.mem_filter.mpr ⟨kt_3 _ (List.mem_of_getElem? (i := 107) rfl), rfl⟩
  | 3, _ => exact List.mem_filter.mpr ⟨kt_3 _ (List.mem_of_getElem? (i := 109) rfl), rfl⟩
  | 4, _ => exact List.mem_filter.mpr ⟨kt_3 _ (List.mem_of_getElem? (i := 111) rfl), rfl⟩
  | 5, _ => exact List.mem_filter.mpr ⟨kt_3 _ (List.mem_of_getElem? (i := 113) rfl), rfl⟩
  | 6, _ => exact List.mem_filter.mpr ⟨kt_3 _ (List.mem_of_getElem? (i := 115) rfl), rfl⟩
  | 7, _ => exact List.mem_filter.mpr ⟨kt_3 _ (List.mem_of_getElem? (i := 117) rfl), rfl⟩
  | 8, _ => exact List.mem_filter.mpr ⟨kt_3 _ (List.mem_of_getElem? (i := 119) rfl), rfl⟩
  | 9, _ => exact List.mem_filter.mpr ⟨kt_3 _ (List.mem_of_getElem? (i := 121) rfl), rfl⟩
  | 10, _ => exact List.mem_filter.mpr ⟨kt_3 _ (List.mem_of_getElem? (i := 123) rfl), rfl⟩
  | 11, _ => exact List.mem_filter.mpr ⟨kt_3 _ (List.mem_of_getElem? (i := 125) rfl), rfl⟩
  | 12, _ => exact List.mem_filter.mpr ⟨kt_3 _ (List.mem_of_getElem? (i := 127) rfl), rfl⟩
  | 13, _ => exact List.mem_filter.mpr ⟨kt_3 _ (List.mem_of_getElem? (i := 129) rfl), rfl⟩
  | 14, _ => exact List.mem_filter.mpr ⟨kt_3 _ (List.mem_of_getElem? (i := 131) rfl), rfl⟩
  | 15, _ => exact List.mem_filter.mpr ⟨kt_3 _ (List.mem_of_getElem? (i := 133) rfl), rfl⟩
  | 16, _ => exact List.mem_filter.mpr ⟨kt_3 _ (List.mem_of_getElem? (i := 135) rfl), rfl⟩
  | 17, _ => exact List.mem_filter.mpr ⟨kt_3 _ (List.mem_of_getElem? (i := 137) rfl), rfl⟩
  | 18, _ => exact List.mem_filter.mpr ⟨kt_3 _ (List.mem_of_getElem? (i := 139) rfl), rfl⟩
  | 19, _ => exact List.mem_filter.mpr ⟨kt_3 _ (List.mem_of_getElem? (i := 141) rfl), rfl⟩
  | 20, _ => exact List.mem_filter.mpr ⟨kt_3 _ (List.mem_of_getElem? (i := 143) rfl), rfl⟩
  | 21, _ => exact List.mem_filter.mpr ⟨kt_3 _ (List.mem_of_getElem? (i := 145) rfl), rfl⟩
  | 22, _ => exact List.mem_filter.mpr ⟨kt_3 _ (List.mem_of_getElem? (i := 147) rfl), rfl⟩
  | 23, _ => exact List.mem_filter.mpr ⟨kt_3 _ (List.mem_of_getElem? (i := 149) rfl), rfl⟩
  | 24, _ => exact List.mem_filter.mpr ⟨kt_3 _ (List.mem_of_getElem? (i := 151) rfl), rfl⟩
  | 25, _ => exact List.mem_filter.mpr ⟨kt_3 _ (List.mem_of_getElem? (i := 153) rfl), rfl⟩
  | 26, _ => exact List.mem_filter.mpr ⟨kt_3 _ (List.mem_of_getElem? (i := 155) rfl), rfl⟩
  | 27, _ => exact List.mem_filter.mpr ⟨kt_3 _ (List.mem_of_getElem? (i := 157) rfl), rfl⟩
  | 28, _ => exact List.mem_filter.mpr ⟨kt_3 _ (List.mem_of_getElem? (i := 159) rfl), rfl⟩
  | 29, _ => exact List.mem_filter.mpr ⟨kt_3 _ (List.mem_of_getElem? (i := 161) rfl), rfl⟩
  | 30, _ => exact List.mem_filter.mpr ⟨kt_3 _ (List.mem_of_getElem? (i := 163) rfl), rfl⟩
  | 31, _ => exact List.mem_filter.mpr ⟨kt_3 _ (List.mem_of_getElem? (i := 165) rfl), rfl⟩
  | k + 32, hk => exact absurd hk (by omega)
abbrev vCl : List vw_C := [(R_BF, F_BF, 4), (R_TB, F_TB, 5), (R_TG, F_TG, 10), (R_GR, F_GR, 12), (R_SM, F_SM, 3), (R_SP, F_SP, 4), (R_TR, F_TR, 3), (R_MD, F_MD, 32)]
abbrev b_BF_init : ByteArray := prog_1_method_1_code
abbrev y_BF_init : MethodName := ⟨"BoostForests", "<init>", "()V"⟩
abbrev b_BF_row : ByteArray := prog_1_method_2_code
abbrev y_BF_row : MethodName := ⟨"BoostForests", "row", "(IIIIII)I"⟩
abbrev b_BF_hold : ByteArray := prog_1_method_3_code
abbrev y_BF_hold : MethodName := ⟨"BoostForests", "hold", "(II)I"⟩
abbrev b_BF_set : ByteArray := prog_1_method_4_code
abbrev y_BF_set : MethodName := ⟨"BoostForests", "set", "(II)I"⟩
abbrev b_BF_clear : ByteArray := prog_1_method_5_code
abbrev y_BF_clear : MethodName := ⟨"BoostForests", "clear", "()I"⟩
abbrev b_BF_train : ByteArray := prog_1_method_6_code
abbrev y_BF_train : MethodName := ⟨"BoostForests", "train", "()I"⟩
abbrev b_BF_node : ByteArray := prog_1_method_7_code
abbrev y_BF_node : MethodName := ⟨"BoostForests", "node", "(III)I"⟩
abbrev b_BF_sum : ByteArray := prog_1_method_8_code
abbrev y_BF_sum : MethodName := ⟨"BoostForests", "sum", "(III)J"⟩
abbrev b_BF_size : ByteArray := prog_1_method_9_code
abbrev y_BF_size : MethodName := ⟨"BoostForests", "size", "(I)I"⟩
abbrev b_BF_leaf : ByteArray := prog_1_method_10_code
abbrev y_BF_leaf : MethodName := ⟨"BoostForests", "leaf", "(IIIII)I"⟩
abbrev b_BF_answer : ByteArray := prog_1_method_11_code
abbrev y_BF_answer : MethodName := ⟨"BoostForests", "answer", "(IIIII)J"⟩
abbrev b_BF_loss : ByteArray := prog_1_method_12_code
abbrev y_BF_loss : MethodName := ⟨"BoostForests", "loss", "(II)J"⟩
abbrev b_BF_best : ByteArray := prog_1_method_13_code
abbrev y_BF_best : MethodName := ⟨"BoostForests", "best", "()I"⟩
abbrev b_BF_without : ByteArray := prog_1_method_14_code
abbrev y_BF_without : MethodName := ⟨"BoostForests", "without", "(I)J"⟩
abbrev b_BF_took : ByteArray := prog_1_method_15_code
abbrev y_BF_took : MethodName := ⟨"BoostForests", "took", "(I)I"⟩
abbrev b_BF_gain : ByteArray := prog_1_method_16_code
abbrev y_BF_gain : MethodName := ⟨"BoostForests", "gain", "(I)J"⟩
abbrev b_BF_told : ByteArray := prog_1_method_17_code
abbrev y_BF_told : MethodName := ⟨"BoostForests", "told", "(IIIII)J"⟩
abbrev b_BF_share : ByteArray := prog_1_method_18_code
abbrev y_BF_share : MethodName := ⟨"BoostForests", "share", "(IIIII)J"⟩
abbrev b_BF_count : ByteArray := prog_1_method_19_code
abbrev y_BF_count : MethodName := ⟨"BoostForests", "count", "(I)I"⟩
abbrev b_BF_isNode : ByteArray := prog_1_method_20_code
abbrev y_BF_isNode : MethodName := ⟨"BoostForests", "isNode", "(II)Z"⟩
abbrev b_BF_isTrainedRow : ByteArray := prog_1_method_21_code
abbrev y_BF_isTrainedRow : MethodName := ⟨"BoostForests", "isTrainedRow", "(I)Z"⟩
abbrev b_BF_keepAsked : ByteArray := prog_1_method_22_code
abbrev y_BF_keepAsked : MethodName := ⟨"BoostForests", "keepAsked", "(IIII)V"⟩
abbrev b_BF_areCells : ByteArray := prog_1_method_23_code
abbrev y_BF_areCells : MethodName := ⟨"BoostForests", "areCells", "(IIII)Z"⟩
abbrev b_BF_isIndex : ByteArray := prog_1_method_24_code
abbrev y_BF_isIndex : MethodName := ⟨"BoostForests", "isIndex", "(II)Z"⟩
abbrev b_BF_isWithin : ByteArray := prog_1_method_25_code
abbrev y_BF_isWithin : MethodName := ⟨"BoostForests", "isWithin", "(III)Z"⟩
abbrev b_MD_init : ByteArray := prog_9_method_1_code
abbrev y_MD_init : MethodName := ⟨"BoostForestsModel", "<init>", "()V"⟩
abbrev b_MD_isNumber : ByteArray := prog_9_method_2_code
abbrev y_MD_isNumber : MethodName := ⟨"BoostForestsModel", "isNumber", "(I)Z"⟩
abbrev b_MD_areNumbers : ByteArray := prog_9_method_3_code
abbrev y_MD_areNumbers : MethodName := ⟨"BoostForestsModel", "areNumbers", "(IIII)Z"⟩
abbrev b_MD_number : ByteArray := prog_9_method_4_code
abbrev y_MD_number : MethodName := ⟨"BoostForestsModel", "number", "(IIIII)I"⟩
abbrev b_MD_row : ByteArray := prog_9_method_5_code
abbrev y_MD_row : MethodName := ⟨"BoostForestsModel", "row", "(IIIIII)I"⟩
abbrev b_MD_hold : ByteArray := prog_9_method_6_code
abbrev y_MD_hold : MethodName := ⟨"BoostForestsModel", "hold", "(II)I"⟩
abbrev b_MD_isSetting : ByteArray := prog_9_method_7_code
abbrev y_MD_isSetting : MethodName := ⟨"BoostForestsModel", "isSetting", "(II)Z"⟩
abbrev b_MD_set : ByteArray := prog_9_method_8_code
abbrev y_MD_set : MethodName := ⟨"BoostForestsModel", "set", "(II)I"⟩
abbrev b_MD_clear : ByteArray := prog_9_method_9_code
abbrev y_MD_clear : MethodName := ⟨"BoostForestsModel", "clear", "()I"⟩
abbrev b_MD_drawn : ByteArray := prog_9_method_10_code
abbrev y_MD_drawn : MethodName := ⟨"BoostForestsModel", "drawn", "(I)I"⟩
abbrev b_MD_train : ByteArray := prog_9_method_11_code
abbrev y_MD_train : MethodName := ⟨"BoostForestsModel", "train", "()I"⟩
abbrev b_MD_keepLosses : ByteArray := prog_9_method_12_code
abbrev y_MD_keepLosses : MethodName := ⟨"BoostForestsModel", "keepLosses", "()V"⟩
abbrev b_MD_valueOf : ByteArray := prog_9_method_13_code
abbrev y_MD_valueOf : MethodName := ⟨"BoostForestsModel", "valueOf", "(JI)J"⟩
abbrev b_MD_worthOf : ByteArray := prog_9_method_14_code
abbrev y_MD_worthOf : MethodName := ⟨"BoostForestsModel", "worthOf", "(JI)J"⟩
abbrev b_MD_goesLeft : ByteArray := prog_9_method_15_code
abbrev y_MD_goesLeft : MethodName := ⟨"BoostForestsModel", "goesLeft", "(III)Z"⟩
abbrev b_MD_sumUp : ByteArray := prog_9_method_16_code
abbrev y_MD_sumUp : MethodName := ⟨"BoostForestsModel", "sumUp", "(IIIIZ)V"⟩
abbrev b_MD_makeTree : ByteArray := prog_9_method_17_code
abbrev y_MD_makeTree : MethodName := ⟨"BoostForestsModel", "makeTree", "(I)V"⟩
abbrev b_MD_layNode : ByteArray := prog_9_method_18_code
abbrev y_MD_layNode : MethodName := ⟨"BoostForestsModel", "layNode", "(III)V"⟩
abbrev b_MD_isCut : ByteArray := prog_9_method_19_code
abbrev y_MD_isCut : MethodName := ⟨"BoostForestsModel", "isCut", "(III)Z"⟩
abbrev b_MD_split : ByteArray := prog_9_method_20_code
abbrev y_MD_split : MethodName := ⟨"BoostForestsModel", "split", "(II)V"⟩
abbrev b_MD_difference : ByteArray := prog_9_method_21_code
abbrev y_MD_difference : MethodName := ⟨"BoostForestsModel", "difference", "(IIIII)J"⟩
abbrev b_MD_leafOf : ByteArray := prog_9_method_22_code
abbrev y_MD_leafOf : MethodName := ⟨"BoostForestsModel", "leafOf", "(IIIII)I"⟩
abbrev b_MD_addOf : ByteArray := prog_9_method_23_code
abbrev y_MD_addOf : MethodName := ⟨"BoostForestsModel", "addOf", "(II)J"⟩
abbrev b_MD_isTree : ByteArray := prog_9_method_24_code
abbrev y_MD_isTree : MethodName := ⟨"BoostForestsModel", "isTree", "(I)Z"⟩
abbrev b_MD_isNode : ByteArray := prog_9_method_25_code
abbrev y_MD_isNode : MethodName := ⟨"BoostForestsModel", "isNode", "(II)Z"⟩
abbrev b_MD_node : ByteArray := prog_9_method_26_code
abbrev y_MD_node : MethodName := ⟨"BoostForestsModel", "node", "(III)I"⟩
abbrev b_MD_sum : ByteArray := prog_9_method_27_code
abbrev y_MD_sum : MethodName := ⟨"BoostForestsModel", "sum", "(III)J"⟩
abbrev b_MD_size : ByteArray := prog_9_method_28_code
abbrev y_MD_size : MethodName := ⟨"BoostForestsModel", "size", "(I)I"⟩
abbrev b_MD_leaf : ByteArray := prog_9_method_29_code
abbrev y_MD_leaf : MethodName := ⟨"BoostForestsModel", "leaf", "(IIIII)I"⟩
abbrev b_MD_answer : ByteArray := prog_9_method_30_code
abbrev y_MD_answer : MethodName := ⟨"BoostForestsModel", "answer", "(IIIII)J"⟩
abbrev b_MD_loss : ByteArray := prog_9_method_31_code
abbrev y_MD_loss : MethodName := ⟨"BoostForestsModel", "loss", "(II)J"⟩
abbrev b_MD_best : ByteArray := prog_9_method_32_code
abbrev y_MD_best : MethodName := ⟨"BoostForestsModel", "best", "()I"⟩
abbrev b_MD_without : ByteArray := prog_9_method_33_code
abbrev y_MD_without : MethodName := ⟨"BoostForestsModel", "without", "(I)J"⟩
abbrev b_MD_took : ByteArray := prog_9_method_34_code
abbrev y_MD_took : MethodName := ⟨"BoostForestsModel", "took", "(I)I"⟩
abbrev b_MD_gain : ByteArray := prog_9_method_35_code
abbrev y_MD_gain : MethodName := ⟨"BoostForestsModel", "gain", "(I)J"⟩
abbrev b_MD_downward : ByteArray := prog_9_method_36_code
abbrev y_MD_downward : MethodName := ⟨"BoostForestsModel", "downward", "(JJ)J"⟩
abbrev b_MD_tellOf : ByteArray := prog_9_method_37_code
abbrev y_MD_tellOf : MethodName := ⟨"BoostForestsModel", "tellOf", "(IIIIII)J"⟩
abbrev b_MD_allTell : ByteArray := prog_9_method_38_code
abbrev y_MD_allTell : MethodName := ⟨"BoostForestsModel", "allTell", "(IIIII)J"⟩
abbrev b_MD_told : ByteArray := prog_9_method_39_code
abbrev y_MD_told : MethodName := ⟨"BoostForestsModel", "told", "(IIIII)J"⟩
abbrev b_MD_share : ByteArray := prog_9_method_40_code
abbrev y_MD_share : MethodName := ⟨"BoostForestsModel", "share", "(IIIII)J"⟩
abbrev b_MD_count : ByteArray := prog_9_method_41_code
abbrev y_MD_count : MethodName := ⟨"BoostForestsModel", "count", "(I)I"⟩
abbrev b_GR_init : ByteArray := prog_2_method_1_code
abbrev y_GR_init : MethodName := ⟨"BoostForests$Grower", "<init>", "()V"⟩
abbrev b_GR_sortRows : ByteArray := prog_2_method_2_code
abbrev y_GR_sortRows : MethodName := ⟨"BoostForests$Grower", "sortRows", "()V"⟩
abbrev b_GR_growTree : ByteArray := prog_2_method_3_code
abbrev y_GR_growTree : MethodName := ⟨"BoostForests$Grower", "growTree", "(LBoostForests$Tree;I[J)V"⟩
abbrev b_GR_hasDrawn : ByteArray := prog_2_method_4_code
abbrev y_GR_hasDrawn : MethodName := ⟨"BoostForests$Grower", "hasDrawn", "(I)Z"⟩
abbrev b_GR_drawRows : ByteArray := prog_2_method_5_code
abbrev y_GR_drawRows : MethodName := ⟨"BoostForests$Grower", "drawRows", "(I[J)V"⟩
abbrev b_GR_gatherNode : ByteArray := prog_2_method_6_code
abbrev y_GR_gatherNode : MethodName := ⟨"BoostForests$Grower", "gatherNode", "(I)V"⟩
abbrev b_GR_moveRows : ByteArray := prog_2_method_7_code
abbrev y_GR_moveRows : MethodName := ⟨"BoostForests$Grower", "moveRows", "(LBoostForests$Tree;I)V"⟩
abbrev b_GR_findSplit : ByteArray := prog_2_method_8_code
abbrev y_GR_findSplit : MethodName := ⟨"BoostForests$Grower", "findSplit", "(II)V"⟩
abbrev b_GR_tryColumn : ByteArray := prog_2_method_9_code
abbrev y_GR_tryColumn : MethodName := ⟨"BoostForests$Grower", "tryColumn", "(II)V"⟩
abbrev b_GR_trySplit : ByteArray := prog_2_method_10_code
abbrev y_GR_trySplit : MethodName := ⟨"BoostForests$Grower", "trySplit", "(III)V"⟩
abbrev b_GR_keepsSign : ByteArray := prog_2_method_11_code
abbrev y_GR_keepsSign : MethodName := ⟨"BoostForests$Grower", "keepsSign", "(IJJ)Z"⟩
abbrev b_GR_drawn : ByteArray := prog_2_method_12_code
abbrev y_GR_drawn : MethodName := ⟨"BoostForests$Grower", "drawn", "(I)I"⟩
abbrev b_SP_init : ByteArray := prog_3_method_1_code
abbrev y_SP_init : MethodName := ⟨"BoostForests$Split", "<init>", "()V"⟩
abbrev b_SP_forget : ByteArray := prog_3_method_2_code
abbrev y_SP_forget : MethodName := ⟨"BoostForests$Split", "forget", "(J)V"⟩
abbrev b_SP_become : ByteArray := prog_3_method_3_code
abbrev y_SP_become : MethodName := ⟨"BoostForests$Split", "become", "(IIIJ)V"⟩
abbrev b_SM_init : ByteArray := prog_4_method_1_code
abbrev y_SM_init : MethodName := ⟨"BoostForests$Sums", "<init>", "()V"⟩
abbrev b_SM_empty : ByteArray := prog_4_method_2_code
abbrev y_SM_empty : MethodName := ⟨"BoostForests$Sums", "empty", "()V"⟩
abbrev b_SM_addRow : ByteArray := prog_4_method_3_code
abbrev y_SM_addRow : MethodName := ⟨"BoostForests$Sums", "addRow", "(JI)V"⟩
abbrev b_SM_becomeSum : ByteArray := prog_4_method_4_code
abbrev y_SM_becomeSum : MethodName := ⟨"BoostForests$Sums", "becomeSum", "(LBoostForests$Sums;LBoostForests$Sums;)V"⟩
abbrev b_SM_becomeRest : ByteArray := prog_4_method_5_code
abbrev y_SM_becomeRest : MethodName := ⟨"BoostForests$Sums", "becomeRest", "(LBoostForests$Sums;LBoostForests$Sums;)V"⟩
abbrev b_SM_valueWith : ByteArray := prog_4_method_6_code
abbrev y_SM_valueWith : MethodName := ⟨"BoostForests$Sums", "valueWith", "(I)J"⟩
abbrev b_SM_worthWith : ByteArray := prog_4_method_7_code
abbrev y_SM_worthWith : MethodName := ⟨"BoostForests$Sums", "worthWith", "(I)J"⟩
abbrev b_TB_init : ByteArray := prog_5_method_1_code
abbrev y_TB_init : MethodName := ⟨"BoostForests$Table", "<init>", "()V"⟩
abbrev b_TB_append : ByteArray := prog_5_method_2_code
abbrev y_TB_append : MethodName := ⟨"BoostForests$Table", "append", "([III)I"⟩
abbrev b_TB_heldRows : ByteArray := prog_5_method_3_code
abbrev y_TB_heldRows : MethodName := ⟨"BoostForests$Table", "heldRows", "()I"⟩
abbrev b_TB_copyFrom : ByteArray := prog_5_method_4_code
abbrev y_TB_copyFrom : MethodName := ⟨"BoostForests$Table", "copyFrom", "(LBoostForests$Table;)V"⟩
abbrev b_TG_init : ByteArray := prog_6_method_1_code
abbrev y_TG_init : MethodName := ⟨"BoostForests$Training", "<init>", "()V"⟩
abbrev b_TG_run : ByteArray := prog_6_method_2_code
abbrev y_TG_run : MethodName := ⟨"BoostForests$Training", "run", "(LBoostForests$Table;[I)V"⟩
abbrev b_TG_begin : ByteArray := prog_6_method_3_code
abbrev y_TG_begin : MethodName := ⟨"BoostForests$Training", "begin", "()V"⟩
abbrev b_TG_addTree : ByteArray := prog_6_method_4_code
abbrev y_TG_addTree : MethodName := ⟨"BoostForests$Training", "addTree", "(I)V"⟩
abbrev b_TG_keepLosses : ByteArray := prog_6_method_5_code
abbrev y_TG_keepLosses : MethodName := ⟨"BoostForests$Training", "keepLosses", "()V"⟩
abbrev b_TG_treesOfLeastLoss : ByteArray := prog_6_method_6_code
abbrev y_TG_treesOfLeastLoss : MethodName := ⟨"BoostForests$Training", "treesOfLeastLoss", "()I"⟩
abbrev b_TG_answerBy : ByteArray := prog_6_method_7_code
abbrev y_TG_answerBy : MethodName := ⟨"BoostForests$Training", "answerBy", "(I[I)J"⟩
abbrev b_TG_leftOut : ByteArray := prog_6_method_8_code
abbrev y_TG_leftOut : MethodName := ⟨"BoostForests$Training", "leftOut", "(I)J"⟩
abbrev b_TG_gainBy : ByteArray := prog_6_method_9_code
abbrev y_TG_gainBy : MethodName := ⟨"BoostForests$Training", "gainBy", "(I)J"⟩
abbrev b_TG_tellAll : ByteArray := prog_6_method_10_code
abbrev y_TG_tellAll : MethodName := ⟨"BoostForests$Training", "tellAll", "(I[I)J"⟩
abbrev b_TG_fairShare : ByteArray := prog_6_method_11_code
abbrev y_TG_fairShare : MethodName := ⟨"BoostForests$Training", "fairShare", "(I[I)J"⟩
abbrev b_TG_tellTree : ByteArray := prog_6_method_12_code
abbrev y_TG_tellTree : MethodName := ⟨"BoostForests$Training", "tellTree", "(LBoostForests$Tree;I[I)J"⟩
abbrev b_TG_tellBoth : ByteArray := prog_6_method_13_code
abbrev y_TG_tellBoth : MethodName := ⟨"BoostForests$Training", "tellBoth", "(LBoostForests$Tree;I)J"⟩
abbrev b_TG_addOf : ByteArray := prog_6_method_14_code
abbrev y_TG_addOf : MethodName := ⟨"BoostForests$Training", "addOf", "(LBoostForests$Tree;[I)J"⟩
abbrev b_TG_shrunk : ByteArray := prog_6_method_15_code
abbrev y_TG_shrunk : MethodName := ⟨"BoostForests$Training", "shrunk", "(J)J"⟩
abbrev b_TG_baseUnits : ByteArray := prog_6_method_16_code
abbrev y_TG_baseUnits : MethodName := ⟨"BoostForests$Training", "baseUnits", "()J"⟩
abbrev b_TR_init : ByteArray := prog_7_method_1_code
abbrev y_TR_init : MethodName := ⟨"BoostForests$Tree", "<init>", "()V"⟩
abbrev b_TR_appendNode : ByteArray := prog_7_method_2_code
abbrev y_TR_appendNode : MethodName := ⟨"BoostForests$Tree", "appendNode", "(I)V"⟩
abbrev b_TR_keepSums : ByteArray := prog_7_method_3_code
abbrev y_TR_keepSums : MethodName := ⟨"BoostForests$Tree", "keepSums", "(ILBoostForests$Sums;I)V"⟩
abbrev b_TR_mayDivide : ByteArray := prog_7_method_4_code
abbrev y_TR_mayDivide : MethodName := ⟨"BoostForests$Tree", "mayDivide", "(II)Z"⟩
abbrev b_TR_divide : ByteArray := prog_7_method_5_code
abbrev y_TR_divide : MethodName := ⟨"BoostForests$Tree", "divide", "(ILBoostForests$Split;)V"⟩
abbrev b_TR_stepFrom : ByteArray := prog_7_method_6_code
abbrev y_TR_stepFrom : MethodName := ⟨"BoostForests$Tree", "stepFrom", "(I[I)I"⟩
abbrev b_TR_leafOf : ByteArray := prog_7_method_7_code
abbrev y_TR_leafOf : MethodName := ⟨"BoostForests$Tree", "leafOf", "([I)I"⟩
abbrev b_JO_init : ByteArray := object_method_1_code
abbrev y_JO_init : MethodName := ⟨"java/lang/Object", "<init>", "()V"⟩
abbrev b_JI_bitCount : ByteArray := prog_11_method_49_code
abbrev y_JI_bitCount : MethodName := ⟨"java/lang/Integer", "bitCount", "(I)I"⟩
abbrev b_JM_floorDiv : ByteArray := prog_12_method_49_code
abbrev y_JM_floorDiv : MethodName := ⟨"java/lang/Math", "floorDiv", "(JJ)J"⟩
abbrev b_JM_min : ByteArray := prog_12_method_70_code
abbrev y_JM_min : MethodName := ⟨"java/lang/Math", "min", "(JJ)J"⟩
theorem kw_1_0 : (Jvm.Cond.initialized "BoostForestsLaw") ∈ gw_tbl := List.mem_filter.mpr ⟨kt_1 _ (List.mem_of_getElem? (i := 0) rfl), rfl⟩
theorem kw_1_1 : (Jvm.Cond.initialized "BoostForests") ∈ gw_tbl := List.mem_filter.mpr ⟨kt_1 _ (List.mem_of_getElem? (i := 1) rfl), rfl⟩
theorem kw_1_2 : (Jvm.Cond.initialized "BoostForests$Table") ∈ gw_tbl := List.mem_filter.mpr ⟨kt_1 _ (List.mem_of_getElem? (i := 2) rfl), rfl⟩
theorem kw_1_3 : (Jvm.Cond.initialized "BoostForests$Training") ∈ gw_tbl := List.mem_filter.mpr ⟨kt_1 _ (List.mem_of_getElem? (i := 3) rfl), rfl⟩
theorem kw_1_4 : (Jvm.Cond.initialized "BoostForests$Grower") ∈ gw_tbl := List.mem_filter.mpr ⟨kt_1 _ (List.mem_of_getElem? (i := 4) rfl), rfl⟩
theorem kw_1_5 : (Jvm.Cond.initialized "BoostForests$Sums") ∈ gw_tbl := List.mem_filter.mpr ⟨kt_1 _ (List.mem_of_getElem? (i := 5) rfl), rfl⟩
theorem kw_1_6 : (Jvm.Cond.initialized "BoostForests$Split") ∈ gw_tbl := List.mem_filter.mpr ⟨kt_1 _ (List.mem_of_getElem? (i := 6) rfl), rfl⟩
theorem kw_1_7 : (Jvm.Cond.initialized "BoostForests$Tree") ∈ gw_tbl := List.mem_filter.mpr ⟨kt_1 _ (List.mem_of_getElem? (i := 7) rfl), rfl⟩
theorem kw_1_8 : (Jvm.Cond.initialized "BoostForestsModel") ∈ gw_tbl := List.mem_filter.mpr ⟨kt_1 _ (List.mem_of_getElem? (i := 8) rfl), rfl⟩
theorem kw_1_9 : (Jvm.Cond.initialized "java/lang/System") ∈ gw_tbl := List.mem_filter.mpr ⟨kt_1 _ (List.mem_of_getElem? (i := 9) rfl), rfl⟩
theorem kw_1_10 : (Jvm.Cond.initialized "java/lang/Math") ∈ gw_tbl := List.mem_filter.mpr ⟨kt_1 _ (List.mem_of_getElem? (i := 10) rfl), rfl⟩
theorem kw_1_11 : (Jvm.Cond.initialized "java/lang/Integer") ∈ gw_tbl := List.mem_filter.mpr ⟨kt_1 _ (List.mem_of_getElem? (i := 11) rfl), rfl⟩
theorem kw_1_12 : (Jvm.Cond.classLink "BoostForestsLaw" (7 : Nat) "BoostForests") ∈ gw_tbl := List.mem_filter.mpr ⟨kt_1 _ (List.mem_of_getElem? (i := 12) rfl), rfl⟩
theorem kw_1_13 : (Jvm.Cond.instantiable "BoostForests" (4 : Nat)) ∈ gw_tbl := List.mem_filter.mpr ⟨kt_1 _ (List.mem_of_getElem? (i := 13) rfl), rfl⟩
theorem kw_1_14 : (Jvm.Cond.methodLink "BoostForestsLaw" (9 : Nat) ({ cls := "BoostForests", name := "<init>", desc := "()V" } : Jvm.MethodName)) ∈ gw_tbl := List.mem_filter.mpr ⟨kt_1 _ (List.mem_of_getElem? (i := 14) rfl), rfl⟩
theorem kw_1_15 : (Jvm.Cond.instanceMethod ({ cls := "BoostForests", name := "<init>", desc := "()V" } : Jvm.MethodName)) ∈ gw_tbl := List.mem_filter.mpr ⟨kt_1 _ (List.mem_of_getElem? (i := 15) rfl), rfl⟩
theorem kw_1_16 : (Jvm.Cond.code ({ cls := "BoostForests", name := "<init>", desc := "()V" } : Jvm.MethodName) prog_1_method_1_code (1 : Nat) (Option.none : Option Jvm.ClassFile.FieldType)) ∈ gw_tbl := List.mem_filter.mpr ⟨kt_1 _ (List.mem_of_getElem? (i := 16) rfl), rfl⟩
theorem kw_1_17 : (Jvm.Cond.methodLink "BoostForests" (1 : Nat) ({ cls := "java/lang/Object", name := "<init>", desc := "()V" } : Jvm.MethodName)) ∈ gw_tbl := List.mem_filter.mpr ⟨kt_1 _ (List.mem_of_getElem? (i := 17) rfl), rfl⟩
theorem kw_1_18 : (Jvm.Cond.instanceMethod ({ cls := "java/lang/Object", name := "<init>", desc := "()V" } : Jvm.MethodName)) ∈ gw_tbl := List.mem_filter.mpr ⟨kt_1 _ (List.mem_of_getElem? (i := 18) rfl), rfl⟩
theorem kw_1_19 : (Jvm.Cond.code ({ cls := "java/lang/Object", name := "<init>", desc := "()V" } : Jvm.MethodName) object_method_1_code (1 : Nat) (Option.none : Option Jvm.ClassFile.FieldType)) ∈ gw_tbl := List.mem_filter.mpr ⟨kt_1 _ (List.mem_of_getElem? (i := 19) rfl), rfl⟩
theorem kw_1_20 : (Jvm.Cond.classLink "BoostForests" (7 : Nat) "BoostForests$Table") ∈ gw_tbl := List.mem_filter.mpr ⟨kt_1 _ (List.mem_of_getElem? (i := 20) rfl), rfl⟩
theorem kw_1_21 : (Jvm.Cond.instantiable "BoostForests$Table" (5 : Nat)) ∈ gw_tbl := List.mem_filter.mpr ⟨kt_1 _ (List.mem_of_getElem? (i := 21) rfl), rfl⟩
theorem kl_1_22 : (Jvm.Cond.methodLinkNest "BoostForests" (9 : Nat) ({ cls := "BoostForests$Table", name := "<init>", desc := "()V" } : Jvm.MethodName) "BoostForests") ∈ lw_tbl := kt_1 _ (List.mem_of_getElem? (i := 22) rfl)
theorem kw_1_23 : (Jvm.Cond.instanceMethod ({ cls := "BoostForests$Table", name := "<init>", desc := "()V" } : Jvm.MethodName)) ∈ gw_tbl := List.mem_filter.mpr ⟨kt_1 _ (List.mem_of_getElem? (i := 23) rfl), rfl⟩
theorem kw_1_24 : (Jvm.Cond.code ({ cls := "BoostForests$Table", name := "<init>", desc := "()V" } : Jvm.MethodName) prog_5_method_1_code (1 : Nat) (Option.none : Option Jvm.ClassFile.FieldType)) ∈ gw_tbl := List.mem_filter.mpr ⟨kt_1 _ (List.mem_of_getElem? (i := 24) rfl), rfl⟩
theorem kw_1_25 : (Jvm.Cond.methodLink "BoostForests$Table" (3 : Nat) ({ cls := "java/lang/Object", name := "<init>", desc := "()V" } : Jvm.MethodName)) ∈ gw_tbl := List.mem_filter.mpr ⟨kt_1 _ (List.mem_of_getElem? (i := 25) rfl), rfl⟩
theorem kw_1_26 : (Jvm.Cond.classLink "BoostForests$Table" (9 : Nat) "[[I") ∈ gw_tbl := List.mem_filter.mpr ⟨kt_1 _ (List.mem_of_getElem? (i := 26) rfl), rfl⟩
theorem kl_1_27 : (Jvm.Cond.arrayOver (Jvm.ClassFile.FieldType.array Jvm.ClassFile.FieldType.int)) ∈ lw_tbl := kt_1 _ (List.mem_of_getElem? (i := 27) rfl)
theorem kw_1_28 : (Jvm.Cond.fieldLink "BoostForests$Table" (11 : Nat) "BoostForests$Table" "cells" "[[I") ∈ gw_tbl := List.mem_filter.mpr ⟨kt_1 _ (List.mem_of_getElem? (i := 28) rfl), rfl⟩
theorem kw_1_29 : (Jvm.Cond.fieldLink "BoostForests$Grower" (67 : Nat) "BoostForests$Table" "cells" "[[I") ∈ gw_tbl := List.mem_filter.mpr ⟨kt_1 _ (List.mem_of_getElem? (i := 29) rfl), rfl⟩
theorem kw_1_30 : (Jvm.Cond.fieldLink "BoostForests$Training" (104 : Nat) "BoostForests$Table" "cells" "[[I") ∈ gw_tbl := List.mem_filter.mpr ⟨kt_1 _ (List.mem_of_getElem? (i := 30) rfl), rfl⟩
theorem kw_1_31 : (Jvm.Cond.fieldLink "BoostForests$Table" (16 : Nat) "BoostForests$Table" "aims" "[I") ∈ gw_tbl := List.mem_filter.mpr ⟨kt_1 _ (List.mem_of_getElem? (i := 31) rfl), rfl⟩
theorem kw_1_32 : (Jvm.Cond.fieldLink "BoostForests$Training" (116 : Nat) "BoostForests$Table" "aims" "[I") ∈ gw_tbl := List.mem_filter.mpr ⟨kt_1 _ (List.mem_of_getElem? (i := 32) rfl), rfl⟩
theorem kw_1_33 : (Jvm.Cond.fieldLink "BoostForests$Grower" (120 : Nat) "BoostForests$Table" "aims" "[I") ∈ gw_tbl := List.mem_filter.mpr ⟨kt_1 _ (List.mem_of_getElem? (i := 33) rfl), rfl⟩
theorem kw_1_34 : (Jvm.Cond.fieldLink "BoostForests$Table" (20 : Nat) "BoostForests$Table" "weights" "[I") ∈ gw_tbl := List.mem_filter.mpr ⟨kt_1 _ (List.mem_of_getElem? (i := 34) rfl), rfl⟩
theorem kw_1_35 : (Jvm.Cond.fieldLink "BoostForests$Grower" (117 : Nat) "BoostForests$Table" "weights" "[I") ∈ gw_tbl := List.mem_filter.mpr ⟨kt_1 _ (List.mem_of_getElem? (i := 35) rfl), rfl⟩
theorem kw_1_36 : (Jvm.Cond.fieldLink "BoostForests$Training" (123 : Nat) "BoostForests$Table" "weights" "[I") ∈ gw_tbl := List.mem_filter.mpr ⟨kt_1 _ (List.mem_of_getElem? (i := 36) rfl), rfl⟩
theorem kw_1_37 : (Jvm.Cond.fieldLink "BoostForests$Table" (23 : Nat) "BoostForests$Table" "held" "[Z") ∈ gw_tbl := List.mem_filter.mpr ⟨kt_1 _ (List.mem_of_getElem? (i := 37) rfl), rfl⟩
theorem kw_1_38 : (Jvm.Cond.fieldLink "BoostForests" (62 : Nat) "BoostForests$Table" "held" "[Z") ∈ gw_tbl := List.mem_filter.mpr ⟨kt_1 _ (List.mem_of_getElem? (i := 38) rfl), rfl⟩
theorem kw_1_39 : (Jvm.Cond.fieldLink "BoostForests$Grower" (109 : Nat) "BoostForests$Table" "held" "[Z") ∈ gw_tbl := List.mem_filter.mpr ⟨kt_1 _ (List.mem_of_getElem? (i := 39) rfl), rfl⟩
theorem kw_1_40 : (Jvm.Cond.fieldLink "BoostForests$Training" (119 : Nat) "BoostForests$Table" "held" "[Z") ∈ gw_tbl := List.mem_filter.mpr ⟨kt_1 _ (List.mem_of_getElem? (i := 40) rfl), rfl⟩
theorem kw_1_41 : (Jvm.Cond.fieldLink "BoostForests$Table" (27 : Nat) "BoostForests$Table" "number" "I") ∈ gw_tbl := List.mem_filter.mpr ⟨kt_1 _ (List.mem_of_getElem? (i := 41) rfl), rfl⟩
theorem kw_1_42 : (Jvm.Cond.fieldLink "BoostForests$Grower" (63 : Nat) "BoostForests$Table" "number" "I") ∈ gw_tbl := List.mem_filter.mpr ⟨kt_1 _ (List.mem_of_getElem? (i := 42) rfl), rfl⟩
theorem kw_1_43 : (Jvm.Cond.fieldLink "BoostForests" (54 : Nat) "BoostForests$Table" "number" "I") ∈ gw_tbl := List.mem_filter.mpr ⟨kt_1 _ (List.mem_of_getElem? (i := 43) rfl), rfl⟩
theorem kw_1_44 : (Jvm.Cond.fieldLink "BoostForests$Training" (91 : Nat) "BoostForests$Table" "number" "I") ∈ gw_tbl := List.mem_filter.mpr ⟨kt_1 _ (List.mem_of_getElem? (i := 44) rfl), rfl⟩
theorem kw_1_45 : (Jvm.Cond.laysFinal "BoostForests$Table" "BoostForests$Table" "cells" "[[I") ∈ gw_tbl := List.mem_filter.mpr ⟨kt_1 _ (List.mem_of_getElem? (i := 45) rfl), rfl⟩
theorem kl_1_46 : (Jvm.Cond.soleField "BoostForests$Table" "cells") ∈ lw_tbl := kt_1 _ (List.mem_of_getElem? (i := 46) rfl)
theorem kw_1_47 : (Jvm.Cond.laysFinal "BoostForests$Table" "BoostForests$Table" "aims" "[I") ∈ gw_tbl := List.mem_filter.mpr ⟨kt_1 _ (List.mem_of_getElem? (i := 47) rfl), rfl⟩
theorem kl_1_48 : (Jvm.Cond.soleField "BoostForests$Table" "aims") ∈ lw_tbl := kt_1 _ (List.mem_of_getElem? (i := 48) rfl)
theorem kw_1_49 : (Jvm.Cond.laysFinal "BoostForests$Table" "BoostForests$Table" "weights" "[I") ∈ gw_tbl := List.mem_filter.mpr ⟨kt_1 _ (List.mem_of_getElem? (i := 49) rfl), rfl⟩
theorem kl_1_50 : (Jvm.Cond.soleField "BoostForests$Table" "weights") ∈ lw_tbl := kt_1 _ (List.mem_of_getElem? (i := 50) rfl)
theorem kw_1_51 : (Jvm.Cond.laysFinal "BoostForests$Table" "BoostForests$Table" "held" "[Z") ∈ gw_tbl := List.mem_filter.mpr ⟨kt_1 _ (List.mem_of_getElem? (i := 51) rfl), rfl⟩
theorem kl_1_52 : (Jvm.Cond.soleField "BoostForests$Table" "held") ∈ lw_tbl := kt_1 _ (List.mem_of_getElem? (i := 52) rfl)
theorem kw_1_53 : (Jvm.Cond.lays "BoostForests$Table" "BoostForests$Table" "number" "I") ∈ gw_tbl := List.mem_filter.mpr ⟨kt_1 _ (List.mem_of_getElem? (i := 53) rfl), rfl⟩
theorem kl_1_54 : (Jvm.Cond.soleField "BoostForests$Table" "number") ∈ lw_tbl := kt_1 _ (List.mem_of_getElem? (i := 54) rfl)
theorem kl_1_55 : (Jvm.Cond.superclass "BoostForests$Table" "java/lang/Object") ∈ lw_tbl := kt_1 _ (List.mem_of_getElem? (i := 55) rfl)
theorem kw_1_56 : (Jvm.Cond.arrayClass Jvm.ClassFile.FieldType.int) ∈ gw_tbl := List.mem_filter.mpr ⟨kt_1 _ (List.mem_of_getElem? (i := 56) rfl), rfl⟩
theorem kw_1_57 : (Jvm.Cond.arrayClass Jvm.ClassFile.FieldType.boolean) ∈ gw_tbl := List.mem_filter.mpr ⟨kt_1 _ (List.mem_of_getElem? (i := 57) rfl), rfl⟩
theorem kw_1_58 : (Jvm.Cond.fieldLink "BoostForests" (16 : Nat) "BoostForests" "AT_FIRST" "[I") ∈ gw_tbl := List.mem_filter.mpr ⟨kt_1 _ (List.mem_of_getElem? (i := 58) rfl), rfl⟩
theorem kl_1_59 : (Jvm.Cond.laysStatic "BoostForests" "AT_FIRST" "[I") ∈ lw_tbl := kt_1 _ (List.mem_of_getElem? (i := 59) rfl)
theorem kw_1_60 : (Jvm.Cond.methodLink "BoostForests" (20 : Nat) ({ cls := "[I", name := "clone", desc := "()Ljava/lang/Object;" } : Jvm.MethodName)) ∈ gw_tbl := List.mem_filter.mpr ⟨kt_1 _ (List.mem_of_getElem? (i := 60) rfl), rfl⟩
theorem kl_1_61 : (Jvm.Cond.sameMethod "[I" "java/lang/Object" "clone" "()Ljava/lang/Object;") ∈ lw_tbl := kt_1 _ (List.mem_of_getElem? (i := 61) rfl)
theorem kw_1_62 : (Jvm.Cond.native ({ cls := "java/lang/Object", name := "clone", desc := "()Ljava/lang/Object;" } : Jvm.MethodName)) ∈ gw_tbl := List.mem_filter.mpr ⟨kt_1 _ (List.mem_of_getElem? (i := 62) rfl), rfl⟩
theorem kw_1_63 : (Jvm.Cond.instanceMethod ({ cls := "java/lang/Object", name := "clone", desc := "()Ljava/lang/Object;" } : Jvm.MethodName)) ∈ gw_tbl := List.mem_filter.mpr ⟨kt_1 _ (List.mem_of_getElem? (i := 63) rfl), rfl⟩
theorem kw_1_64 : (Jvm.Cond.selects "[I" ({ cls := "[I", name := "clone", desc := "()Ljava/lang/Object;" } : Jvm.MethodName) ({ cls := "java/lang/Object", name := "clone", desc := "()Ljava/lang/Object;" } : Jvm.MethodName)) ∈ gw_tbl := List.mem_filter.mpr ⟨kt_1 _ (List.mem_of_getElem? (i := 64) rfl), rfl⟩
theorem kl_1_65 : (Jvm.Cond.castable "[I" "java/lang/Cloneable") ∈ lw_tbl := kt_1 _ (List.mem_of_getElem? (i := 65) rfl)
theorem kw_1_66 : (Jvm.Cond.classLink "BoostForests" (21 : Nat) "[I") ∈ gw_tbl := List.mem_filter.mpr ⟨kt_1 _ (List.mem_of_getElem? (i := 66) rfl), rfl⟩
theorem kw_1_67 : (Jvm.Cond.classLink "BoostForests" (28 : Nat) "BoostForests$Training") ∈ gw_tbl := List.mem_filter.mpr ⟨kt_1 _ (List.mem_of_getElem? (i := 67) rfl), rfl⟩
theorem kw_1_68 : (Jvm.Cond.instantiable "BoostForests$Training" (10 : Nat)) ∈ gw_tbl := List.mem_filter.mpr ⟨kt_1 _ (List.mem_of_getElem? (i := 68) rfl), rfl⟩
theorem kw_1_69 : (Jvm.Cond.methodLink "BoostForests" (30 : Nat) ({ cls := "BoostForests$Training", name := "<init>", desc := "()V" } : Jvm.MethodName)) ∈ gw_tbl := List.mem_filter.mpr ⟨kt_1 _ (List.mem_of_getElem? (i := 69) rfl), rfl⟩
theorem kw_1_70 : (Jvm.Cond.instanceMethod ({ cls := "BoostForests$Training", name := "<init>", desc := "()V" } : Jvm.MethodName)) ∈ gw_tbl := List.mem_filter.mpr ⟨kt_1 _ (List.mem_of_getElem? (i := 70) rfl), rfl⟩
theorem kw_1_71 : (Jvm.Cond.code ({ cls := "BoostForests$Training", name := "<init>", desc := "()V" } : Jvm.MethodName) prog_6_method_1_code (2 : Nat) (Option.none : Option Jvm.ClassFile.FieldType)) ∈ gw_tbl := List.mem_filter.mpr ⟨kt_1 _ (List.mem_of_getElem? (i := 71) rfl), rfl⟩
theorem kw_1_72 : (Jvm.Cond.methodLink "BoostForests$Training" (3 : Nat) ({ cls := "java/lang/Object", name := "<init>", desc := "()V" } : Jvm.MethodName)) ∈ gw_tbl := List.mem_filter.mpr ⟨kt_1 _ (List.mem_of_getElem? (i := 72) rfl), rfl⟩
theorem kw_1_73 : (Jvm.Cond.classLink "BoostForests$Training" (9 : Nat) "BoostForests$Grower") ∈ gw_tbl := List.mem_filter.mpr ⟨kt_1 _ (List.mem_of_getElem? (i := 73) rfl), rfl⟩
theorem kw_1_74 : (Jvm.Cond.instantiable "BoostForests$Grower" (12 : Nat)) ∈ gw_tbl := List.mem_filter.mpr ⟨kt_1 _ (List.mem_of_getElem? (i := 74) rfl), rfl⟩
theorem kl_1_75 : (Jvm.Cond.methodLinkNest "BoostForests$Training" (11 : Nat) ({ cls := "BoostForests$Grower", name := "<init>", desc := "()V" } : Jvm.MethodName) "BoostForests") ∈ lw_tbl := kt_1 _ (List.mem_of_getElem? (i := 75) rfl)
theorem kw_1_76 : (Jvm.Cond.instanceMethod ({ cls := "BoostForests$Grower", name := "<init>", desc := "()V" } : Jvm.MethodName)) ∈ gw_tbl := List.mem_filter.mpr ⟨kt_1 _ (List.mem_of_getElem? (i := 76) rfl), rfl⟩
theorem kw_1_77 : (Jvm.Cond.code ({ cls := "BoostForests$Grower", name := "<init>", desc := "()V" } : Jvm.MethodName) prog_2_method_1_code (1 : Nat) (Option.none : Option Jvm.ClassFile.FieldType)) ∈ gw_tbl := List.mem_filter.mpr ⟨kt_1 _ (List.mem_of_getElem? (i := 77) rfl), rfl⟩
theorem kw_1_78 : (Jvm.Cond.methodLink "BoostForests$Grower" (3 : Nat) ({ cls := "java/lang/Object", name := "<init>", desc := "()V" } : Jvm.MethodName)) ∈ gw_tbl := List.mem_filter.mpr ⟨kt_1 _ (List.mem_of_getElem? (i := 78) rfl), rfl⟩
theorem kw_1_79 : (Jvm.Cond.classLink "BoostForests$Grower" (9 : Nat) "BoostForests$Table") ∈ gw_tbl := List.mem_filter.mpr ⟨kt_1 _ (List.mem_of_getElem? (i := 79) rfl), rfl⟩
theorem kl_1_80 : (Jvm.Cond.methodLinkNest "BoostForests$Grower" (11 : Nat) ({ cls := "BoostForests$Table", name := "<init>", desc := "()V" } : Jvm.MethodName) "BoostForests") ∈ lw_tbl := kt_1 _ (List.mem_of_getElem? (i := 80) rfl)
theorem kw_1_81 : (Jvm.Cond.classLink "BoostForests$Grower" (22 : Nat) "[[I") ∈ gw_tbl := List.mem_filter.mpr ⟨kt_1 _ (List.mem_of_getElem? (i := 81) rfl), rfl⟩
theorem kw_1_82 : (Jvm.Cond.classLink "BoostForests$Grower" (34 : Nat) "BoostForests$Sums") ∈ gw_tbl := List.mem_filter.mpr ⟨kt_1 _ (List.mem_of_getElem? (i := 82) rfl), rfl⟩
theorem kw_1_83 : (Jvm.Cond.instantiable "BoostForests$Sums" (3 : Nat)) ∈ gw_tbl := List.mem_filter.mpr ⟨kt_1 _ (List.mem_of_getElem? (i := 83) rfl), rfl⟩
theorem kl_1_84 : (Jvm.Cond.methodLinkNest "BoostForests$Grower" (36 : Nat) ({ cls := "BoostForests$Sums", name := "<init>", desc := "()V" } : Jvm.MethodName) "BoostForests") ∈ lw_tbl := kt_1 _ (List.mem_of_getElem? (i := 84) rfl)
theorem kw_1_85 : (Jvm.Cond.instanceMethod ({ cls := "BoostForests$Sums", name := "<init>", desc := "()V" } : Jvm.MethodName)) ∈ gw_tbl := List.mem_filter.mpr ⟨kt_1 _ (List.mem_of_getElem? (i := 85) rfl), rfl⟩
theorem kw_1_86 : (Jvm.Cond.code ({ cls := "BoostForests$Sums", name := "<init>", desc := "()V" } : Jvm.MethodName) prog_4_method_1_code (1 : Nat) (Option.none : Option Jvm.ClassFile.FieldType)) ∈ gw_tbl := List.mem_filter.mpr ⟨kt_1 _ (List.mem_of_getElem? (i := 86) rfl), rfl⟩
theorem kw_1_87 : (Jvm.Cond.methodLink "BoostForests$Sums" (1 : Nat) ({ cls := "java/lang/Object", name := "<init>", desc := "()V" } : Jvm.MethodName)) ∈ gw_tbl := List.mem_filter.mpr ⟨kt_1 _ (List.mem_of_getElem? (i := 87) rfl), rfl⟩
theorem kw_1_88 : (Jvm.Cond.fieldLink "BoostForests$Sums" (7 : Nat) "BoostForests$Sums" "rows" "I") ∈ gw_tbl := List.mem_filter.mpr ⟨kt_1 _ (List.mem_of_getElem? (i := 88) rfl), rfl⟩
theorem kw_1_89 : (Jvm.Cond.fieldLink "BoostForests$Tree" (25 : Nat) "BoostForests$Sums" "rows" "I") ∈ gw_tbl := List.mem_filter.mpr ⟨kt_1 _ (List.mem_of_getElem? (i := 89) rfl), rfl⟩
theorem kw_1_90 : (Jvm.Cond.fieldLink "BoostForests$Grower" (146 : Nat) "BoostForests$Sums" "rows" "I") ∈ gw_tbl := List.mem_filter.mpr ⟨kt_1 _ (List.mem_of_getElem? (i := 90) rfl), rfl⟩
theorem kw_1_91 : (Jvm.Cond.fieldLink "BoostForests$Sums" (13 : Nat) "BoostForests$Sums" "h" "I") ∈ gw_tbl := List.mem_filter.mpr ⟨kt_1 _ (List.mem_of_getElem? (i := 91) rfl), rfl⟩
theorem kw_1_92 : (Jvm.Cond.fieldLink "BoostForests$Tree" (30 : Nat) "BoostForests$Sums" "h" "I") ∈ gw_tbl := List.mem_filter.mpr ⟨kt_1 _ (List.mem_of_getElem? (i := 92) rfl), rfl⟩
theorem kw_1_93 : (Jvm.Cond.fieldLink "BoostForests$Sums" (16 : Nat) "BoostForests$Sums" "g" "J") ∈ gw_tbl := List.mem_filter.mpr ⟨kt_1 _ (List.mem_of_getElem? (i := 93) rfl), rfl⟩
theorem kw_1_94 : (Jvm.Cond.fieldLink "BoostForests$Tree" (33 : Nat) "BoostForests$Sums" "g" "J") ∈ gw_tbl := List.mem_filter.mpr ⟨kt_1 _ (List.mem_of_getElem? (i := 94) rfl), rfl⟩
theorem kw_1_95 : (Jvm.Cond.lays "BoostForests$Sums" "BoostForests$Sums" "rows" "I") ∈ gw_tbl := List.mem_filter.mpr ⟨kt_1 _ (List.mem_of_getElem? (i := 95) rfl), rfl⟩
theorem kl_1_96 : (Jvm.Cond.soleField "BoostForests$Sums" "rows") ∈ lw_tbl := kt_1 _ (List.mem_of_getElem? (i := 96) rfl)
theorem kw_1_97 : (Jvm.Cond.lays "BoostForests$Sums" "BoostForests$Sums" "h" "I") ∈ gw_tbl := List.mem_filter.mpr ⟨kt_1 _ (List.mem_of_getElem? (i := 97) rfl), rfl⟩
theorem kl_1_98 : (Jvm.Cond.soleField "BoostForests$Sums" "h") ∈ lw_tbl := kt_1 _ (List.mem_of_getElem? (i := 98) rfl)
theorem kw_1_99 : (Jvm.Cond.lays "BoostForests$Sums" "BoostForests$Sums" "g" "J") ∈ gw_tbl := List.mem_filter.mpr ⟨kt_1 _ (List.mem_of_getElem? (i := 99) rfl), rfl⟩
theorem kl_1_100 : (Jvm.Cond.soleField "BoostForests$Sums" "g") ∈ lw_tbl := kt_1 _ (List.mem_of_getElem? (i := 100) rfl)
theorem kl_1_101 : (Jvm.Cond.superclass "BoostForests$Sums" "java/lang/Object") ∈ lw_tbl := kt_1 _ (List.mem_of_getElem? (i := 101) rfl)
theorem kw_1_102 : (Jvm.Cond.arrayClass Jvm.ClassFile.FieldType.long) ∈ gw_tbl := List.mem_filter.mpr ⟨kt_1 _ (List.mem_of_getElem? (i := 102) rfl), rfl⟩
theorem kw_1_103 : (Jvm.Cond.classLink "BoostForests$Grower" (56 : Nat) "BoostForests$Split") ∈ gw_tbl := List.mem_filter.mpr ⟨kt_1 _ (List.mem_of_getElem? (i := 103) rfl), rfl⟩
theorem kw_1_104 : (Jvm.Cond.instantiable "BoostForests$Split" (4 : Nat)) ∈ gw_tbl := List.mem_filter.mpr ⟨kt_1 _ (List.mem_of_getElem? (i := 104) rfl), rfl⟩
theorem kl_1_105 : (Jvm.Cond.methodLinkNest "BoostForests$Grower" (58 : Nat) ({ cls := "BoostForests$Split", name := "<init>", desc := "()V" } : Jvm.MethodName) "BoostForests") ∈ lw_tbl := kt_1 _ (List.mem_of_getElem? (i := 105) rfl)
theorem kw_1_106 : (Jvm.Cond.instanceMethod ({ cls := "BoostForests$Split", name := "<init>", desc := "()V" } : Jvm.MethodName)) ∈ gw_tbl := List.mem_filter.mpr ⟨kt_1 _ (List.mem_of_getElem? (i := 106) rfl), rfl⟩
theorem kw_1_107 : (Jvm.Cond.code ({ cls := "BoostForests$Split", name := "<init>", desc := "()V" } : Jvm.MethodName) prog_3_method_1_code (1 : Nat) (Option.none : Option Jvm.ClassFile.FieldType)) ∈ gw_tbl := List.mem_filter.mpr ⟨kt_1 _ (List.mem_of_getElem? (i := 107) rfl), rfl⟩
theorem kw_1_108 : (Jvm.Cond.methodLink "BoostForests$Split" (3 : Nat) ({ cls := "java/lang/Object", name := "<init>", desc := "()V" } : Jvm.MethodName)) ∈ gw_tbl := List.mem_filter.mpr ⟨kt_1 _ (List.mem_of_getElem? (i := 108) rfl), rfl⟩
theorem kw_1_109 : (Jvm.Cond.fieldLink "BoostForests$Split" (15 : Nat) "BoostForests$Split" "column" "I") ∈ gw_tbl := List.mem_filter.mpr ⟨kt_1 _ (List.mem_of_getElem? (i := 109) rfl), rfl⟩
theorem kw_1_110 : (Jvm.Cond.fieldLink "BoostForests$Grower" (98 : Nat) "BoostForests$Split" "column" "I") ∈ gw_tbl := List.mem_filter.mpr ⟨kt_1 _ (List.mem_of_getElem? (i := 110) rfl), rfl⟩
theorem kw_1_111 : (Jvm.Cond.fieldLink "BoostForests$Tree" (41 : Nat) "BoostForests$Split" "column" "I") ∈ gw_tbl := List.mem_filter.mpr ⟨kt_1 _ (List.mem_of_getElem? (i := 111) rfl), rfl⟩
theorem kw_1_112 : (Jvm.Cond.fieldLink "BoostForests$Split" (19 : Nat) "BoostForests$Split" "cut" "I") ∈ gw_tbl := List.mem_filter.mpr ⟨kt_1 _ (List.mem_of_getElem? (i := 112) rfl), rfl⟩
theorem kw_1_113 : (Jvm.Cond.fieldLink "BoostForests$Tree" (46 : Nat) "BoostForests$Split" "cut" "I") ∈ gw_tbl := List.mem_filter.mpr ⟨kt_1 _ (List.mem_of_getElem? (i := 113) rfl), rfl⟩
theorem kw_1_114 : (Jvm.Cond.fieldLink "BoostForests$Split" (22 : Nat) "BoostForests$Split" "side" "I") ∈ gw_tbl := List.mem_filter.mpr ⟨kt_1 _ (List.mem_of_getElem? (i := 114) rfl), rfl⟩
theorem kw_1_115 : (Jvm.Cond.fieldLink "BoostForests$Tree" (49 : Nat) "BoostForests$Split" "side" "I") ∈ gw_tbl := List.mem_filter.mpr ⟨kt_1 _ (List.mem_of_getElem? (i := 115) rfl), rfl⟩
theorem kw_1_116 : (Jvm.Cond.fieldLink "BoostForests$Split" (25 : Nat) "BoostForests$Split" "difference" "J") ∈ gw_tbl := List.mem_filter.mpr ⟨kt_1 _ (List.mem_of_getElem? (i := 116) rfl), rfl⟩
theorem kw_1_117 : (Jvm.Cond.fieldLink "BoostForests$Tree" (52 : Nat) "BoostForests$Split" "difference" "J") ∈ gw_tbl := List.mem_filter.mpr ⟨kt_1 _ (List.mem_of_getElem? (i := 117) rfl), rfl⟩
theorem kw_1_118 : (Jvm.Cond.fieldLink "BoostForests$Grower" (159 : Nat) "BoostForests$Split" "difference" "J") ∈ gw_tbl := List.mem_filter.mpr ⟨kt_1 _ (List.mem_of_getElem? (i := 118) rfl), rfl⟩
theorem kw_1_119 : (Jvm.Cond.lays "BoostForests$Split" "BoostForests$Split" "column" "I") ∈ gw_tbl := List.mem_filter.mpr ⟨kt_1 _ (List.mem_of_getElem? (i := 119) rfl), rfl⟩
theorem kl_1_120 : (Jvm.Cond.soleField "BoostForests$Split" "column") ∈ lw_tbl := kt_1 _ (List.mem_of_getElem? (i := 120) rfl)
theorem kw_1_121 : (Jvm.Cond.lays "BoostForests$Split" "BoostForests$Split" "cut" "I") ∈ gw_tbl := List.mem_filter.mpr ⟨kt_1 _ (List.mem_of_getElem? (i := 121) rfl), rfl⟩
theorem kl_1_122 : (Jvm.Cond.soleField "BoostForests$Split" "cut") ∈ lw_tbl := kt_1 _ (List.mem_of_getElem? (i := 122) rfl)
theorem kw_1_123 : (Jvm.Cond.lays "BoostForests$Split" "BoostForests$Split" "side" "I") ∈ gw_tbl := List.mem_filter.mpr ⟨kt_1 _ (List.mem_of_getElem? (i := 123) rfl), rfl⟩
theorem kl_1_124 : (Jvm.Cond.soleField "BoostForests$Split" "side") ∈ lw_tbl := kt_1 _ (List.mem_of_getElem? (i := 124) rfl)
theorem kw_1_125 : (Jvm.Cond.lays "BoostForests$Split" "BoostForests$Split" "difference" "J") ∈ gw_tbl := List.mem_filter.mpr ⟨kt_1 _ (List.mem_of_getElem? (i := 125) rfl), rfl⟩
theorem kl_1_126 : (Jvm.Cond.soleField "BoostForests$Split" "difference") ∈ lw_tbl := kt_1 _ (List.mem_of_getElem? (i := 126) rfl)
theorem kl_1_127 : (Jvm.Cond.superclass "BoostForests$Split" "java/lang/Object") ∈ lw_tbl := kt_1 _ (List.mem_of_getElem? (i := 127) rfl)
theorem kw_1_128 : (Jvm.Cond.fieldLink "BoostForests$Grower" (12 : Nat) "BoostForests$Grower" "rows" "LBoostForests$Table;") ∈ gw_tbl := List.mem_filter.mpr ⟨kt_1 _ (List.mem_of_getElem? (i := 128) rfl), rfl⟩
theorem kw_1_129 : (Jvm.Cond.fieldLink "BoostForests$Training" (18 : Nat) "BoostForests$Grower" "rows" "LBoostForests$Table;") ∈ gw_tbl := List.mem_filter.mpr ⟨kt_1 _ (List.mem_of_getElem? (i := 129) rfl), rfl⟩
theorem kw_1_130 : (Jvm.Cond.fieldLink "BoostForests$Grower" (18 : Nat) "BoostForests$Grower" "chosen" "[I") ∈ gw_tbl := List.mem_filter.mpr ⟨kt_1 _ (List.mem_of_getElem? (i := 130) rfl), rfl⟩
theorem kw_1_131 : (Jvm.Cond.fieldLink "BoostForests$Training" (23 : Nat) "BoostForests$Grower" "chosen" "[I") ∈ gw_tbl := List.mem_filter.mpr ⟨kt_1 _ (List.mem_of_getElem? (i := 131) rfl), rfl⟩
theorem kw_1_132 : (Jvm.Cond.fieldLink "BoostForests$Grower" (24 : Nat) "BoostForests$Grower" "order" "[[I") ∈ gw_tbl := List.mem_filter.mpr ⟨kt_1 _ (List.mem_of_getElem? (i := 132) rfl), rfl⟩
theorem kw_1_133 : (Jvm.Cond.fieldLink "BoostForests$Grower" (27 : Nat) "BoostForests$Grower" "nodeOf" "[I") ∈ gw_tbl := List.mem_filter.mpr ⟨kt_1 _ (List.mem_of_getElem? (i := 133) rfl), rfl⟩
theorem kw_1_134 : (Jvm.Cond.fieldLink "BoostForests$Grower" (30 : Nat) "BoostForests$Grower" "slopes" "[J") ∈ gw_tbl := List.mem_filter.mpr ⟨kt_1 _ (List.mem_of_getElem? (i := 134) rfl), rfl⟩
theorem kw_1_135 : (Jvm.Cond.fieldLink "BoostForests$Grower" (37 : Nat) "BoostForests$Grower" "whole" "LBoostForests$Sums;") ∈ gw_tbl := List.mem_filter.mpr ⟨kt_1 _ (List.mem_of_getElem? (i := 135) rfl), rfl⟩
theorem kw_1_136 : (Jvm.Cond.fieldLink "BoostForests$Grower" (41 : Nat) "BoostForests$Grower" "missing" "LBoostForests$Sums;") ∈ gw_tbl := List.mem_filter.mpr ⟨kt_1 _ (List.mem_of_getElem? (i := 136) rfl), rfl⟩
theorem kw_1_137 : (Jvm.Cond.fieldLink "BoostForests$Grower" (44 : Nat) "BoostForests$Grower" "below" "LBoostForests$Sums;") ∈ gw_tbl := List.mem_filter.mpr ⟨kt_1 _ (List.mem_of_getElem? (i := 137) rfl), rfl⟩
theorem kw_1_138 : (Jvm.Cond.fieldLink "BoostForests$Grower" (47 : Nat) "BoostForests$Grower" "low" "LBoostForests$Sums;") ∈ gw_tbl := List.mem_filter.mpr ⟨kt_1 _ (List.mem_of_getElem? (i := 138) rfl), rfl⟩
theorem kw_1_139 : (Jvm.Cond.fieldLink "BoostForests$Grower" (50 : Nat) "BoostForests$Grower" "high" "LBoostForests$Sums;") ∈ gw_tbl := List.mem_filter.mpr ⟨kt_1 _ (List.mem_of_getElem? (i := 139) rfl), rfl⟩
theorem kw_1_140 : (Jvm.Cond.fieldLink "BoostForests$Grower" (53 : Nat) "BoostForests$Grower" "nothing" "LBoostForests$Sums;") ∈ gw_tbl := List.mem_filter.mpr ⟨kt_1 _ (List.mem_of_getElem? (i := 140) rfl), rfl⟩
theorem kw_1_141 : (Jvm.Cond.fieldLink "BoostForests$Grower" (59 : Nat) "BoostForests$Grower" "split" "LBoostForests$Split;") ∈ gw_tbl := List.mem_filter.mpr ⟨kt_1 _ (List.mem_of_getElem? (i := 141) rfl), rfl⟩
theorem kw_1_142 : (Jvm.Cond.laysFinal "BoostForests$Grower" "BoostForests$Grower" "rows" "LBoostForests$Table;") ∈ gw_tbl := List.mem_filter.mpr ⟨kt_1 _ (List.mem_of_getElem? (i := 142) rfl), rfl⟩
theorem kl_1_143 : (Jvm.Cond.soleField "BoostForests$Grower" "rows") ∈ lw_tbl := kt_1 _ (List.mem_of_getElem? (i := 143) rfl)
theorem kw_1_144 : (Jvm.Cond.laysFinal "BoostForests$Grower" "BoostForests$Grower" "chosen" "[I") ∈ gw_tbl := List.mem_filter.mpr ⟨kt_1 _ (List.mem_of_getElem? (i := 144) rfl), rfl⟩
theorem kl_1_145 : (Jvm.Cond.soleField "BoostForests$Grower" "chosen") ∈ lw_tbl := kt_1 _ (List.mem_of_getElem? (i := 145) rfl)
theorem kw_1_146 : (Jvm.Cond.laysFinal "BoostForests$Grower" "BoostForests$Grower" "order" "[[I") ∈ gw_tbl := List.mem_filter.mpr ⟨kt_1 _ (List.mem_of_getElem? (i := 146) rfl), rfl⟩
theorem kl_1_147 : (Jvm.Cond.soleField "BoostForests$Grower" "order") ∈ lw_tbl := kt_1 _ (List.mem_of_getElem? (i := 147) rfl)
theorem kw_1_148 : (Jvm.Cond.laysFinal "BoostForests$Grower" "BoostForests$Grower" "nodeOf" "[I") ∈ gw_tbl := List.mem_filter.mpr ⟨kt_1 _ (List.mem_of_getElem? (i := 148) rfl), rfl⟩
theorem kl_1_149 : (Jvm.Cond.soleField "BoostForests$Grower" "nodeOf") ∈ lw_tbl := kt_1 _ (List.mem_of_getElem? (i := 149) rfl)
theorem kw_1_150 : (Jvm.Cond.laysFinal "BoostForests$Grower" "BoostForests$Grower" "slopes" "[J") ∈ gw_tbl := List.mem_filter.mpr ⟨kt_1 _ (List.mem_of_getElem? (i := 150) rfl), rfl⟩
theorem kl_1_151 : (Jvm.Cond.soleField "BoostForests$Grower" "slopes") ∈ lw_tbl := kt_1 _ (List.mem_of_getElem? (i := 151) rfl)
theorem kw_1_152 : (Jvm.Cond.laysFinal "BoostForests$Grower" "BoostForests$Grower" "whole" "LBoostForests$Sums;") ∈ gw_tbl := List.mem_filter.mpr ⟨kt_1 _ (List.mem_of_getElem? (i := 152) rfl), rfl⟩
theorem kl_1_153 : (Jvm.Cond.soleField "BoostForests$Grower" "whole") ∈ lw_tbl := kt_1 _ (List.mem_of_getElem? (i := 153) rfl)
theorem kw_1_154 : (Jvm.Cond.laysFinal "BoostForests$Grower" "BoostForests$Grower" "missing" "LBoostForests$Sums;") ∈ gw_tbl := List.mem_filter.mpr ⟨kt_1 _ (List.mem_of_getElem? (i := 154) rfl), rfl⟩
theorem kl_1_155 : (Jvm.Cond.soleField "BoostForests$Grower" "missing") ∈ lw_tbl := kt_1 _ (List.mem_of_getElem? (i := 155) rfl)
theorem kw_1_156 : (Jvm.Cond.laysFinal "BoostForests$Grower" "BoostForests$Grower" "below" "LBoostForests$Sums;") ∈ gw_tbl := List.mem_filter.mpr ⟨kt_1 _ (List.mem_of_getElem? (i := 156) rfl), rfl⟩
theorem kl_1_157 : (Jvm.Cond.soleField "BoostForests$Grower" "below") ∈ lw_tbl := kt_1 _ (List.mem_of_getElem? (i := 157) rfl)
theorem kw_1_158 : (Jvm.Cond.laysFinal "BoostForests$Grower" "BoostForests$Grower" "low" "LBoostForests$Sums;") ∈ gw_tbl := List.mem_filter.mpr ⟨kt_1 _ (List.mem_of_getElem? (i := 158) rfl), rfl⟩
theorem kl_1_159 : (Jvm.Cond.soleField "BoostForests$Grower" "low") ∈ lw_tbl := kt_1 _ (List.mem_of_getElem? (i := 159) rfl)
theorem kw_1_160 : (Jvm.Cond.laysFinal "BoostForests$Grower" "BoostForests$Grower" "high" "LBoostForests$Sums;") ∈ gw_tbl := List.mem_filter.mpr ⟨kt_1 _ (List.mem_of_getElem? (i := 160) rfl), rfl⟩
theorem kl_1_161 : (Jvm.Cond.soleField "BoostForests$Grower" "high") ∈ lw_tbl := kt_1 _ (List.mem_of_getElem? (i := 161) rfl)
theorem kw_1_162 : (Jvm.Cond.laysFinal "BoostForests$Grower" "BoostForests$Grower" "nothing" "LBoostForests$Sums;") ∈ gw_tbl := List.mem_filter.mpr ⟨kt_1 _ (List.mem_of_getElem? (i := 162) rfl), rfl⟩
theorem kl_1_163 : (Jvm.Cond.soleField "BoostForests$Grower" "nothing") ∈ lw_tbl := kt_1 _ (List.mem_of_getElem? (i := 163) rfl)
theorem kw_1_164 : (Jvm.Cond.laysFinal "BoostForests$Grower" "BoostForests$Grower" "split" "LBoostForests$Split;") ∈ gw_tbl := List.mem_filter.mpr ⟨kt_1 _ (List.mem_of_getElem? (i := 164) rfl), rfl⟩
theorem kl_1_165 : (Jvm.Cond.soleField "BoostForests$Grower" "split") ∈ lw_tbl := kt_1 _ (List.mem_of_getElem? (i := 165) rfl)
theorem kl_1_166 : (Jvm.Cond.superclass "BoostForests$Grower" "java/lang/Object") ∈ lw_tbl := kt_1 _ (List.mem_of_getElem? (i := 166) rfl)
theorem kw_1_167 : (Jvm.Cond.classLink "BoostForests$Training" (28 : Nat) "BoostForests$Tree") ∈ gw_tbl := List.mem_filter.mpr ⟨kt_1 _ (List.mem_of_getElem? (i := 167) rfl), rfl⟩
theorem kl_1_168 : (Jvm.Cond.arrayOver (Jvm.ClassFile.FieldType.object "BoostForests$Tree")) ∈ lw_tbl := kt_1 _ (List.mem_of_getElem? (i := 168) rfl)
theorem kw_1_169 : (Jvm.Cond.classLink "BoostForests$Training" (41 : Nat) "[[J") ∈ gw_tbl := List.mem_filter.mpr ⟨kt_1 _ (List.mem_of_getElem? (i := 169) rfl), rfl⟩
theorem kl_1_170 : (Jvm.Cond.arrayOver (Jvm.ClassFile.FieldType.array Jvm.ClassFile.FieldType.long)) ∈ lw_tbl := kt_1 _ (List.mem_of_getElem? (i := 170) rfl)
theorem kw_1_171 : (Jvm.Cond.instantiable "BoostForests$Tree" (3 : Nat)) ∈ gw_tbl := List.mem_filter.mpr ⟨kt_1 _ (List.mem_of_getElem? (i := 171) rfl), rfl⟩
theorem kl_1_172 : (Jvm.Cond.methodLinkNest "BoostForests$Training" (49 : Nat) ({ cls := "BoostForests$Tree", name := "<init>", desc := "()V" } : Jvm.MethodName) "BoostForests") ∈ lw_tbl := kt_1 _ (List.mem_of_getElem? (i := 172) rfl)
theorem kw_1_173 : (Jvm.Cond.instanceMethod ({ cls := "BoostForests$Tree", name := "<init>", desc := "()V" } : Jvm.MethodName)) ∈ gw_tbl := List.mem_filter.mpr ⟨kt_1 _ (List.mem_of_getElem? (i := 173) rfl), rfl⟩
theorem kw_1_174 : (Jvm.Cond.code ({ cls := "BoostForests$Tree", name := "<init>", desc := "()V" } : Jvm.MethodName) prog_7_method_1_code (1 : Nat) (Option.none : Option Jvm.ClassFile.FieldType)) ∈ gw_tbl := List.mem_filter.mpr ⟨kt_1 _ (List.mem_of_getElem? (i := 174) rfl), rfl⟩
theorem kw_1_175 : (Jvm.Cond.methodLink "BoostForests$Tree" (3 : Nat) ({ cls := "java/lang/Object", name := "<init>", desc := "()V" } : Jvm.MethodName)) ∈ gw_tbl := List.mem_filter.mpr ⟨kt_1 _ (List.mem_of_getElem? (i := 175) rfl), rfl⟩
theorem kw_1_176 : (Jvm.Cond.classLink "BoostForests$Tree" (9 : Nat) "[[I") ∈ gw_tbl := List.mem_filter.mpr ⟨kt_1 _ (List.mem_of_getElem? (i := 176) rfl), rfl⟩
theorem kw_1_177 : (Jvm.Cond.classLink "BoostForests$Tree" (16 : Nat) "[[J") ∈ gw_tbl := List.mem_filter.mpr ⟨kt_1 _ (List.mem_of_getElem? (i := 177) rfl), rfl⟩
theorem kw_1_178 : (Jvm.Cond.fieldLink "BoostForests$Tree" (11 : Nat) "BoostForests$Tree" "facts" "[[I") ∈ gw_tbl := List.mem_filter.mpr ⟨kt_1 _ (List.mem_of_getElem? (i := 178) rfl), rfl⟩
theorem kw_1_179 : (Jvm.Cond.fieldLink "BoostForests" (90 : Nat) "BoostForests$Tree" "facts" "[[I") ∈ gw_tbl := List.mem_filter.mpr ⟨kt_1 _ (List.mem_of_getElem? (i := 179) rfl), rfl⟩
theorem kw_1_180 : (Jvm.Cond.fieldLink "BoostForests$Training" (129 : Nat) "BoostForests$Tree" "facts" "[[I") ∈ gw_tbl := List.mem_filter.mpr ⟨kt_1 _ (List.mem_of_getElem? (i := 180) rfl), rfl⟩
theorem kw_1_181 : (Jvm.Cond.fieldLink "BoostForests$Tree" (18 : Nat) "BoostForests$Tree" "sums" "[[J") ∈ gw_tbl := List.mem_filter.mpr ⟨kt_1 _ (List.mem_of_getElem? (i := 181) rfl), rfl⟩
theorem kw_1_182 : (Jvm.Cond.fieldLink "BoostForests" (96 : Nat) "BoostForests$Tree" "sums" "[[J") ∈ gw_tbl := List.mem_filter.mpr ⟨kt_1 _ (List.mem_of_getElem? (i := 182) rfl), rfl⟩
theorem kw_1_183 : (Jvm.Cond.fieldLink "BoostForests$Training" (132 : Nat) "BoostForests$Tree" "sums" "[[J") ∈ gw_tbl := List.mem_filter.mpr ⟨kt_1 _ (List.mem_of_getElem? (i := 183) rfl), rfl⟩
theorem kw_1_184 : (Jvm.Cond.fieldLink "BoostForests$Tree" (21 : Nat) "BoostForests$Tree" "nodes" "I") ∈ gw_tbl := List.mem_filter.mpr ⟨kt_1 _ (List.mem_of_getElem? (i := 184) rfl), rfl⟩
theorem kw_1_185 : (Jvm.Cond.fieldLink "BoostForests$Grower" (74 : Nat) "BoostForests$Tree" "nodes" "I") ∈ gw_tbl := List.mem_filter.mpr ⟨kt_1 _ (List.mem_of_getElem? (i := 185) rfl), rfl⟩
theorem kw_1_186 : (Jvm.Cond.fieldLink "BoostForests" (100 : Nat) "BoostForests$Tree" "nodes" "I") ∈ gw_tbl := List.mem_filter.mpr ⟨kt_1 _ (List.mem_of_getElem? (i := 186) rfl), rfl⟩
theorem kw_1_187 : (Jvm.Cond.fieldLink "BoostForests$Training" (126 : Nat) "BoostForests$Tree" "nodes" "I") ∈ gw_tbl := List.mem_filter.mpr ⟨kt_1 _ (List.mem_of_getElem? (i := 187) rfl), rfl⟩
theorem kw_1_188 : (Jvm.Cond.laysFinal "BoostForests$Tree" "BoostForests$Tree" "facts" "[[I") ∈ gw_tbl := List.mem_filter.mpr ⟨kt_1 _ (List.mem_of_getElem? (i := 188) rfl), rfl⟩
theorem kl_1_189 : (Jvm.Cond.soleField "BoostForests$Tree" "facts") ∈ lw_tbl := kt_1 _ (List.mem_of_getElem? (i := 189) rfl)
theorem kw_1_190 : (Jvm.Cond.laysFinal "BoostForests$Tree" "BoostForests$Tree" "sums" "[[J") ∈ gw_tbl := List.mem_filter.mpr ⟨kt_1 _ (List.mem_of_getElem? (i := 190) rfl), rfl⟩
theorem kl_1_191 : (Jvm.Cond.soleField "BoostForests$Tree" "sums") ∈ lw_tbl := kt_1 _ (List.mem_of_getElem? (i := 191) rfl)
theorem kw_1_192 : (Jvm.Cond.lays "BoostForests$Tree" "BoostForests$Tree" "nodes" "I") ∈ gw_tbl := List.mem_filter.mpr ⟨kt_1 _ (List.mem_of_getElem? (i := 192) rfl), rfl⟩
theorem kl_1_193 : (Jvm.Cond.soleField "BoostForests$Tree" "nodes") ∈ lw_tbl := kt_1 _ (List.mem_of_getElem? (i := 193) rfl)
theorem kl_1_194 : (Jvm.Cond.superclass "BoostForests$Tree" "java/lang/Object") ∈ lw_tbl := kt_1 _ (List.mem_of_getElem? (i := 194) rfl)
theorem kw_1_195 : (Jvm.Cond.fieldLink "BoostForests$Training" (12 : Nat) "BoostForests$Training" "grower" "LBoostForests$Grower;") ∈ gw_tbl := List.mem_filter.mpr ⟨kt_1 _ (List.mem_of_getElem? (i := 195) rfl), rfl⟩
theorem kw_1_196 : (Jvm.Cond.fieldLink "BoostForests$Training" (22 : Nat) "BoostForests$Training" "rows" "LBoostForests$Table;") ∈ gw_tbl := List.mem_filter.mpr ⟨kt_1 _ (List.mem_of_getElem? (i := 196) rfl), rfl⟩
theorem kw_1_197 : (Jvm.Cond.fieldLink "BoostForests" (149 : Nat) "BoostForests$Training" "rows" "LBoostForests$Table;") ∈ gw_tbl := List.mem_filter.mpr ⟨kt_1 _ (List.mem_of_getElem? (i := 197) rfl), rfl⟩
theorem kw_1_198 : (Jvm.Cond.fieldLink "BoostForests$Training" (27 : Nat) "BoostForests$Training" "chosen" "[I") ∈ gw_tbl := List.mem_filter.mpr ⟨kt_1 _ (List.mem_of_getElem? (i := 198) rfl), rfl⟩
theorem kw_1_199 : (Jvm.Cond.fieldLink "BoostForests$Training" (30 : Nat) "BoostForests$Training" "trees" "[LBoostForests$Tree;") ∈ gw_tbl := List.mem_filter.mpr ⟨kt_1 _ (List.mem_of_getElem? (i := 199) rfl), rfl⟩
theorem kw_1_200 : (Jvm.Cond.fieldLink "BoostForests" (86 : Nat) "BoostForests$Training" "trees" "[LBoostForests$Tree;") ∈ gw_tbl := List.mem_filter.mpr ⟨kt_1 _ (List.mem_of_getElem? (i := 200) rfl), rfl⟩
theorem kw_1_201 : (Jvm.Cond.fieldLink "BoostForests$Training" (34 : Nat) "BoostForests$Training" "f" "[J") ∈ gw_tbl := List.mem_filter.mpr ⟨kt_1 _ (List.mem_of_getElem? (i := 201) rfl), rfl⟩
theorem kw_1_202 : (Jvm.Cond.fieldLink "BoostForests$Training" (38 : Nat) "BoostForests$Training" "tookPart" "[I") ∈ gw_tbl := List.mem_filter.mpr ⟨kt_1 _ (List.mem_of_getElem? (i := 202) rfl), rfl⟩
theorem kw_1_203 : (Jvm.Cond.fieldLink "BoostForests" (131 : Nat) "BoostForests$Training" "tookPart" "[I") ∈ gw_tbl := List.mem_filter.mpr ⟨kt_1 _ (List.mem_of_getElem? (i := 203) rfl), rfl⟩
theorem kw_1_204 : (Jvm.Cond.fieldLink "BoostForests$Training" (43 : Nat) "BoostForests$Training" "losses" "[[J") ∈ gw_tbl := List.mem_filter.mpr ⟨kt_1 _ (List.mem_of_getElem? (i := 204) rfl), rfl⟩
theorem kw_1_205 : (Jvm.Cond.fieldLink "BoostForests" (117 : Nat) "BoostForests$Training" "losses" "[[J") ∈ gw_tbl := List.mem_filter.mpr ⟨kt_1 _ (List.mem_of_getElem? (i := 205) rfl), rfl⟩
theorem kw_1_206 : (Jvm.Cond.fieldLink "BoostForests$Training" (46 : Nat) "BoostForests$Training" "tells" "[J") ∈ gw_tbl := List.mem_filter.mpr ⟨kt_1 _ (List.mem_of_getElem? (i := 206) rfl), rfl⟩
theorem kw_1_207 : (Jvm.Cond.fieldLink "BoostForests$Training" (87 : Nat) "BoostForests$Training" "done" "Z") ∈ gw_tbl := List.mem_filter.mpr ⟨kt_1 _ (List.mem_of_getElem? (i := 207) rfl), rfl⟩
theorem kw_1_208 : (Jvm.Cond.fieldLink "BoostForests" (107 : Nat) "BoostForests$Training" "done" "Z") ∈ gw_tbl := List.mem_filter.mpr ⟨kt_1 _ (List.mem_of_getElem? (i := 208) rfl), rfl⟩
theorem kw_1_209 : (Jvm.Cond.fieldLink "BoostForests$Training" (77 : Nat) "BoostForests$Training" "made" "I") ∈ gw_tbl := List.mem_filter.mpr ⟨kt_1 _ (List.mem_of_getElem? (i := 209) rfl), rfl⟩
theorem kw_1_210 : (Jvm.Cond.fieldLink "BoostForests" (80 : Nat) "BoostForests$Training" "made" "I") ∈ gw_tbl := List.mem_filter.mpr ⟨kt_1 _ (List.mem_of_getElem? (i := 210) rfl), rfl⟩
theorem kw_1_211 : (Jvm.Cond.laysFinal "BoostForests$Training" "BoostForests$Training" "grower" "LBoostForests$Grower;") ∈ gw_tbl := List.mem_filter.mpr ⟨kt_1 _ (List.mem_of_getElem? (i := 211) rfl), rfl⟩
theorem kl_1_212 : (Jvm.Cond.soleField "BoostForests$Training" "grower") ∈ lw_tbl := kt_1 _ (List.mem_of_getElem? (i := 212) rfl)
theorem kw_1_213 : (Jvm.Cond.laysFinal "BoostForests$Training" "BoostForests$Training" "rows" "LBoostForests$Table;") ∈ gw_tbl := List.mem_filter.mpr ⟨kt_1 _ (List.mem_of_getElem? (i := 213) rfl), rfl⟩
theorem kl_1_214 : (Jvm.Cond.soleField "BoostForests$Training" "rows") ∈ lw_tbl := kt_1 _ (List.mem_of_getElem? (i := 214) rfl)
theorem kw_1_215 : (Jvm.Cond.laysFinal "BoostForests$Training" "BoostForests$Training" "chosen" "[I") ∈ gw_tbl := List.mem_filter.mpr ⟨kt_1 _ (List.mem_of_getElem? (i := 215) rfl), rfl⟩
theorem kl_1_216 : (Jvm.Cond.soleField "BoostForests$Training" "chosen") ∈ lw_tbl := kt_1 _ (List.mem_of_getElem? (i := 216) rfl)
theorem kw_1_217 : (Jvm.Cond.laysFinal "BoostForests$Training" "BoostForests$Training" "trees" "[LBoostForests$Tree;") ∈ gw_tbl := List.mem_filter.mpr ⟨kt_1 _ (List.mem_of_getElem? (i := 217) rfl), rfl⟩
theorem kl_1_218 : (Jvm.Cond.soleField "BoostForests$Training" "trees") ∈ lw_tbl := kt_1 _ (List.mem_of_getElem? (i := 218) rfl)
theorem kw_1_219 : (Jvm.Cond.laysFinal "BoostForests$Training" "BoostForests$Training" "f" "[J") ∈ gw_tbl := List.mem_filter.mpr ⟨kt_1 _ (List.mem_of_getElem? (i := 219) rfl), rfl⟩
theorem kl_1_220 : (Jvm.Cond.soleField "BoostForests$Training" "f") ∈ lw_tbl := kt_1 _ (List.mem_of_getElem? (i := 220) rfl)
theorem kw_1_221 : (Jvm.Cond.laysFinal "BoostForests$Training" "BoostForests$Training" "tookPart" "[I") ∈ gw_tbl := List.mem_filter.mpr ⟨kt_1 _ (List.mem_of_getElem? (i := 221) rfl), rfl⟩
theorem kl_1_222 : (Jvm.Cond.soleField "BoostForests$Training" "tookPart") ∈ lw_tbl := kt_1 _ (List.mem_of_getElem? (i := 222) rfl)
theorem kw_1_223 : (Jvm.Cond.laysFinal "BoostForests$Training" "BoostForests$Training" "losses" "[[J") ∈ gw_tbl := List.mem_filter.mpr ⟨kt_1 _ (List.mem_of_getElem? (i := 223) rfl), rfl⟩
theorem kl_1_224 : (Jvm.Cond.soleField "BoostForests$Training" "losses") ∈ lw_tbl := kt_1 _ (List.mem_of_getElem? (i := 224) rfl)
theorem kw_1_225 : (Jvm.Cond.laysFinal "BoostForests$Training" "BoostForests$Training" "tells" "[J") ∈ gw_tbl := List.mem_filter.mpr ⟨kt_1 _ (List.mem_of_getElem? (i := 225) rfl), rfl⟩
theorem kl_1_226 : (Jvm.Cond.soleField "BoostForests$Training" "tells") ∈ lw_tbl := kt_1 _ (List.mem_of_getElem? (i := 226) rfl)
theorem kw_1_227 : (Jvm.Cond.lays "BoostForests$Training" "BoostForests$Training" "done" "Z") ∈ gw_tbl := List.mem_filter.mpr ⟨kt_1 _ (List.mem_of_getElem? (i := 227) rfl), rfl⟩
theorem kl_1_228 : (Jvm.Cond.soleField "BoostForests$Training" "done") ∈ lw_tbl := kt_1 _ (List.mem_of_getElem? (i := 228) rfl)
theorem kw_1_229 : (Jvm.Cond.lays "BoostForests$Training" "BoostForests$Training" "made" "I") ∈ gw_tbl := List.mem_filter.mpr ⟨kt_1 _ (List.mem_of_getElem? (i := 229) rfl), rfl⟩
theorem kl_1_230 : (Jvm.Cond.soleField "BoostForests$Training" "made") ∈ lw_tbl := kt_1 _ (List.mem_of_getElem? (i := 230) rfl)
theorem kl_1_231 : (Jvm.Cond.superclass "BoostForests$Training" "java/lang/Object") ∈ lw_tbl := kt_1 _ (List.mem_of_getElem? (i := 231) rfl)
theorem kw_1_232 : (Jvm.Cond.fieldLink "BoostForests" (10 : Nat) "BoostForests" "table" "LBoostForests$Table;") ∈ gw_tbl := List.mem_filter.mpr ⟨kt_1 _ (List.mem_of_getElem? (i := 232) rfl), rfl⟩
theorem kw_1_233 : (Jvm.Cond.fieldLink "BoostForests" (25 : Nat) "BoostForests" "settings" "[I") ∈ gw_tbl := List.mem_filter.mpr ⟨kt_1 _ (List.mem_of_getElem? (i := 233) rfl), rfl⟩
theorem kw_1_234 : (Jvm.Cond.fieldLink "BoostForests" (31 : Nat) "BoostForests" "training" "LBoostForests$Training;") ∈ gw_tbl := List.mem_filter.mpr ⟨kt_1 _ (List.mem_of_getElem? (i := 234) rfl), rfl⟩
theorem kw_1_235 : (Jvm.Cond.fieldLink "BoostForests" (35 : Nat) "BoostForests" "asked" "[I") ∈ gw_tbl := List.mem_filter.mpr ⟨kt_1 _ (List.mem_of_getElem? (i := 235) rfl), rfl⟩
theorem kw_1_236 : (Jvm.Cond.laysFinal "BoostForests" "BoostForests" "table" "LBoostForests$Table;") ∈ gw_tbl := List.mem_filter.mpr ⟨kt_1 _ (List.mem_of_getElem? (i := 236) rfl), rfl⟩
theorem kl_1_237 : (Jvm.Cond.soleField "BoostForests" "table") ∈ lw_tbl := kt_1 _ (List.mem_of_getElem? (i := 237) rfl)
theorem kw_1_238 : (Jvm.Cond.laysFinal "BoostForests" "BoostForests" "settings" "[I") ∈ gw_tbl := List.mem_filter.mpr ⟨kt_1 _ (List.mem_of_getElem? (i := 238) rfl), rfl⟩
theorem kl_1_239 : (Jvm.Cond.soleField "BoostForests" "settings") ∈ lw_tbl := kt_1 _ (List.mem_of_getElem? (i := 239) rfl)
theorem kw_2_0 : (Jvm.Cond.laysFinal "BoostForests" "BoostForests" "training" "LBoostForests$Training;") ∈ gw_tbl := List.mem_filter.mpr ⟨kt_2 _ (List.mem_of_getElem? (i := 0) rfl), rfl⟩
theorem kl_2_1 : (Jvm.Cond.soleField "BoostForests" "training") ∈ lw_tbl := kt_2 _ (List.mem_of_getElem? (i := 1) rfl)
theorem kw_2_2 : (Jvm.Cond.laysFinal "BoostForests" "BoostForests" "asked" "[I") ∈ gw_tbl := List.mem_filter.mpr ⟨kt_2 _ (List.mem_of_getElem? (i := 2) rfl), rfl⟩
theorem kl_2_3 : (Jvm.Cond.soleField "BoostForests" "asked") ∈ lw_tbl := kt_2 _ (List.mem_of_getElem? (i := 3) rfl)
theorem kl_2_4 : (Jvm.Cond.superclass "BoostForests" "java/lang/Object") ∈ lw_tbl := kt_2 _ (List.mem_of_getElem? (i := 4) rfl)
theorem kw_2_5 : (Jvm.Cond.methodLink "BoostForestsLaw" (13 : Nat) ({ cls := "BoostForests", name := "row", desc := "(IIIIII)I" } : Jvm.MethodName)) ∈ gw_tbl := List.mem_filter.mpr ⟨kt_2 _ (List.mem_of_getElem? (i := 5) rfl), rfl⟩
theorem kw_2_6 : (Jvm.Cond.instanceMethod ({ cls := "BoostForests", name := "row", desc := "(IIIIII)I" } : Jvm.MethodName)) ∈ gw_tbl := List.mem_filter.mpr ⟨kt_2 _ (List.mem_of_getElem? (i := 6) rfl), rfl⟩
theorem kw_2_7 : (Jvm.Cond.selects "BoostForests" ({ cls := "BoostForests", name := "row", desc := "(IIIIII)I" } : Jvm.MethodName) ({ cls := "BoostForests", name := "row", desc := "(IIIIII)I" } : Jvm.MethodName)) ∈ gw_tbl := List.mem_filter.mpr ⟨kt_2 _ (List.mem_of_getElem? (i := 7) rfl), rfl⟩
theorem kw_2_8 : (Jvm.Cond.code ({ cls := "BoostForests", name := "row", desc := "(IIIIII)I" } : Jvm.MethodName) prog_1_method_2_code (7 : Nat) (Option.some Jvm.ClassFile.FieldType.int)) ∈ gw_tbl := List.mem_filter.mpr ⟨kt_2 _ (List.mem_of_getElem? (i := 8) rfl), rfl⟩
theorem kw_2_9 : (Jvm.Cond.methodLink "BoostForests" (38 : Nat) ({ cls := "BoostForests", name := "areCells", desc := "(IIII)Z" } : Jvm.MethodName)) ∈ gw_tbl := List.mem_filter.mpr ⟨kt_2 _ (List.mem_of_getElem? (i := 9) rfl), rfl⟩
theorem kw_2_10 : (Jvm.Cond.static ({ cls := "BoostForests", name := "areCells", desc := "(IIII)Z" } : Jvm.MethodName)) ∈ gw_tbl := List.mem_filter.mpr ⟨kt_2 _ (List.mem_of_getElem? (i := 10) rfl), rfl⟩
theorem kw_2_11 : (Jvm.Cond.code ({ cls := "BoostForests", name := "areCells", desc := "(IIII)Z" } : Jvm.MethodName) prog_1_method_23_code (4 : Nat) (Option.some Jvm.ClassFile.FieldType.boolean)) ∈ gw_tbl := List.mem_filter.mpr ⟨kt_2 _ (List.mem_of_getElem? (i := 11) rfl), rfl⟩
theorem kw_2_12 : (Jvm.Cond.methodLink "BoostForests" (42 : Nat) ({ cls := "BoostForests", name := "isWithin", desc := "(III)Z" } : Jvm.MethodName)) ∈ gw_tbl := List.mem_filter.mpr ⟨kt_2 _ (List.mem_of_getElem? (i := 12) rfl), rfl⟩
theorem kw_2_13 : (Jvm.Cond.static ({ cls := "BoostForests", name := "isWithin", desc := "(III)Z" } : Jvm.MethodName)) ∈ gw_tbl := List.mem_filter.mpr ⟨kt_2 _ (List.mem_of_getElem? (i := 13) rfl), rfl⟩
theorem kw_2_14 : (Jvm.Cond.code ({ cls := "BoostForests", name := "isWithin", desc := "(III)Z" } : Jvm.MethodName) prog_1_method_25_code (3 : Nat) (Option.some Jvm.ClassFile.FieldType.boolean)) ∈ gw_tbl := List.mem_filter.mpr ⟨kt_2 _ (List.mem_of_getElem? (i := 14) rfl), rfl⟩
theorem kw_2_15 : (Jvm.Cond.methodLink "BoostForests" (46 : Nat) ({ cls := "BoostForests", name := "keepAsked", desc := "(IIII)V" } : Jvm.MethodName)) ∈ gw_tbl := List.mem_filter.mpr ⟨kt_2 _ (List.mem_of_getElem? (i := 15) rfl), rfl⟩
theorem kl_2_16 : (Jvm.Cond.privateMethod ({ cls := "BoostForests", name := "keepAsked", desc := "(IIII)V" } : Jvm.MethodName)) ∈ lw_tbl := kt_2 _ (List.mem_of_getElem? (i := 16) rfl)
theorem kw_2_17 : (Jvm.Cond.instanceMethod ({ cls := "BoostForests", name := "keepAsked", desc := "(IIII)V" } : Jvm.MethodName)) ∈ gw_tbl := List.mem_filter.mpr ⟨kt_2 _ (List.mem_of_getElem? (i := 17) rfl), rfl⟩
theorem kw_2_18 : (Jvm.Cond.code ({ cls := "BoostForests", name := "keepAsked", desc := "(IIII)V" } : Jvm.MethodName) prog_1_method_22_code (5 : Nat) (Option.none : Option Jvm.ClassFile.FieldType)) ∈ gw_tbl := List.mem_filter.mpr ⟨kt_2 _ (List.mem_of_getElem? (i := 18) rfl), rfl⟩
theorem kw_2_19 : (Jvm.Cond.methodLink "BoostForests" (50 : Nat) ({ cls := "BoostForests$Table", name := "append", desc := "([III)I" } : Jvm.MethodName)) ∈ gw_tbl := List.mem_filter.mpr ⟨kt_2 _ (List.mem_of_getElem? (i := 19) rfl), rfl⟩
theorem kw_2_20 : (Jvm.Cond.instanceMethod ({ cls := "BoostForests$Table", name := "append", desc := "([III)I" } : Jvm.MethodName)) ∈ gw_tbl := List.mem_filter.mpr ⟨kt_2 _ (List.mem_of_getElem? (i := 20) rfl), rfl⟩
theorem kw_2_21 : (Jvm.Cond.selects "BoostForests$Table" ({ cls := "BoostForests$Table", name := "append", desc := "([III)I" } : Jvm.MethodName) ({ cls := "BoostForests$Table", name := "append", desc := "([III)I" } : Jvm.MethodName)) ∈ gw_tbl := List.mem_filter.mpr ⟨kt_2 _ (List.mem_of_getElem? (i := 21) rfl), rfl⟩
theorem kw_2_22 : (Jvm.Cond.code ({ cls := "BoostForests$Table", name := "append", desc := "([III)I" } : Jvm.MethodName) prog_5_method_2_code (5 : Nat) (Option.some Jvm.ClassFile.FieldType.int)) ∈ gw_tbl := List.mem_filter.mpr ⟨kt_2 _ (List.mem_of_getElem? (i := 22) rfl), rfl⟩
theorem kw_2_23 : (Jvm.Cond.methodLink "BoostForests$Table" (31 : Nat) ({ cls := "java/lang/System", name := "arraycopy", desc := "(Ljava/lang/Object;ILjava/lang/Object;II)V" } : Jvm.MethodName)) ∈ gw_tbl := List.mem_filter.mpr ⟨kt_2 _ (List.mem_of_getElem? (i := 23) rfl), rfl⟩
theorem kw_2_24 : (Jvm.Cond.static ({ cls := "java/lang/System", name := "arraycopy", desc := "(Ljava/lang/Object;ILjava/lang/Object;II)V" } : Jvm.MethodName)) ∈ gw_tbl := List.mem_filter.mpr ⟨kt_2 _ (List.mem_of_getElem? (i := 24) rfl), rfl⟩
theorem kw_2_25 : (Jvm.Cond.native ({ cls := "java/lang/System", name := "arraycopy", desc := "(Ljava/lang/Object;ILjava/lang/Object;II)V" } : Jvm.MethodName)) ∈ gw_tbl := List.mem_filter.mpr ⟨kt_2 _ (List.mem_of_getElem? (i := 25) rfl), rfl⟩
theorem kw_2_26 : (Jvm.Cond.methodLink "BoostForestsLaw" (18 : Nat) ({ cls := "BoostForests", name := "hold", desc := "(II)I" } : Jvm.MethodName)) ∈ gw_tbl := List.mem_filter.mpr ⟨kt_2 _ (List.mem_of_getElem? (i := 26) rfl), rfl⟩
theorem kw_2_27 : (Jvm.Cond.instanceMethod ({ cls := "BoostForests", name := "hold", desc := "(II)I" } : Jvm.MethodName)) ∈ gw_tbl := List.mem_filter.mpr ⟨kt_2 _ (List.mem_of_getElem? (i := 27) rfl), rfl⟩
theorem kw_2_28 : (Jvm.Cond.selects "BoostForests" ({ cls := "BoostForests", name := "hold", desc := "(II)I" } : Jvm.MethodName) ({ cls := "BoostForests", name := "hold", desc := "(II)I" } : Jvm.MethodName)) ∈ gw_tbl := List.mem_filter.mpr ⟨kt_2 _ (List.mem_of_getElem? (i := 28) rfl), rfl⟩
theorem kw_2_29 : (Jvm.Cond.code ({ cls := "BoostForests", name := "hold", desc := "(II)I" } : Jvm.MethodName) prog_1_method_3_code (4 : Nat) (Option.some Jvm.ClassFile.FieldType.int)) ∈ gw_tbl := List.mem_filter.mpr ⟨kt_2 _ (List.mem_of_getElem? (i := 29) rfl), rfl⟩
theorem kw_2_30 : (Jvm.Cond.methodLink "BoostForests" (58 : Nat) ({ cls := "BoostForests", name := "isIndex", desc := "(II)Z" } : Jvm.MethodName)) ∈ gw_tbl := List.mem_filter.mpr ⟨kt_2 _ (List.mem_of_getElem? (i := 30) rfl), rfl⟩
theorem kw_2_31 : (Jvm.Cond.static ({ cls := "BoostForests", name := "isIndex", desc := "(II)Z" } : Jvm.MethodName)) ∈ gw_tbl := List.mem_filter.mpr ⟨kt_2 _ (List.mem_of_getElem? (i := 31) rfl), rfl⟩
theorem kw_2_32 : (Jvm.Cond.code ({ cls := "BoostForests", name := "isIndex", desc := "(II)Z" } : Jvm.MethodName) prog_1_method_24_code (2 : Nat) (Option.some Jvm.ClassFile.FieldType.boolean)) ∈ gw_tbl := List.mem_filter.mpr ⟨kt_2 _ (List.mem_of_getElem? (i := 32) rfl), rfl⟩
theorem kw_2_33 : (Jvm.Cond.methodLink "BoostForestsLaw" (23 : Nat) ({ cls := "BoostForests", name := "set", desc := "(II)I" } : Jvm.MethodName)) ∈ gw_tbl := List.mem_filter.mpr ⟨kt_2 _ (List.mem_of_getElem? (i := 33) rfl), rfl⟩
theorem kw_2_34 : (Jvm.Cond.instanceMethod ({ cls := "BoostForests", name := "set", desc := "(II)I" } : Jvm.MethodName)) ∈ gw_tbl := List.mem_filter.mpr ⟨kt_2 _ (List.mem_of_getElem? (i := 34) rfl), rfl⟩
theorem kw_2_35 : (Jvm.Cond.selects "BoostForests" ({ cls := "BoostForests", name := "set", desc := "(II)I" } : Jvm.MethodName) ({ cls := "BoostForests", name := "set", desc := "(II)I" } : Jvm.MethodName)) ∈ gw_tbl := List.mem_filter.mpr ⟨kt_2 _ (List.mem_of_getElem? (i := 35) rfl), rfl⟩
theorem kw_2_36 : (Jvm.Cond.code ({ cls := "BoostForests", name := "set", desc := "(II)I" } : Jvm.MethodName) prog_1_method_4_code (4 : Nat) (Option.some Jvm.ClassFile.FieldType.int)) ∈ gw_tbl := List.mem_filter.mpr ⟨kt_2 _ (List.mem_of_getElem? (i := 36) rfl), rfl⟩
theorem kw_2_37 : (Jvm.Cond.fieldLink "BoostForests" (66 : Nat) "BoostForests" "LOWEST" "[I") ∈ gw_tbl := List.mem_filter.mpr ⟨kt_2 _ (List.mem_of_getElem? (i := 37) rfl), rfl⟩
theorem kl_2_38 : (Jvm.Cond.laysStatic "BoostForests" "LOWEST" "[I") ∈ lw_tbl := kt_2 _ (List.mem_of_getElem? (i := 38) rfl)
theorem kw_2_39 : (Jvm.Cond.fieldLink "BoostForests" (69 : Nat) "BoostForests" "HIGHEST" "[I") ∈ gw_tbl := List.mem_filter.mpr ⟨kt_2 _ (List.mem_of_getElem? (i := 39) rfl), rfl⟩
theorem kl_2_40 : (Jvm.Cond.laysStatic "BoostForests" "HIGHEST" "[I") ∈ lw_tbl := kt_2 _ (List.mem_of_getElem? (i := 40) rfl)
theorem kw_2_41 : (Jvm.Cond.methodLink "BoostForestsLaw" (27 : Nat) ({ cls := "BoostForests", name := "clear", desc := "()I" } : Jvm.MethodName)) ∈ gw_tbl := List.mem_filter.mpr ⟨kt_2 _ (List.mem_of_getElem? (i := 41) rfl), rfl⟩
theorem kw_2_42 : (Jvm.Cond.instanceMethod ({ cls := "BoostForests", name := "clear", desc := "()I" } : Jvm.MethodName)) ∈ gw_tbl := List.mem_filter.mpr ⟨kt_2 _ (List.mem_of_getElem? (i := 42) rfl), rfl⟩
theorem kw_2_43 : (Jvm.Cond.selects "BoostForests" ({ cls := "BoostForests", name := "clear", desc := "()I" } : Jvm.MethodName) ({ cls := "BoostForests", name := "clear", desc := "()I" } : Jvm.MethodName)) ∈ gw_tbl := List.mem_filter.mpr ⟨kt_2 _ (List.mem_of_getElem? (i := 43) rfl), rfl⟩
theorem kw_2_44 : (Jvm.Cond.code ({ cls := "BoostForests", name := "clear", desc := "()I" } : Jvm.MethodName) prog_1_method_5_code (2 : Nat) (Option.some Jvm.ClassFile.FieldType.int)) ∈ gw_tbl := List.mem_filter.mpr ⟨kt_2 _ (List.mem_of_getElem? (i := 44) rfl), rfl⟩
theorem kw_2_45 : (Jvm.Cond.methodLink "BoostForestsLaw" (32 : Nat) ({ cls := "BoostForests", name := "train", desc := "()I" } : Jvm.MethodName)) ∈ gw_tbl := List.mem_filter.mpr ⟨kt_2 _ (List.mem_of_getElem? (i := 45) rfl), rfl⟩
theorem kw_2_46 : (Jvm.Cond.instanceMethod ({ cls := "BoostForests", name := "train", desc := "()I" } : Jvm.MethodName)) ∈ gw_tbl := List.mem_filter.mpr ⟨kt_2 _ (List.mem_of_getElem? (i := 46) rfl), rfl⟩
theorem kw_2_47 : (Jvm.Cond.selects "BoostForests" ({ cls := "BoostForests", name := "train", desc := "()I" } : Jvm.MethodName) ({ cls := "BoostForests", name := "train", desc := "()I" } : Jvm.MethodName)) ∈ gw_tbl := List.mem_filter.mpr ⟨kt_2 _ (List.mem_of_getElem? (i := 47) rfl), rfl⟩
theorem kw_2_48 : (Jvm.Cond.code ({ cls := "BoostForests", name := "train", desc := "()I" } : Jvm.MethodName) prog_1_method_6_code (1 : Nat) (Option.some Jvm.ClassFile.FieldType.int)) ∈ gw_tbl := List.mem_filter.mpr ⟨kt_2 _ (List.mem_of_getElem? (i := 48) rfl), rfl⟩
theorem kw_2_49 : (Jvm.Cond.methodLink "BoostForests" (72 : Nat) ({ cls := "BoostForests$Table", name := "heldRows", desc := "()I" } : Jvm.MethodName)) ∈ gw_tbl := List.mem_filter.mpr ⟨kt_2 _ (List.mem_of_getElem? (i := 49) rfl), rfl⟩
theorem kw_2_50 : (Jvm.Cond.instanceMethod ({ cls := "BoostForests$Table", name := "heldRows", desc := "()I" } : Jvm.MethodName)) ∈ gw_tbl := List.mem_filter.mpr ⟨kt_2 _ (List.mem_of_getElem? (i := 50) rfl), rfl⟩
theorem kw_2_51 : (Jvm.Cond.selects "BoostForests$Table" ({ cls := "BoostForests$Table", name := "heldRows", desc := "()I" } : Jvm.MethodName) ({ cls := "BoostForests$Table", name := "heldRows", desc := "()I" } : Jvm.MethodName)) ∈ gw_tbl := List.mem_filter.mpr ⟨kt_2 _ (List.mem_of_getElem? (i := 51) rfl), rfl⟩
theorem kw_2_52 : (Jvm.Cond.code ({ cls := "BoostForests$Table", name := "heldRows", desc := "()I" } : Jvm.MethodName) prog_5_method_3_code (3 : Nat) (Option.some Jvm.ClassFile.FieldType.int)) ∈ gw_tbl := List.mem_filter.mpr ⟨kt_2 _ (List.mem_of_getElem? (i := 52) rfl), rfl⟩
theorem kw_2_53 : (Jvm.Cond.methodLink "BoostForests" (76 : Nat) ({ cls := "BoostForests$Training", name := "run", desc := "(LBoostForests$Table;[I)V" } : Jvm.MethodName)) ∈ gw_tbl := List.mem_filter.mpr ⟨kt_2 _ (List.mem_of_getElem? (i := 53) rfl), rfl⟩
theorem kw_2_54 : (Jvm.Cond.instanceMethod ({ cls := "BoostForests$Training", name := "run", desc := "(LBoostForests$Table;[I)V" } : Jvm.MethodName)) ∈ gw_tbl := List.mem_filter.mpr ⟨kt_2 _ (List.mem_of_getElem? (i := 54) rfl), rfl⟩
theorem kw_2_55 : (Jvm.Cond.selects "BoostForests$Training" ({ cls := "BoostForests$Training", name := "run", desc := "(LBoostForests$Table;[I)V" } : Jvm.MethodName) ({ cls := "BoostForests$Training", name := "run", desc := "(LBoostForests$Table;[I)V" } : Jvm.MethodName)) ∈ gw_tbl := List.mem_filter.mpr ⟨kt_2 _ (List.mem_of_getElem? (i := 55) rfl), rfl⟩
theorem kw_2_56 : (Jvm.Cond.code ({ cls := "BoostForests$Training", name := "run", desc := "(LBoostForests$Table;[I)V" } : Jvm.MethodName) prog_6_method_2_code (8 : Nat) (Option.none : Option Jvm.ClassFile.FieldType)) ∈ gw_tbl := List.mem_filter.mpr ⟨kt_2 _ (List.mem_of_getElem? (i := 56) rfl), rfl⟩
theorem kw_2_57 : (Jvm.Cond.methodLink "BoostForests$Training" (50 : Nat) ({ cls := "BoostForests$Table", name := "copyFrom", desc := "(LBoostForests$Table;)V" } : Jvm.MethodName)) ∈ gw_tbl := List.mem_filter.mpr ⟨kt_2 _ (List.mem_of_getElem? (i := 57) rfl), rfl⟩
theorem kw_2_58 : (Jvm.Cond.instanceMethod ({ cls := "BoostForests$Table", name := "copyFrom", desc := "(LBoostForests$Table;)V" } : Jvm.MethodName)) ∈ gw_tbl := List.mem_filter.mpr ⟨kt_2 _ (List.mem_of_getElem? (i := 58) rfl), rfl⟩
theorem kw_2_59 : (Jvm.Cond.selects "BoostForests$Table" ({ cls := "BoostForests$Table", name := "copyFrom", desc := "(LBoostForests$Table;)V" } : Jvm.MethodName) ({ cls := "BoostForests$Table", name := "copyFrom", desc := "(LBoostForests$Table;)V" } : Jvm.MethodName)) ∈ gw_tbl := List.mem_filter.mpr ⟨kt_2 _ (List.mem_of_getElem? (i := 59) rfl), rfl⟩
theorem kw_2_60 : (Jvm.Cond.code ({ cls := "BoostForests$Table", name := "copyFrom", desc := "(LBoostForests$Table;)V" } : Jvm.MethodName) prog_5_method_4_code (3 : Nat) (Option.none : Option Jvm.ClassFile.FieldType)) ∈ gw_tbl := List.mem_filter.mpr ⟨kt_2 _ (List.mem_of_getElem? (i := 60) rfl), rfl⟩
theorem kw_2_61 : (Jvm.Cond.methodLink "BoostForests$Table" (37 : Nat) ({ cls := "BoostForests$Table", name := "append", desc := "([III)I" } : Jvm.MethodName)) ∈ gw_tbl := List.mem_filter.mpr ⟨kt_2 _ (List.mem_of_getElem? (i := 61) rfl), rfl⟩
theorem kw_2_62 : (Jvm.Cond.methodLink "BoostForests$Training" (56 : Nat) ({ cls := "java/lang/System", name := "arraycopy", desc := "(Ljava/lang/Object;ILjava/lang/Object;II)V" } : Jvm.MethodName)) ∈ gw_tbl := List.mem_filter.mpr ⟨kt_2 _ (List.mem_of_getElem? (i := 62) rfl), rfl⟩
theorem kw_2_63 : (Jvm.Cond.methodLink "BoostForests$Training" (62 : Nat) ({ cls := "BoostForests$Training", name := "begin", desc := "()V" } : Jvm.MethodName)) ∈ gw_tbl := List.mem_filter.mpr ⟨kt_2 _ (List.mem_of_getElem? (i := 63) rfl), rfl⟩
theorem kl_2_64 : (Jvm.Cond.privateMethod ({ cls := "BoostForests$Training", name := "begin", desc := "()V" } : Jvm.MethodName)) ∈ lw_tbl := kt_2 _ (List.mem_of_getElem? (i := 64) rfl)
theorem kw_2_65 : (Jvm.Cond.instanceMethod ({ cls := "BoostForests$Training", name := "begin", desc := "()V" } : Jvm.MethodName)) ∈ gw_tbl := List.mem_filter.mpr ⟨kt_2 _ (List.mem_of_getElem? (i := 65) rfl), rfl⟩
theorem kw_2_66 : (Jvm.Cond.code ({ cls := "BoostForests$Training", name := "begin", desc := "()V" } : Jvm.MethodName) prog_6_method_3_code (2 : Nat) (Option.none : Option Jvm.ClassFile.FieldType)) ∈ gw_tbl := List.mem_filter.mpr ⟨kt_2 _ (List.mem_of_getElem? (i := 66) rfl), rfl⟩
theorem kw_2_67 : (Jvm.Cond.methodLink "BoostForests$Training" (94 : Nat) ({ cls := "BoostForests$Training", name := "baseUnits", desc := "()J" } : Jvm.MethodName)) ∈ gw_tbl := List.mem_filter.mpr ⟨kt_2 _ (List.mem_of_getElem? (i := 67) rfl), rfl⟩
theorem kl_2_68 : (Jvm.Cond.privateMethod ({ cls := "BoostForests$Training", name := "baseUnits", desc := "()J" } : Jvm.MethodName)) ∈ lw_tbl := kt_2 _ (List.mem_of_getElem? (i := 68) rfl)
theorem kw_2_69 : (Jvm.Cond.instanceMethod ({ cls := "BoostForests$Training", name := "baseUnits", desc := "()J" } : Jvm.MethodName)) ∈ gw_tbl := List.mem_filter.mpr ⟨kt_2 _ (List.mem_of_getElem? (i := 69) rfl), rfl⟩
theorem kw_2_70 : (Jvm.Cond.code ({ cls := "BoostForests$Training", name := "baseUnits", desc := "()J" } : Jvm.MethodName) prog_6_method_16_code (1 : Nat) (Option.some Jvm.ClassFile.FieldType.long)) ∈ gw_tbl := List.mem_filter.mpr ⟨kt_2 _ (List.mem_of_getElem? (i := 70) rfl), rfl⟩
theorem kw_2_71 : (Jvm.Cond.constantLong "BoostForests$Training" (168 : Nat) (256 : Int64)) ∈ gw_tbl := List.mem_filter.mpr ⟨kt_2 _ (List.mem_of_getElem? (i := 71) rfl), rfl⟩
theorem kw_2_72 : (Jvm.Cond.methodLink "BoostForests$Training" (98 : Nat) ({ cls := "BoostForests$Training", name := "keepLosses", desc := "()V" } : Jvm.MethodName)) ∈ gw_tbl := List.mem_filter.mpr ⟨kt_2 _ (List.mem_of_getElem? (i := 72) rfl), rfl⟩
theorem kl_2_73 : (Jvm.Cond.privateMethod ({ cls := "BoostForests$Training", name := "keepLosses", desc := "()V" } : Jvm.MethodName)) ∈ lw_tbl := kt_2 _ (List.mem_of_getElem? (i := 73) rfl)
theorem kw_2_74 : (Jvm.Cond.instanceMethod ({ cls := "BoostForests$Training", name := "keepLosses", desc := "()V" } : Jvm.MethodName)) ∈ gw_tbl := List.mem_filter.mpr ⟨kt_2 _ (List.mem_of_getElem? (i := 74) rfl), rfl⟩
theorem kw_2_75 : (Jvm.Cond.code ({ cls := "BoostForests$Training", name := "keepLosses", desc := "()V" } : Jvm.MethodName) prog_6_method_5_code (4 : Nat) (Option.none : Option Jvm.ClassFile.FieldType)) ∈ gw_tbl := List.mem_filter.mpr ⟨kt_2 _ (List.mem_of_getElem? (i := 75) rfl), rfl⟩
theorem kw_2_76 : (Jvm.Cond.methodLink "BoostForests$Training" (101 : Nat) ({ cls := "BoostForests$Grower", name := "sortRows", desc := "()V" } : Jvm.MethodName)) ∈ gw_tbl := List.mem_filter.mpr ⟨kt_2 _ (List.mem_of_getElem? (i := 76) rfl), rfl⟩
theorem kw_2_77 : (Jvm.Cond.instanceMethod ({ cls := "BoostForests$Grower", name := "sortRows", desc := "()V" } : Jvm.MethodName)) ∈ gw_tbl := List.mem_filter.mpr ⟨kt_2 _ (List.mem_of_getElem? (i := 77) rfl), rfl⟩
theorem kw_2_78 : (Jvm.Cond.selects "BoostForests$Grower" ({ cls := "BoostForests$Grower", name := "sortRows", desc := "()V" } : Jvm.MethodName) ({ cls := "BoostForests$Grower", name := "sortRows", desc := "()V" } : Jvm.MethodName)) ∈ gw_tbl := List.mem_filter.mpr ⟨kt_2 _ (List.mem_of_getElem? (i := 78) rfl), rfl⟩
theorem kw_2_79 : (Jvm.Cond.code ({ cls := "BoostForests$Grower", name := "sortRows", desc := "()V" } : Jvm.MethodName) prog_2_method_2_code (4 : Nat) (Option.none : Option Jvm.ClassFile.FieldType)) ∈ gw_tbl := List.mem_filter.mpr ⟨kt_2 _ (List.mem_of_getElem? (i := 79) rfl), rfl⟩
theorem kw_2_80 : (Jvm.Cond.methodLink "BoostForests$Training" (65 : Nat) ({ cls := "BoostForests$Table", name := "heldRows", desc := "()I" } : Jvm.MethodName)) ∈ gw_tbl := List.mem_filter.mpr ⟨kt_2 _ (List.mem_of_getElem? (i := 80) rfl), rfl⟩
theorem kw_2_81 : (Jvm.Cond.methodLink "BoostForests$Training" (69 : Nat) ({ cls := "BoostForests$Grower", name := "growTree", desc := "(LBoostForests$Tree;I[J)V" } : Jvm.MethodName)) ∈ gw_tbl := List.mem_filter.mpr ⟨kt_2 _ (List.mem_of_getElem? (i := 81) rfl), rfl⟩
theorem kw_2_82 : (Jvm.Cond.instanceMethod ({ cls := "BoostForests$Grower", name := "growTree", desc := "(LBoostForests$Tree;I[J)V" } : Jvm.MethodName)) ∈ gw_tbl := List.mem_filter.mpr ⟨kt_2 _ (List.mem_of_getElem? (i := 82) rfl), rfl⟩
theorem kw_2_83 : (Jvm.Cond.selects "BoostForests$Grower" ({ cls := "BoostForests$Grower", name := "growTree", desc := "(LBoostForests$Tree;I[J)V" } : Jvm.MethodName) ({ cls := "BoostForests$Grower", name := "growTree", desc := "(LBoostForests$Tree;I[J)V" } : Jvm.MethodName)) ∈ gw_tbl := List.mem_filter.mpr ⟨kt_2 _ (List.mem_of_getElem? (i := 83) rfl), rfl⟩
theorem kw_2_84 : (Jvm.Cond.code ({ cls := "BoostForests$Grower", name := "growTree", desc := "(LBoostForests$Tree;I[J)V" } : Jvm.MethodName) prog_2_method_3_code (5 : Nat) (Option.none : Option Jvm.ClassFile.FieldType)) ∈ gw_tbl := List.mem_filter.mpr ⟨kt_2 _ (List.mem_of_getElem? (i := 84) rfl), rfl⟩
theorem kw_2_85 : (Jvm.Cond.methodLink "BoostForests$Grower" (70 : Nat) ({ cls := "BoostForests$Grower", name := "drawRows", desc := "(I[J)V" } : Jvm.MethodName)) ∈ gw_tbl := List.mem_filter.mpr ⟨kt_2 _ (List.mem_of_getElem? (i := 85) rfl), rfl⟩
theorem kl_2_86 : (Jvm.Cond.privateMethod ({ cls := "BoostForests$Grower", name := "drawRows", desc := "(I[J)V" } : Jvm.MethodName)) ∈ lw_tbl := kt_2 _ (List.mem_of_getElem? (i := 86) rfl)
theorem kw_2_87 : (Jvm.Cond.instanceMethod ({ cls := "BoostForests$Grower", name := "drawRows", desc := "(I[J)V" } : Jvm.MethodName)) ∈ gw_tbl := List.mem_filter.mpr ⟨kt_2 _ (List.mem_of_getElem? (i := 87) rfl), rfl⟩
theorem kw_2_88 : (Jvm.Cond.code ({ cls := "BoostForests$Grower", name := "drawRows", desc := "(I[J)V" } : Jvm.MethodName) prog_2_method_5_code (5 : Nat) (Option.none : Option Jvm.ClassFile.FieldType)) ∈ gw_tbl := List.mem_filter.mpr ⟨kt_2 _ (List.mem_of_getElem? (i := 88) rfl), rfl⟩
theorem kw_2_89 : (Jvm.Cond.methodLink "BoostForests$Grower" (113 : Nat) ({ cls := "BoostForests$Grower", name := "drawn", desc := "(I)I" } : Jvm.MethodName)) ∈ gw_tbl := List.mem_filter.mpr ⟨kt_2 _ (List.mem_of_getElem? (i := 89) rfl), rfl⟩
theorem kl_2_90 : (Jvm.Cond.privateMethod ({ cls := "BoostForests$Grower", name := "drawn", desc := "(I)I" } : Jvm.MethodName)) ∈ lw_tbl := kt_2 _ (List.mem_of_getElem? (i := 90) rfl)
theorem kw_2_91 : (Jvm.Cond.instanceMethod ({ cls := "BoostForests$Grower", name := "drawn", desc := "(I)I" } : Jvm.MethodName)) ∈ gw_tbl := List.mem_filter.mpr ⟨kt_2 _ (List.mem_of_getElem? (i := 91) rfl), rfl⟩
theorem kw_2_92 : (Jvm.Cond.code ({ cls := "BoostForests$Grower", name := "drawn", desc := "(I)I" } : Jvm.MethodName) prog_2_method_12_code (3 : Nat) (Option.some Jvm.ClassFile.FieldType.int)) ∈ gw_tbl := List.mem_filter.mpr ⟨kt_2 _ (List.mem_of_getElem? (i := 92) rfl), rfl⟩
theorem kw_2_93 : (Jvm.Cond.constant "BoostForests$Grower" (174 : Nat) (1000003 : Int32)) ∈ gw_tbl := List.mem_filter.mpr ⟨kt_2 _ (List.mem_of_getElem? (i := 93) rfl), rfl⟩
theorem kw_2_94 : (Jvm.Cond.constant "BoostForests$Grower" (175 : Nat) (739982445 : Int32)) ∈ gw_tbl := List.mem_filter.mpr ⟨kt_2 _ (List.mem_of_getElem? (i := 94) rfl), rfl⟩
theorem kw_2_95 : (Jvm.Cond.constant "BoostForests$Grower" (176 : Nat) (695872825 : Int32)) ∈ gw_tbl := List.mem_filter.mpr ⟨kt_2 _ (List.mem_of_getElem? (i := 95) rfl), rfl⟩
theorem kw_2_96 : (Jvm.Cond.methodLink "BoostForests$Grower" (79 : Nat) ({ cls := "BoostForests$Tree", name := "appendNode", desc := "(I)V" } : Jvm.MethodName)) ∈ gw_tbl := List.mem_filter.mpr ⟨kt_2 _ (List.mem_of_getElem? (i := 96) rfl), rfl⟩
theorem kw_2_97 : (Jvm.Cond.instanceMethod ({ cls := "BoostForests$Tree", name := "appendNode", desc := "(I)V" } : Jvm.MethodName)) ∈ gw_tbl := List.mem_filter.mpr ⟨kt_2 _ (List.mem_of_getElem? (i := 97) rfl), rfl⟩
theorem kw_2_98 : (Jvm.Cond.selects "BoostForests$Tree" ({ cls := "BoostForests$Tree", name := "appendNode", desc := "(I)V" } : Jvm.MethodName) ({ cls := "BoostForests$Tree", name := "appendNode", desc := "(I)V" } : Jvm.MethodName)) ∈ gw_tbl := List.mem_filter.mpr ⟨kt_2 _ (List.mem_of_getElem? (i := 98) rfl), rfl⟩
theorem kw_2_99 : (Jvm.Cond.code ({ cls := "BoostForests$Tree", name := "appendNode", desc := "(I)V" } : Jvm.MethodName) prog_7_method_2_code (3 : Nat) (Option.none : Option Jvm.ClassFile.FieldType)) ∈ gw_tbl := List.mem_filter.mpr ⟨kt_2 _ (List.mem_of_getElem? (i := 99) rfl), rfl⟩
theorem kw_2_100 : (Jvm.Cond.methodLink "BoostForests$Grower" (83 : Nat) ({ cls := "BoostForests$Grower", name := "gatherNode", desc := "(I)V" } : Jvm.MethodName)) ∈ gw_tbl := List.mem_filter.mpr ⟨kt_2 _ (List.mem_of_getElem? (i := 100) rfl), rfl⟩
theorem kl_2_101 : (Jvm.Cond.privateMethod ({ cls := "BoostForests$Grower", name := "gatherNode", desc := "(I)V" } : Jvm.MethodName)) ∈ lw_tbl := kt_2 _ (List.mem_of_getElem? (i := 101) rfl)
theorem kw_2_102 : (Jvm.Cond.instanceMethod ({ cls := "BoostForests$Grower", name := "gatherNode", desc := "(I)V" } : Jvm.MethodName)) ∈ gw_tbl := List.mem_filter.mpr ⟨kt_2 _ (List.mem_of_getElem? (i := 102) rfl), rfl⟩
theorem kw_2_103 : (Jvm.Cond.code ({ cls := "BoostForests$Grower", name := "gatherNode", desc := "(I)V" } : Jvm.MethodName) prog_2_method_6_code (3 : Nat) (Option.none : Option Jvm.ClassFile.FieldType)) ∈ gw_tbl := List.mem_filter.mpr ⟨kt_2 _ (List.mem_of_getElem? (i := 103) rfl), rfl⟩
theorem kw_2_104 : (Jvm.Cond.methodLink "BoostForests$Grower" (123 : Nat) ({ cls := "BoostForests$Sums", name := "empty", desc := "()V" } : Jvm.MethodName)) ∈ gw_tbl := List.mem_filter.mpr ⟨kt_2 _ (List.mem_of_getElem? (i := 104) rfl), rfl⟩
theorem kw_2_105 : (Jvm.Cond.instanceMethod ({ cls := "BoostForests$Sums", name := "empty", desc := "()V" } : Jvm.MethodName)) ∈ gw_tbl := List.mem_filter.mpr ⟨kt_2 _ (List.mem_of_getElem? (i := 105) rfl), rfl⟩
theorem kw_2_106 : (Jvm.Cond.selects "BoostForests$Sums" ({ cls := "BoostForests$Sums", name := "empty", desc := "()V" } : Jvm.MethodName) ({ cls := "BoostForests$Sums", name := "empty", desc := "()V" } : Jvm.MethodName)) ∈ gw_tbl := List.mem_filter.mpr ⟨kt_2 _ (List.mem_of_getElem? (i := 106) rfl), rfl⟩
theorem kw_2_107 : (Jvm.Cond.code ({ cls := "BoostForests$Sums", name := "empty", desc := "()V" } : Jvm.MethodName) prog_4_method_2_code (1 : Nat) (Option.none : Option Jvm.ClassFile.FieldType)) ∈ gw_tbl := List.mem_filter.mpr ⟨kt_2 _ (List.mem_of_getElem? (i := 107) rfl), rfl⟩
theorem kw_2_108 : (Jvm.Cond.methodLink "BoostForests$Grower" (126 : Nat) ({ cls := "BoostForests$Sums", name := "addRow", desc := "(JI)V" } : Jvm.MethodName)) ∈ gw_tbl := List.mem_filter.mpr ⟨kt_2 _ (List.mem_of_getElem? (i := 108) rfl), rfl⟩
theorem kw_2_109 : (Jvm.Cond.instanceMethod ({ cls := "BoostForests$Sums", name := "addRow", desc := "(JI)V" } : Jvm.MethodName)) ∈ gw_tbl := List.mem_filter.mpr ⟨kt_2 _ (List.mem_of_getElem? (i := 109) rfl), rfl⟩
theorem kw_2_110 : (Jvm.Cond.selects "BoostForests$Sums" ({ cls := "BoostForests$Sums", name := "addRow", desc := "(JI)V" } : Jvm.MethodName) ({ cls := "BoostForests$Sums", name := "addRow", desc := "(JI)V" } : Jvm.MethodName)) ∈ gw_tbl := List.mem_filter.mpr ⟨kt_2 _ (List.mem_of_getElem? (i := 110) rfl), rfl⟩
theorem kw_2_111 : (Jvm.Cond.code ({ cls := "BoostForests$Sums", name := "addRow", desc := "(JI)V" } : Jvm.MethodName) prog_4_method_3_code (4 : Nat) (Option.none : Option Jvm.ClassFile.FieldType)) ∈ gw_tbl := List.mem_filter.mpr ⟨kt_2 _ (List.mem_of_getElem? (i := 111) rfl), rfl⟩
theorem kw_2_112 : (Jvm.Cond.methodLink "BoostForests$Grower" (86 : Nat) ({ cls := "BoostForests$Tree", name := "keepSums", desc := "(ILBoostForests$Sums;I)V" } : Jvm.MethodName)) ∈ gw_tbl := List.mem_filter.mpr ⟨kt_2 _ (List.mem_of_getElem? (i := 112) rfl), rfl⟩
theorem kw_2_113 : (Jvm.Cond.instanceMethod ({ cls := "BoostForests$Tree", name := "keepSums", desc := "(ILBoostForests$Sums;I)V" } : Jvm.MethodName)) ∈ gw_tbl := List.mem_filter.mpr ⟨kt_2 _ (List.mem_of_getElem? (i := 113) rfl), rfl⟩
theorem kw_2_114 : (Jvm.Cond.selects "BoostForests$Tree" ({ cls := "BoostForests$Tree", name := "keepSums", desc := "(ILBoostForests$Sums;I)V" } : Jvm.MethodName) ({ cls := "BoostForests$Tree", name := "keepSums", desc := "(ILBoostForests$Sums;I)V" } : Jvm.MethodName)) ∈ gw_tbl := List.mem_filter.mpr ⟨kt_2 _ (List.mem_of_getElem? (i := 114) rfl), rfl⟩
theorem kw_2_115 : (Jvm.Cond.code ({ cls := "BoostForests$Tree", name := "keepSums", desc := "(ILBoostForests$Sums;I)V" } : Jvm.MethodName) prog_7_method_3_code (4 : Nat) (Option.none : Option Jvm.ClassFile.FieldType)) ∈ gw_tbl := List.mem_filter.mpr ⟨kt_2 _ (List.mem_of_getElem? (i := 115) rfl), rfl⟩
theorem kw_2_116 : (Jvm.Cond.methodLink "BoostForests$Tree" (37 : Nat) ({ cls := "BoostForests$Sums", name := "valueWith", desc := "(I)J" } : Jvm.MethodName)) ∈ gw_tbl := List.mem_filter.mpr ⟨kt_2 _ (List.mem_of_getElem? (i := 116) rfl), rfl⟩
theorem kw_2_117 : (Jvm.Cond.instanceMethod ({ cls := "BoostForests$Sums", name := "valueWith", desc := "(I)J" } : Jvm.MethodName)) ∈ gw_tbl := List.mem_filter.mpr ⟨kt_2 _ (List.mem_of_getElem? (i := 117) rfl), rfl⟩
theorem kw_2_118 : (Jvm.Cond.selects "BoostForests$Sums" ({ cls := "BoostForests$Sums", name := "valueWith", desc := "(I)J" } : Jvm.MethodName) ({ cls := "BoostForests$Sums", name := "valueWith", desc := "(I)J" } : Jvm.MethodName)) ∈ gw_tbl := List.mem_filter.mpr ⟨kt_2 _ (List.mem_of_getElem? (i := 118) rfl), rfl⟩
theorem kw_2_119 : (Jvm.Cond.code ({ cls := "BoostForests$Sums", name := "valueWith", desc := "(I)J" } : Jvm.MethodName) prog_4_method_6_code (4 : Nat) (Option.some Jvm.ClassFile.FieldType.long)) ∈ gw_tbl := List.mem_filter.mpr ⟨kt_2 _ (List.mem_of_getElem? (i := 119) rfl), rfl⟩
theorem kw_2_120 : (Jvm.Cond.methodLink "BoostForests$Grower" (90 : Nat) ({ cls := "BoostForests$Tree", name := "mayDivide", desc := "(II)Z" } : Jvm.MethodName)) ∈ gw_tbl := List.mem_filter.mpr ⟨kt_2 _ (List.mem_of_getElem? (i := 120) rfl), rfl⟩
theorem kw_2_121 : (Jvm.Cond.instanceMethod ({ cls := "BoostForests$Tree", name := "mayDivide", desc := "(II)Z" } : Jvm.MethodName)) ∈ gw_tbl := List.mem_filter.mpr ⟨kt_2 _ (List.mem_of_getElem? (i := 121) rfl), rfl⟩
theorem kw_2_122 : (Jvm.Cond.selects "BoostForests$Tree" ({ cls := "BoostForests$Tree", name := "mayDivide", desc := "(II)Z" } : Jvm.MethodName) ({ cls := "BoostForests$Tree", name := "mayDivide", desc := "(II)Z" } : Jvm.MethodName)) ∈ gw_tbl := List.mem_filter.mpr ⟨kt_2 _ (List.mem_of_getElem? (i := 122) rfl), rfl⟩
theorem kw_2_123 : (Jvm.Cond.code ({ cls := "BoostForests$Tree", name := "mayDivide", desc := "(II)Z" } : Jvm.MethodName) prog_7_method_4_code (3 : Nat) (Option.some Jvm.ClassFile.FieldType.boolean)) ∈ gw_tbl := List.mem_filter.mpr ⟨kt_2 _ (List.mem_of_getElem? (i := 123) rfl), rfl⟩
theorem kw_2_124 : (Jvm.Cond.methodLink "BoostForests$Grower" (94 : Nat) ({ cls := "BoostForests$Grower", name := "findSplit", desc := "(II)V" } : Jvm.MethodName)) ∈ gw_tbl := List.mem_filter.mpr ⟨kt_2 _ (List.mem_of_getElem? (i := 124) rfl), rfl⟩
theorem kl_2_125 : (Jvm.Cond.privateMethod ({ cls := "BoostForests$Grower", name := "findSplit", desc := "(II)V" } : Jvm.MethodName)) ∈ lw_tbl := kt_2 _ (List.mem_of_getElem? (i := 125) rfl)
theorem kw_2_126 : (Jvm.Cond.instanceMethod ({ cls := "BoostForests$Grower", name := "findSplit", desc := "(II)V" } : Jvm.MethodName)) ∈ gw_tbl := List.mem_filter.mpr ⟨kt_2 _ (List.mem_of_getElem? (i := 126) rfl), rfl⟩
theorem kw_2_127 : (Jvm.Cond.code ({ cls := "BoostForests$Grower", name := "findSplit", desc := "(II)V" } : Jvm.MethodName) prog_2_method_8_code (4 : Nat) (Option.none : Option Jvm.ClassFile.FieldType)) ∈ gw_tbl := List.mem_filter.mpr ⟨kt_2 _ (List.mem_of_getElem? (i := 127) rfl), rfl⟩
theorem kw_2_128 : (Jvm.Cond.methodLink "BoostForests$Grower" (134 : Nat) ({ cls := "BoostForests$Split", name := "forget", desc := "(J)V" } : Jvm.MethodName)) ∈ gw_tbl := List.mem_filter.mpr ⟨kt_2 _ (List.mem_of_getElem? (i := 128) rfl), rfl⟩
theorem kw_2_129 : (Jvm.Cond.instanceMethod ({ cls := "BoostForests$Split", name := "forget", desc := "(J)V" } : Jvm.MethodName)) ∈ gw_tbl := List.mem_filter.mpr ⟨kt_2 _ (List.mem_of_getElem? (i := 129) rfl), rfl⟩
theorem kw_2_130 : (Jvm.Cond.selects "BoostForests$Split" ({ cls := "BoostForests$Split", name := "forget", desc := "(J)V" } : Jvm.MethodName) ({ cls := "BoostForests$Split", name := "forget", desc := "(J)V" } : Jvm.MethodName)) ∈ gw_tbl := List.mem_filter.mpr ⟨kt_2 _ (List.mem_of_getElem? (i := 130) rfl), rfl⟩
theorem kw_2_131 : (Jvm.Cond.code ({ cls := "BoostForests$Split", name := "forget", desc := "(J)V" } : Jvm.MethodName) prog_3_method_2_code (3 : Nat) (Option.none : Option Jvm.ClassFile.FieldType)) ∈ gw_tbl := List.mem_filter.mpr ⟨kt_2 _ (List.mem_of_getElem? (i := 131) rfl), rfl⟩
theorem kw_2_132 : (Jvm.Cond.methodLink "BoostForests$Split" (9 : Nat) ({ cls := "BoostForests$Split", name := "become", desc := "(IIIJ)V" } : Jvm.MethodName)) ∈ gw_tbl := List.mem_filter.mpr ⟨kt_2 _ (List.mem_of_getElem? (i := 132) rfl), rfl⟩
theorem kw_2_133 : (Jvm.Cond.instanceMethod ({ cls := "BoostForests$Split", name := "become", desc := "(IIIJ)V" } : Jvm.MethodName)) ∈ gw_tbl := List.mem_filter.mpr ⟨kt_2 _ (List.mem_of_getElem? (i := 133) rfl), rfl⟩
theorem kw_2_134 : (Jvm.Cond.selects "BoostForests$Split" ({ cls := "BoostForests$Split", name := "become", desc := "(IIIJ)V" } : Jvm.MethodName) ({ cls := "BoostForests$Split", name := "become", desc := "(IIIJ)V" } : Jvm.MethodName)) ∈ gw_tbl := List.mem_filter.mpr ⟨kt_2 _ (List.mem_of_getElem? (i := 134) rfl), rfl⟩
theorem kw_2_135 : (Jvm.Cond.code ({ cls := "BoostForests$Split", name := "become", desc := "(IIIJ)V" } : Jvm.MethodName) prog_3_method_3_code (6 : Nat) (Option.none : Option Jvm.ClassFile.FieldType)) ∈ gw_tbl := List.mem_filter.mpr ⟨kt_2 _ (List.mem_of_getElem? (i := 135) rfl), rfl⟩
theorem kw_2_136 : (Jvm.Cond.constant "BoostForests$Grower" (138 : Nat) (100000 : Int32)) ∈ gw_tbl := List.mem_filter.mpr ⟨kt_2 _ (List.mem_of_getElem? (i := 136) rfl), rfl⟩
theorem kw_2_137 : (Jvm.Cond.methodLink "BoostForests$Grower" (139 : Nat) ({ cls := "BoostForests$Grower", name := "tryColumn", desc := "(II)V" } : Jvm.MethodName)) ∈ gw_tbl := List.mem_filter.mpr ⟨kt_2 _ (List.mem_of_getElem? (i := 137) rfl), rfl⟩
theorem kl_2_138 : (Jvm.Cond.privateMethod ({ cls := "BoostForests$Grower", name := "tryColumn", desc := "(II)V" } : Jvm.MethodName)) ∈ lw_tbl := kt_2 _ (List.mem_of_getElem? (i := 138) rfl)
theorem kw_2_139 : (Jvm.Cond.instanceMethod ({ cls := "BoostForests$Grower", name := "tryColumn", desc := "(II)V" } : Jvm.MethodName)) ∈ gw_tbl := List.mem_filter.mpr ⟨kt_2 _ (List.mem_of_getElem? (i := 139) rfl), rfl⟩
theorem kw_2_140 : (Jvm.Cond.code ({ cls := "BoostForests$Grower", name := "tryColumn", desc := "(II)V" } : Jvm.MethodName) prog_2_method_9_code (7 : Nat) (Option.none : Option Jvm.ClassFile.FieldType)) ∈ gw_tbl := List.mem_filter.mpr ⟨kt_2 _ (List.mem_of_getElem? (i := 140) rfl), rfl⟩
theorem kw_2_141 : (Jvm.Cond.methodLink "BoostForests$Grower" (142 : Nat) ({ cls := "BoostForests$Grower", name := "trySplit", desc := "(III)V" } : Jvm.MethodName)) ∈ gw_tbl := List.mem_filter.mpr ⟨kt_2 _ (List.mem_of_getElem? (i := 141) rfl), rfl⟩
theorem kl_2_142 : (Jvm.Cond.privateMethod ({ cls := "BoostForests$Grower", name := "trySplit", desc := "(III)V" } : Jvm.MethodName)) ∈ lw_tbl := kt_2 _ (List.mem_of_getElem? (i := 142) rfl)
theorem kw_2_143 : (Jvm.Cond.instanceMethod ({ cls := "BoostForests$Grower", name := "trySplit", desc := "(III)V" } : Jvm.MethodName)) ∈ gw_tbl := List.mem_filter.mpr ⟨kt_2 _ (List.mem_of_getElem? (i := 143) rfl), rfl⟩
theorem kw_2_144 : (Jvm.Cond.code ({ cls := "BoostForests$Grower", name := "trySplit", desc := "(III)V" } : Jvm.MethodName) prog_2_method_10_code (7 : Nat) (Option.none : Option Jvm.ClassFile.FieldType)) ∈ gw_tbl := List.mem_filter.mpr ⟨kt_2 _ (List.mem_of_getElem? (i := 144) rfl), rfl⟩
theorem kw_2_145 : (Jvm.Cond.methodLink "BoostForests$Grower" (148 : Nat) ({ cls := "BoostForests$Sums", name := "becomeSum", desc := "(LBoostForests$Sums;LBoostForests$Sums;)V" } : Jvm.MethodName)) ∈ gw_tbl := List.mem_filter.mpr ⟨kt_2 _ (List.mem_of_getElem? (i := 145) rfl), rfl⟩
theorem kw_2_146 : (Jvm.Cond.instanceMethod ({ cls := "BoostForests$Sums", name := "becomeSum", desc := "(LBoostForests$Sums;LBoostForests$Sums;)V" } : Jvm.MethodName)) ∈ gw_tbl := List.mem_filter.mpr ⟨kt_2 _ (List.mem_of_getElem? (i := 146) rfl), rfl⟩
theorem kw_2_147 : (Jvm.Cond.selects "BoostForests$Sums" ({ cls := "BoostForests$Sums", name := "becomeSum", desc := "(LBoostForests$Sums;LBoostForests$Sums;)V" } : Jvm.MethodName) ({ cls := "BoostForests$Sums", name := "becomeSum", desc := "(LBoostForests$Sums;LBoostForests$Sums;)V" } : Jvm.MethodName)) ∈ gw_tbl := List.mem_filter.mpr ⟨kt_2 _ (List.mem_of_getElem? (i := 147) rfl), rfl⟩
theorem kw_2_148 : (Jvm.Cond.code ({ cls := "BoostForests$Sums", name := "becomeSum", desc := "(LBoostForests$Sums;LBoostForests$Sums;)V" } : Jvm.MethodName) prog_4_method_4_code (3 : Nat) (Option.none : Option Jvm.ClassFile.FieldType)) ∈ gw_tbl := List.mem_filter.mpr ⟨kt_2 _ (List.mem_of_getElem? (i := 148) rfl), rfl⟩
theorem kw_2_149 : (Jvm.Cond.methodLink "BoostForests$Grower" (152 : Nat) ({ cls := "BoostForests$Sums", name := "becomeRest", desc := "(LBoostForests$Sums;LBoostForests$Sums;)V" } : Jvm.MethodName)) ∈ gw_tbl := List.mem_filter.mpr ⟨kt_2 _ (List.mem_of_getElem? (i := 149) rfl), rfl⟩
theorem kw_2_150 : (Jvm.Cond.instanceMethod ({ cls := "BoostForests$Sums", name := "becomeRest", desc := "(LBoostForests$Sums;LBoostForests$Sums;)V" } : Jvm.MethodName)) ∈ gw_tbl := List.mem_filter.mpr ⟨kt_2 _ (List.mem_of_getElem? (i := 150) rfl), rfl⟩
theorem kw_2_151 : (Jvm.Cond.selects "BoostForests$Sums" ({ cls := "BoostForests$Sums", name := "becomeRest", desc := "(LBoostForests$Sums;LBoostForests$Sums;)V" } : Jvm.MethodName) ({ cls := "BoostForests$Sums", name := "becomeRest", desc := "(LBoostForests$Sums;LBoostForests$Sums;)V" } : Jvm.MethodName)) ∈ gw_tbl := List.mem_filter.mpr ⟨kt_2 _ (List.mem_of_getElem? (i := 151) rfl), rfl⟩
theorem kw_2_152 : (Jvm.Cond.code ({ cls := "BoostForests$Sums", name := "becomeRest", desc := "(LBoostForests$Sums;LBoostForests$Sums;)V" } : Jvm.MethodName) prog_4_method_5_code (3 : Nat) (Option.none : Option Jvm.ClassFile.FieldType)) ∈ gw_tbl := List.mem_filter.mpr ⟨kt_2 _ (List.mem_of_getElem? (i := 152) rfl), rfl⟩
theorem kw_2_153 : (Jvm.Cond.methodLink "BoostForests$Grower" (155 : Nat) ({ cls := "BoostForests$Sums", name := "worthWith", desc := "(I)J" } : Jvm.MethodName)) ∈ gw_tbl := List.mem_filter.mpr ⟨kt_2 _ (List.mem_of_getElem? (i := 153) rfl), rfl⟩
theorem kw_2_154 : (Jvm.Cond.instanceMethod ({ cls := "BoostForests$Sums", name := "worthWith", desc := "(I)J" } : Jvm.MethodName)) ∈ gw_tbl := List.mem_filter.mpr ⟨kt_2 _ (List.mem_of_getElem? (i := 154) rfl), rfl⟩
theorem kw_2_155 : (Jvm.Cond.selects "BoostForests$Sums" ({ cls := "BoostForests$Sums", name := "worthWith", desc := "(I)J" } : Jvm.MethodName) ({ cls := "BoostForests$Sums", name := "worthWith", desc := "(I)J" } : Jvm.MethodName)) ∈ gw_tbl := List.mem_filter.mpr ⟨kt_2 _ (List.mem_of_getElem? (i := 155) rfl), rfl⟩
theorem kw_2_156 : (Jvm.Cond.code ({ cls := "BoostForests$Sums", name := "worthWith", desc := "(I)J" } : Jvm.MethodName) prog_4_method_7_code (4 : Nat) (Option.some Jvm.ClassFile.FieldType.long)) ∈ gw_tbl := List.mem_filter.mpr ⟨kt_2 _ (List.mem_of_getElem? (i := 156) rfl), rfl⟩
theorem kw_2_157 : (Jvm.Cond.methodLink "BoostForests$Grower" (163 : Nat) ({ cls := "BoostForests$Sums", name := "valueWith", desc := "(I)J" } : Jvm.MethodName)) ∈ gw_tbl := List.mem_filter.mpr ⟨kt_2 _ (List.mem_of_getElem? (i := 157) rfl), rfl⟩
theorem kw_2_158 : (Jvm.Cond.methodLink "BoostForests$Grower" (166 : Nat) ({ cls := "BoostForests$Grower", name := "keepsSign", desc := "(IJJ)Z" } : Jvm.MethodName)) ∈ gw_tbl := List.mem_filter.mpr ⟨kt_2 _ (List.mem_of_getElem? (i := 158) rfl), rfl⟩
theorem kw_2_159 : (Jvm.Cond.static ({ cls := "BoostForests$Grower", name := "keepsSign", desc := "(IJJ)Z" } : Jvm.MethodName)) ∈ gw_tbl := List.mem_filter.mpr ⟨kt_2 _ (List.mem_of_getElem? (i := 159) rfl), rfl⟩
theorem kw_2_160 : (Jvm.Cond.code ({ cls := "BoostForests$Grower", name := "keepsSign", desc := "(IJJ)Z" } : Jvm.MethodName) prog_2_method_11_code (5 : Nat) (Option.some Jvm.ClassFile.FieldType.boolean)) ∈ gw_tbl := List.mem_filter.mpr ⟨kt_2 _ (List.mem_of_getElem? (i := 160) rfl), rfl⟩
theorem kw_2_161 : (Jvm.Cond.methodLink "BoostForests$Grower" (170 : Nat) ({ cls := "BoostForests$Split", name := "become", desc := "(IIIJ)V" } : Jvm.MethodName)) ∈ gw_tbl := List.mem_filter.mpr ⟨kt_2 _ (List.mem_of_getElem? (i := 161) rfl), rfl⟩
theorem kw_2_162 : (Jvm.Cond.methodLink "BoostForests$Grower" (101 : Nat) ({ cls := "BoostForests$Tree", name := "divide", desc := "(ILBoostForests$Split;)V" } : Jvm.MethodName)) ∈ gw_tbl := List.mem_filter.mpr ⟨kt_2 _ (List.mem_of_getElem? (i := 162) rfl), rfl⟩
theorem kw_2_163 : (Jvm.Cond.instanceMethod ({ cls := "BoostForests$Tree", name := "divide", desc := "(ILBoostForests$Split;)V" } : Jvm.MethodName)) ∈ gw_tbl := List.mem_filter.mpr ⟨kt_2 _ (List.mem_of_getElem? (i := 163) rfl), rfl⟩
theorem kw_2_164 : (Jvm.Cond.selects "BoostForests$Tree" ({ cls := "BoostForests$Tree", name := "divide", desc := "(ILBoostForests$Split;)V" } : Jvm.MethodName) ({ cls := "BoostForests$Tree", name := "divide", desc := "(ILBoostForests$Split;)V" } : Jvm.MethodName)) ∈ gw_tbl := List.mem_filter.mpr ⟨kt_2 _ (List.mem_of_getElem? (i := 164) rfl), rfl⟩
theorem kw_2_165 : (Jvm.Cond.code ({ cls := "BoostForests$Tree", name := "divide", desc := "(ILBoostForests$Split;)V" } : Jvm.MethodName) prog_7_method_5_code (3 : Nat) (Option.none : Option Jvm.ClassFile.FieldType)) ∈ gw_tbl := List.mem_filter.mpr ⟨kt_2 _ (List.mem_of_getElem? (i := 165) rfl), rfl⟩
theorem kw_2_166 : (Jvm.Cond.methodLink "BoostForests$Tree" (55 : Nat) ({ cls := "BoostForests$Tree", name := "appendNode", desc := "(I)V" } : Jvm.MethodName)) ∈ gw_tbl := List.mem_filter.mpr ⟨kt_2 _ (List.mem_of_getElem? (i := 166) rfl), rfl⟩
theorem kw_2_167 : (Jvm.Cond.methodLink "BoostForests$Grower" (105 : Nat) ({ cls := "BoostForests$Grower", name := "moveRows", desc := "(LBoostForests$Tree;I)V" } : Jvm.MethodName)) ∈ gw_tbl := List.mem_filter.mpr ⟨kt_2 _ (List.mem_of_getElem? (i := 167) rfl), rfl⟩
theorem kl_2_168 : (Jvm.Cond.privateMethod ({ cls := "BoostForests$Grower", name := "moveRows", desc := "(LBoostForests$Tree;I)V" } : Jvm.MethodName)) ∈ lw_tbl := kt_2 _ (List.mem_of_getElem? (i := 168) rfl)
theorem kw_2_169 : (Jvm.Cond.instanceMethod ({ cls := "BoostForests$Grower", name := "moveRows", desc := "(LBoostForests$Tree;I)V" } : Jvm.MethodName)) ∈ gw_tbl := List.mem_filter.mpr ⟨kt_2 _ (List.mem_of_getElem? (i := 169) rfl), rfl⟩
theorem kw_2_170 : (Jvm.Cond.code ({ cls := "BoostForests$Grower", name := "moveRows", desc := "(LBoostForests$Tree;I)V" } : Jvm.MethodName) prog_2_method_7_code (4 : Nat) (Option.none : Option Jvm.ClassFile.FieldType)) ∈ gw_tbl := List.mem_filter.mpr ⟨kt_2 _ (List.mem_of_getElem? (i := 170) rfl), rfl⟩
theorem kw_2_171 : (Jvm.Cond.methodLink "BoostForests$Grower" (130 : Nat) ({ cls := "BoostForests$Tree", name := "stepFrom", desc := "(I[I)I" } : Jvm.MethodName)) ∈ gw_tbl := List.mem_filter.mpr ⟨kt_2 _ (List.mem_of_getElem? (i := 171) rfl), rfl⟩
theorem kw_2_172 : (Jvm.Cond.instanceMethod ({ cls := "BoostForests$Tree", name := "stepFrom", desc := "(I[I)I" } : Jvm.MethodName)) ∈ gw_tbl := List.mem_filter.mpr ⟨kt_2 _ (List.mem_of_getElem? (i := 172) rfl), rfl⟩
theorem kw_2_173 : (Jvm.Cond.selects "BoostForests$Tree" ({ cls := "BoostForests$Tree", name := "stepFrom", desc := "(I[I)I" } : Jvm.MethodName) ({ cls := "BoostForests$Tree", name := "stepFrom", desc := "(I[I)I" } : Jvm.MethodName)) ∈ gw_tbl := List.mem_filter.mpr ⟨kt_2 _ (List.mem_of_getElem? (i := 173) rfl), rfl⟩
theorem kw_2_174 : (Jvm.Cond.code ({ cls := "BoostForests$Tree", name := "stepFrom", desc := "(I[I)I" } : Jvm.MethodName) prog_7_method_6_code (6 : Nat) (Option.some Jvm.ClassFile.FieldType.int)) ∈ gw_tbl := List.mem_filter.mpr ⟨kt_2 _ (List.mem_of_getElem? (i := 174) rfl), rfl⟩
theorem kw_2_175 : (Jvm.Cond.methodLink "BoostForests$Training" (73 : Nat) ({ cls := "BoostForests$Training", name := "addTree", desc := "(I)V" } : Jvm.MethodName)) ∈ gw_tbl := List.mem_filter.mpr ⟨kt_2 _ (List.mem_of_getElem? (i := 175) rfl), rfl⟩
theorem kl_2_176 : (Jvm.Cond.privateMethod ({ cls := "BoostForests$Training", name := "addTree", desc := "(I)V" } : Jvm.MethodName)) ∈ lw_tbl := kt_2 _ (List.mem_of_getElem? (i := 176) rfl)
theorem kw_2_177 : (Jvm.Cond.instanceMethod ({ cls := "BoostForests$Training", name := "addTree", desc := "(I)V" } : Jvm.MethodName)) ∈ gw_tbl := List.mem_filter.mpr ⟨kt_2 _ (List.mem_of_getElem? (i := 177) rfl), rfl⟩
theorem kw_2_178 : (Jvm.Cond.code ({ cls := "BoostForests$Training", name := "addTree", desc := "(I)V" } : Jvm.MethodName) prog_6_method_4_code (3 : Nat) (Option.none : Option Jvm.ClassFile.FieldType)) ∈ gw_tbl := List.mem_filter.mpr ⟨kt_2 _ (List.mem_of_getElem? (i := 178) rfl), rfl⟩
theorem kw_2_179 : (Jvm.Cond.methodLink "BoostForests$Training" (108 : Nat) ({ cls := "BoostForests$Training", name := "addOf", desc := "(LBoostForests$Tree;[I)J" } : Jvm.MethodName)) ∈ gw_tbl := List.mem_filter.mpr ⟨kt_2 _ (List.mem_of_getElem? (i := 179) rfl), rfl⟩
theorem kl_2_180 : (Jvm.Cond.privateMethod ({ cls := "BoostForests$Training", name := "addOf", desc := "(LBoostForests$Tree;[I)J" } : Jvm.MethodName)) ∈ lw_tbl := kt_2 _ (List.mem_of_getElem? (i := 180) rfl)
theorem kw_2_181 : (Jvm.Cond.instanceMethod ({ cls := "BoostForests$Training", name := "addOf", desc := "(LBoostForests$Tree;[I)J" } : Jvm.MethodName)) ∈ gw_tbl := List.mem_filter.mpr ⟨kt_2 _ (List.mem_of_getElem? (i := 181) rfl), rfl⟩
theorem kw_2_182 : (Jvm.Cond.code ({ cls := "BoostForests$Training", name := "addOf", desc := "(LBoostForests$Tree;[I)J" } : Jvm.MethodName) prog_6_method_14_code (3 : Nat) (Option.some Jvm.ClassFile.FieldType.long)) ∈ gw_tbl := List.mem_filter.mpr ⟨kt_2 _ (List.mem_of_getElem? (i := 182) rfl), rfl⟩
theorem kw_2_183 : (Jvm.Cond.methodLink "BoostForests$Training" (164 : Nat) ({ cls := "BoostForests$Tree", name := "leafOf", desc := "([I)I" } : Jvm.MethodName)) ∈ gw_tbl := List.mem_filter.mpr ⟨kt_2 _ (List.mem_of_getElem? (i := 183) rfl), rfl⟩
theorem kw_2_184 : (Jvm.Cond.instanceMethod ({ cls := "BoostForests$Tree", name := "leafOf", desc := "([I)I" } : Jvm.MethodName)) ∈ gw_tbl := List.mem_filter.mpr ⟨kt_2 _ (List.mem_of_getElem? (i := 184) rfl), rfl⟩
theorem kw_2_185 : (Jvm.Cond.selects "BoostForests$Tree" ({ cls := "BoostForests$Tree", name := "leafOf", desc := "([I)I" } : Jvm.MethodName) ({ cls := "BoostForests$Tree", name := "leafOf", desc := "([I)I" } : Jvm.MethodName)) ∈ gw_tbl := List.mem_filter.mpr ⟨kt_2 _ (List.mem_of_getElem? (i := 185) rfl), rfl⟩
theorem kw_2_186 : (Jvm.Cond.code ({ cls := "BoostForests$Tree", name := "leafOf", desc := "([I)I" } : Jvm.MethodName) prog_7_method_7_code (4 : Nat) (Option.some Jvm.ClassFile.FieldType.int)) ∈ gw_tbl := List.mem_filter.mpr ⟨kt_2 _ (List.mem_of_getElem? (i := 186) rfl), rfl⟩
theorem kw_2_187 : (Jvm.Cond.methodLink "BoostForests$Tree" (59 : Nat) ({ cls := "BoostForests$Tree", name := "stepFrom", desc := "(I[I)I" } : Jvm.MethodName)) ∈ gw_tbl := List.mem_filter.mpr ⟨kt_2 _ (List.mem_of_getElem? (i := 187) rfl), rfl⟩
theorem kw_2_188 : (Jvm.Cond.methodLink "BoostForests$Training" (149 : Nat) ({ cls := "BoostForests$Training", name := "shrunk", desc := "(J)J" } : Jvm.MethodName)) ∈ gw_tbl := List.mem_filter.mpr ⟨kt_2 _ (List.mem_of_getElem? (i := 188) rfl), rfl⟩
theorem kl_2_189 : (Jvm.Cond.privateMethod ({ cls := "BoostForests$Training", name := "shrunk", desc := "(J)J" } : Jvm.MethodName)) ∈ lw_tbl := kt_2 _ (List.mem_of_getElem? (i := 189) rfl)
theorem kw_2_190 : (Jvm.Cond.instanceMethod ({ cls := "BoostForests$Training", name := "shrunk", desc := "(J)J" } : Jvm.MethodName)) ∈ gw_tbl := List.mem_filter.mpr ⟨kt_2 _ (List.mem_of_getElem? (i := 190) rfl), rfl⟩
theorem kw_2_191 : (Jvm.Cond.code ({ cls := "BoostForests$Training", name := "shrunk", desc := "(J)J" } : Jvm.MethodName) prog_6_method_15_code (3 : Nat) (Option.some Jvm.ClassFile.FieldType.long)) ∈ gw_tbl := List.mem_filter.mpr ⟨kt_2 _ (List.mem_of_getElem? (i := 191) rfl), rfl⟩
theorem kw_2_192 : (Jvm.Cond.methodLink "BoostForests$Training" (112 : Nat) ({ cls := "BoostForests$Grower", name := "hasDrawn", desc := "(I)Z" } : Jvm.MethodName)) ∈ gw_tbl := List.mem_filter.mpr ⟨kt_2 _ (List.mem_of_getElem? (i := 192) rfl), rfl⟩
theorem kw_2_193 : (Jvm.Cond.instanceMethod ({ cls := "BoostForests$Grower", name := "hasDrawn", desc := "(I)Z" } : Jvm.MethodName)) ∈ gw_tbl := List.mem_filter.mpr ⟨kt_2 _ (List.mem_of_getElem? (i := 193) rfl), rfl⟩
theorem kw_2_194 : (Jvm.Cond.selects "BoostForests$Grower" ({ cls := "BoostForests$Grower", name := "hasDrawn", desc := "(I)Z" } : Jvm.MethodName) ({ cls := "BoostForests$Grower", name := "hasDrawn", desc := "(I)Z" } : Jvm.MethodName)) ∈ gw_tbl := List.mem_filter.mpr ⟨kt_2 _ (List.mem_of_getElem? (i := 194) rfl), rfl⟩
theorem kw_2_195 : (Jvm.Cond.code ({ cls := "BoostForests$Grower", name := "hasDrawn", desc := "(I)Z" } : Jvm.MethodName) prog_2_method_4_code (2 : Nat) (Option.some Jvm.ClassFile.FieldType.boolean)) ∈ gw_tbl := List.mem_filter.mpr ⟨kt_2 _ (List.mem_of_getElem? (i := 195) rfl), rfl⟩
theorem kw_2_196 : (Jvm.Cond.methodLink "BoostForests$Training" (81 : Nat) ({ cls := "java/lang/Math", name := "min", desc := "(JJ)J" } : Jvm.MethodName)) ∈ gw_tbl := List.mem_filter.mpr ⟨kt_2 _ (List.mem_of_getElem? (i := 196) rfl), rfl⟩
theorem kw_2_197 : (Jvm.Cond.static ({ cls := "java/lang/Math", name := "min", desc := "(JJ)J" } : Jvm.MethodName)) ∈ gw_tbl := List.mem_filter.mpr ⟨kt_2 _ (List.mem_of_getElem? (i := 197) rfl), rfl⟩
theorem kw_2_198 : (Jvm.Cond.code ({ cls := "java/lang/Math", name := "min", desc := "(JJ)J" } : Jvm.MethodName) prog_12_method_70_code (4 : Nat) (Option.some Jvm.ClassFile.FieldType.long)) ∈ gw_tbl := List.mem_filter.mpr ⟨kt_2 _ (List.mem_of_getElem? (i := 198) rfl), rfl⟩
theorem kw_2_199 : (Jvm.Cond.methodLink "BoostForestsLaw" (36 : Nat) ({ cls := "BoostForests", name := "node", desc := "(III)I" } : Jvm.MethodName)) ∈ gw_tbl := List.mem_filter.mpr ⟨kt_2 _ (List.mem_of_getElem? (i := 199) rfl), rfl⟩
theorem kw_2_200 : (Jvm.Cond.instanceMethod ({ cls := "BoostForests", name := "node", desc := "(III)I" } : Jvm.MethodName)) ∈ gw_tbl := List.mem_filter.mpr ⟨kt_2 _ (List.mem_of_getElem? (i := 200) rfl), rfl⟩
theorem kw_2_201 : (Jvm.Cond.selects "BoostForests" ({ cls := "BoostForests", name := "node", desc := "(III)I" } : Jvm.MethodName) ({ cls := "BoostForests", name := "node", desc := "(III)I" } : Jvm.MethodName)) ∈ gw_tbl := List.mem_filter.mpr ⟨kt_2 _ (List.mem_of_getElem? (i := 201) rfl), rfl⟩
theorem kw_2_202 : (Jvm.Cond.code ({ cls := "BoostForests", name := "node", desc := "(III)I" } : Jvm.MethodName) prog_1_method_7_code (4 : Nat) (Option.some Jvm.ClassFile.FieldType.int)) ∈ gw_tbl := List.mem_filter.mpr ⟨kt_2 _ (List.mem_of_getElem? (i := 202) rfl), rfl⟩
theorem kw_2_203 : (Jvm.Cond.methodLink "BoostForests" (83 : Nat) ({ cls := "BoostForests", name := "isNode", desc := "(II)Z" } : Jvm.MethodName)) ∈ gw_tbl := List.mem_filter.mpr ⟨kt_2 _ (List.mem_of_getElem? (i := 203) rfl), rfl⟩
theorem kl_2_204 : (Jvm.Cond.privateMethod ({ cls := "BoostForests", name := "isNode", desc := "(II)Z" } : Jvm.MethodName)) ∈ lw_tbl := kt_2 _ (List.mem_of_getElem? (i := 204) rfl)
theorem kw_2_205 : (Jvm.Cond.instanceMethod ({ cls := "BoostForests", name := "isNode", desc := "(II)Z" } : Jvm.MethodName)) ∈ gw_tbl := List.mem_filter.mpr ⟨kt_2 _ (List.mem_of_getElem? (i := 205) rfl), rfl⟩
theorem kw_2_206 : (Jvm.Cond.code ({ cls := "BoostForests", name := "isNode", desc := "(II)Z" } : Jvm.MethodName) prog_1_method_20_code (3 : Nat) (Option.some Jvm.ClassFile.FieldType.boolean)) ∈ gw_tbl := List.mem_filter.mpr ⟨kt_2 _ (List.mem_of_getElem? (i := 206) rfl), rfl⟩
theorem kw_2_207 : (Jvm.Cond.methodLink "BoostForestsLaw" (41 : Nat) ({ cls := "BoostForests", name := "sum", desc := "(III)J" } : Jvm.MethodName)) ∈ gw_tbl := List.mem_filter.mpr ⟨kt_2 _ (List.mem_of_getElem? (i := 207) rfl), rfl⟩
theorem kw_2_208 : (Jvm.Cond.instanceMethod ({ cls := "BoostForests", name := "sum", desc := "(III)J" } : Jvm.MethodName)) ∈ gw_tbl := List.mem_filter.mpr ⟨kt_2 _ (List.mem_of_getElem? (i := 208) rfl), rfl⟩
theorem kw_2_209 : (Jvm.Cond.selects "BoostForests" ({ cls := "BoostForests", name := "sum", desc := "(III)J" } : Jvm.MethodName) ({ cls := "BoostForests", name := "sum", desc := "(III)J" } : Jvm.MethodName)) ∈ gw_tbl := List.mem_filter.mpr ⟨kt_2 _ (List.mem_of_getElem? (i := 209) rfl), rfl⟩
theorem kw_2_210 : (Jvm.Cond.code ({ cls := "BoostForests", name := "sum", desc := "(III)J" } : Jvm.MethodName) prog_1_method_8_code (4 : Nat) (Option.some Jvm.ClassFile.FieldType.long)) ∈ gw_tbl := List.mem_filter.mpr ⟨kt_2 _ (List.mem_of_getElem? (i := 210) rfl), rfl⟩
theorem kw_2_211 : (Jvm.Cond.methodLink "BoostForestsLaw" (46 : Nat) ({ cls := "BoostForests", name := "size", desc := "(I)I" } : Jvm.MethodName)) ∈ gw_tbl := List.mem_filter.mpr ⟨kt_2 _ (List.mem_of_getElem? (i := 211) rfl), rfl⟩
theorem kw_2_212 : (Jvm.Cond.instanceMethod ({ cls := "BoostForests", name := "size", desc := "(I)I" } : Jvm.MethodName)) ∈ gw_tbl := List.mem_filter.mpr ⟨kt_2 _ (List.mem_of_getElem? (i := 212) rfl), rfl⟩
theorem kw_2_213 : (Jvm.Cond.selects "BoostForests" ({ cls := "BoostForests", name := "size", desc := "(I)I" } : Jvm.MethodName) ({ cls := "BoostForests", name := "size", desc := "(I)I" } : Jvm.MethodName)) ∈ gw_tbl := List.mem_filter.mpr ⟨kt_2 _ (List.mem_of_getElem? (i := 213) rfl), rfl⟩
theorem kw_2_214 : (Jvm.Cond.code ({ cls := "BoostForests", name := "size", desc := "(I)I" } : Jvm.MethodName) prog_1_method_9_code (2 : Nat) (Option.some Jvm.ClassFile.FieldType.int)) ∈ gw_tbl := List.mem_filter.mpr ⟨kt_2 _ (List.mem_of_getElem? (i := 214) rfl), rfl⟩
theorem kw_2_215 : (Jvm.Cond.methodLink "BoostForestsLaw" (51 : Nat) ({ cls := "BoostForests", name := "leaf", desc := "(IIIII)I" } : Jvm.MethodName)) ∈ gw_tbl := List.mem_filter.mpr ⟨kt_2 _ (List.mem_of_getElem? (i := 215) rfl), rfl⟩
theorem kw_2_216 : (Jvm.Cond.instanceMethod ({ cls := "BoostForests", name := "leaf", desc := "(IIIII)I" } : Jvm.MethodName)) ∈ gw_tbl := List.mem_filter.mpr ⟨kt_2 _ (List.mem_of_getElem? (i := 216) rfl), rfl⟩
theorem kw_2_217 : (Jvm.Cond.selects "BoostForests" ({ cls := "BoostForests", name := "leaf", desc := "(IIIII)I" } : Jvm.MethodName) ({ cls := "BoostForests", name := "leaf", desc := "(IIIII)I" } : Jvm.MethodName)) ∈ gw_tbl := List.mem_filter.mpr ⟨kt_2 _ (List.mem_of_getElem? (i := 217) rfl), rfl⟩
theorem kw_2_218 : (Jvm.Cond.code ({ cls := "BoostForests", name := "leaf", desc := "(IIIII)I" } : Jvm.MethodName) prog_1_method_10_code (6 : Nat) (Option.some Jvm.ClassFile.FieldType.int)) ∈ gw_tbl := List.mem_filter.mpr ⟨kt_2 _ (List.mem_of_getElem? (i := 218) rfl), rfl⟩
theorem kw_2_219 : (Jvm.Cond.methodLink "BoostForests" (103 : Nat) ({ cls := "BoostForests$Tree", name := "leafOf", desc := "([I)I" } : Jvm.MethodName)) ∈ gw_tbl := List.mem_filter.mpr ⟨kt_2 _ (List.mem_of_getElem? (i := 219) rfl), rfl⟩
theorem kw_2_220 : (Jvm.Cond.methodLink "BoostForestsLaw" (56 : Nat) ({ cls := "BoostForests", name := "answer", desc := "(IIIII)J" } : Jvm.MethodName)) ∈ gw_tbl := List.mem_filter.mpr ⟨kt_2 _ (List.mem_of_getElem? (i := 220) rfl), rfl⟩
theorem kw_2_221 : (Jvm.Cond.instanceMethod ({ cls := "BoostForests", name := "answer", desc := "(IIIII)J" } : Jvm.MethodName)) ∈ gw_tbl := List.mem_filter.mpr ⟨kt_2 _ (List.mem_of_getElem? (i := 221) rfl), rfl⟩
theorem kw_2_222 : (Jvm.Cond.selects "BoostForests" ({ cls := "BoostForests", name := "answer", desc := "(IIIII)J" } : Jvm.MethodName) ({ cls := "BoostForests", name := "answer", desc := "(IIIII)J" } : Jvm.MethodName)) ∈ gw_tbl := List.mem_filter.mpr ⟨kt_2 _ (List.mem_of_getElem? (i := 222) rfl), rfl⟩
theorem kw_2_223 : (Jvm.Cond.code ({ cls := "BoostForests", name := "answer", desc := "(IIIII)J" } : Jvm.MethodName) prog_1_method_11_code (6 : Nat) (Option.some Jvm.ClassFile.FieldType.long)) ∈ gw_tbl := List.mem_filter.mpr ⟨kt_2 _ (List.mem_of_getElem? (i := 223) rfl), rfl⟩
theorem kw_2_224 : (Jvm.Cond.methodLink "BoostForests" (111 : Nat) ({ cls := "BoostForests$Training", name := "answerBy", desc := "(I[I)J" } : Jvm.MethodName)) ∈ gw_tbl := List.mem_filter.mpr ⟨kt_2 _ (List.mem_of_getElem? (i := 224) rfl), rfl⟩
theorem kw_2_225 : (Jvm.Cond.instanceMethod ({ cls := "BoostForests$Training", name := "answerBy", desc := "(I[I)J" } : Jvm.MethodName)) ∈ gw_tbl := List.mem_filter.mpr ⟨kt_2 _ (List.mem_of_getElem? (i := 225) rfl), rfl⟩
theorem kw_2_226 : (Jvm.Cond.selects "BoostForests$Training" ({ cls := "BoostForests$Training", name := "answerBy", desc := "(I[I)J" } : Jvm.MethodName) ({ cls := "BoostForests$Training", name := "answerBy", desc := "(I[I)J" } : Jvm.MethodName)) ∈ gw_tbl := List.mem_filter.mpr ⟨kt_2 _ (List.mem_of_getElem? (i := 226) rfl), rfl⟩
theorem kw_2_227 : (Jvm.Cond.code ({ cls := "BoostForests$Training", name := "answerBy", desc := "(I[I)J" } : Jvm.MethodName) prog_6_method_7_code (6 : Nat) (Option.some Jvm.ClassFile.FieldType.long)) ∈ gw_tbl := List.mem_filter.mpr ⟨kt_2 _ (List.mem_of_getElem? (i := 227) rfl), rfl⟩
theorem kw_2_228 : (Jvm.Cond.methodLink "BoostForestsLaw" (61 : Nat) ({ cls := "BoostForests", name := "loss", desc := "(II)J" } : Jvm.MethodName)) ∈ gw_tbl := List.mem_filter.mpr ⟨kt_2 _ (List.mem_of_getElem? (i := 228) rfl), rfl⟩
theorem kw_2_229 : (Jvm.Cond.instanceMethod ({ cls := "BoostForests", name := "loss", desc := "(II)J" } : Jvm.MethodName)) ∈ gw_tbl := List.mem_filter.mpr ⟨kt_2 _ (List.mem_of_getElem? (i := 229) rfl), rfl⟩
theorem kw_2_230 : (Jvm.Cond.selects "BoostForests" ({ cls := "BoostForests", name := "loss", desc := "(II)J" } : Jvm.MethodName) ({ cls := "BoostForests", name := "loss", desc := "(II)J" } : Jvm.MethodName)) ∈ gw_tbl := List.mem_filter.mpr ⟨kt_2 _ (List.mem_of_getElem? (i := 230) rfl), rfl⟩
theorem kw_2_231 : (Jvm.Cond.code ({ cls := "BoostForests", name := "loss", desc := "(II)J" } : Jvm.MethodName) prog_1_method_12_code (3 : Nat) (Option.some Jvm.ClassFile.FieldType.long)) ∈ gw_tbl := List.mem_filter.mpr ⟨kt_2 _ (List.mem_of_getElem? (i := 231) rfl), rfl⟩
theorem kw_2_232 : (Jvm.Cond.constantLong "BoostForests" (115 : Nat) (-2 : Int64)) ∈ gw_tbl := List.mem_filter.mpr ⟨kt_2 _ (List.mem_of_getElem? (i := 232) rfl), rfl⟩
theorem kw_2_233 : (Jvm.Cond.methodLink "BoostForestsLaw" (66 : Nat) ({ cls := "BoostForests", name := "best", desc := "()I" } : Jvm.MethodName)) ∈ gw_tbl := List.mem_filter.mpr ⟨kt_2 _ (List.mem_of_getElem? (i := 233) rfl), rfl⟩
theorem kw_2_234 : (Jvm.Cond.instanceMethod ({ cls := "BoostForests", name := "best", desc := "()I" } : Jvm.MethodName)) ∈ gw_tbl := List.mem_filter.mpr ⟨kt_2 _ (List.mem_of_getElem? (i := 234) rfl), rfl⟩
theorem kw_2_235 : (Jvm.Cond.selects "BoostForests" ({ cls := "BoostForests", name := "best", desc := "()I" } : Jvm.MethodName) ({ cls := "BoostForests", name := "best", desc := "()I" } : Jvm.MethodName)) ∈ gw_tbl := List.mem_filter.mpr ⟨kt_2 _ (List.mem_of_getElem? (i := 235) rfl), rfl⟩
theorem kw_2_236 : (Jvm.Cond.code ({ cls := "BoostForests", name := "best", desc := "()I" } : Jvm.MethodName) prog_1_method_13_code (1 : Nat) (Option.some Jvm.ClassFile.FieldType.int)) ∈ gw_tbl := List.mem_filter.mpr ⟨kt_2 _ (List.mem_of_getElem? (i := 236) rfl), rfl⟩
theorem kw_2_237 : (Jvm.Cond.methodLink "BoostForests" (120 : Nat) ({ cls := "BoostForests$Training", name := "treesOfLeastLoss", desc := "()I" } : Jvm.MethodName)) ∈ gw_tbl := List.mem_filter.mpr ⟨kt_2 _ (List.mem_of_getElem? (i := 237) rfl), rfl⟩
theorem kw_2_238 : (Jvm.Cond.instanceMethod ({ cls := "BoostForests$Training", name := "treesOfLeastLoss", desc := "()I" } : Jvm.MethodName)) ∈ gw_tbl := List.mem_filter.mpr ⟨kt_2 _ (List.mem_of_getElem? (i := 238) rfl), rfl⟩
theorem kw_2_239 : (Jvm.Cond.selects "BoostForests$Training" ({ cls := "BoostForests$Training", name := "treesOfLeastLoss", desc := "()I" } : Jvm.MethodName) ({ cls := "BoostForests$Training", name := "treesOfLeastLoss", desc := "()I" } : Jvm.MethodName)) ∈ gw_tbl := List.mem_filter.mpr ⟨kt_2 _ (List.mem_of_getElem? (i := 239) rfl), rfl⟩
theorem kw_3_0 : (Jvm.Cond.code ({ cls := "BoostForests$Training", name := "treesOfLeastLoss", desc := "()I" } : Jvm.MethodName) prog_6_method_6_code (3 : Nat) (Option.some Jvm.ClassFile.FieldType.int)) ∈ gw_tbl := List.mem_filter.mpr ⟨kt_3 _ (List.mem_of_getElem? (i := 0) rfl), rfl⟩
theorem kw_3_1 : (Jvm.Cond.methodLink "BoostForestsLaw" (70 : Nat) ({ cls := "BoostForests", name := "without", desc := "(I)J" } : Jvm.MethodName)) ∈ gw_tbl := List.mem_filter.mpr ⟨kt_3 _ (List.mem_of_getElem? (i := 1) rfl), rfl⟩
theorem kw_3_2 : (Jvm.Cond.instanceMethod ({ cls := "BoostForests", name := "without", desc := "(I)J" } : Jvm.MethodName)) ∈ gw_tbl := List.mem_filter.mpr ⟨kt_3 _ (List.mem_of_getElem? (i := 2) rfl), rfl⟩
theorem kw_3_3 : (Jvm.Cond.selects "BoostForests" ({ cls := "BoostForests", name := "without", desc := "(I)J" } : Jvm.MethodName) ({ cls := "BoostForests", name := "without", desc := "(I)J" } : Jvm.MethodName)) ∈ gw_tbl := List.mem_filter.mpr ⟨kt_3 _ (List.mem_of_getElem? (i := 3) rfl), rfl⟩
theorem kw_3_4 : (Jvm.Cond.code ({ cls := "BoostForests", name := "without", desc := "(I)J" } : Jvm.MethodName) prog_1_method_14_code (2 : Nat) (Option.some Jvm.ClassFile.FieldType.long)) ∈ gw_tbl := List.mem_filter.mpr ⟨kt_3 _ (List.mem_of_getElem? (i := 4) rfl), rfl⟩
theorem kw_3_5 : (Jvm.Cond.methodLink "BoostForests" (123 : Nat) ({ cls := "BoostForests", name := "isTrainedRow", desc := "(I)Z" } : Jvm.MethodName)) ∈ gw_tbl := List.mem_filter.mpr ⟨kt_3 _ (List.mem_of_getElem? (i := 5) rfl), rfl⟩
theorem kl_3_6 : (Jvm.Cond.privateMethod ({ cls := "BoostForests", name := "isTrainedRow", desc := "(I)Z" } : Jvm.MethodName)) ∈ lw_tbl := kt_3 _ (List.mem_of_getElem? (i := 6) rfl)
theorem kw_3_7 : (Jvm.Cond.instanceMethod ({ cls := "BoostForests", name := "isTrainedRow", desc := "(I)Z" } : Jvm.MethodName)) ∈ gw_tbl := List.mem_filter.mpr ⟨kt_3 _ (List.mem_of_getElem? (i := 7) rfl), rfl⟩
theorem kw_3_8 : (Jvm.Cond.code ({ cls := "BoostForests", name := "isTrainedRow", desc := "(I)Z" } : Jvm.MethodName) prog_1_method_21_code (2 : Nat) (Option.some Jvm.ClassFile.FieldType.boolean)) ∈ gw_tbl := List.mem_filter.mpr ⟨kt_3 _ (List.mem_of_getElem? (i := 8) rfl), rfl⟩
theorem kw_3_9 : (Jvm.Cond.methodLink "BoostForests" (127 : Nat) ({ cls := "BoostForests$Training", name := "leftOut", desc := "(I)J" } : Jvm.MethodName)) ∈ gw_tbl := List.mem_filter.mpr ⟨kt_3 _ (List.mem_of_getElem? (i := 9) rfl), rfl⟩
theorem kw_3_10 : (Jvm.Cond.instanceMethod ({ cls := "BoostForests$Training", name := "leftOut", desc := "(I)J" } : Jvm.MethodName)) ∈ gw_tbl := List.mem_filter.mpr ⟨kt_3 _ (List.mem_of_getElem? (i := 10) rfl), rfl⟩
theorem kw_3_11 : (Jvm.Cond.selects "BoostForests$Training" ({ cls := "BoostForests$Training", name := "leftOut", desc := "(I)J" } : Jvm.MethodName) ({ cls := "BoostForests$Training", name := "leftOut", desc := "(I)J" } : Jvm.MethodName)) ∈ gw_tbl := List.mem_filter.mpr ⟨kt_3 _ (List.mem_of_getElem? (i := 11) rfl), rfl⟩
theorem kw_3_12 : (Jvm.Cond.code ({ cls := "BoostForests$Training", name := "leftOut", desc := "(I)J" } : Jvm.MethodName) prog_6_method_8_code (5 : Nat) (Option.some Jvm.ClassFile.FieldType.long)) ∈ gw_tbl := List.mem_filter.mpr ⟨kt_3 _ (List.mem_of_getElem? (i := 12) rfl), rfl⟩
theorem kw_3_13 : (Jvm.Cond.methodLink "BoostForestsLaw" (75 : Nat) ({ cls := "BoostForests", name := "took", desc := "(I)I" } : Jvm.MethodName)) ∈ gw_tbl := List.mem_filter.mpr ⟨kt_3 _ (List.mem_of_getElem? (i := 13) rfl), rfl⟩
theorem kw_3_14 : (Jvm.Cond.instanceMethod ({ cls := "BoostForests", name := "took", desc := "(I)I" } : Jvm.MethodName)) ∈ gw_tbl := List.mem_filter.mpr ⟨kt_3 _ (List.mem_of_getElem? (i := 14) rfl), rfl⟩
theorem kw_3_15 : (Jvm.Cond.selects "BoostForests" ({ cls := "BoostForests", name := "took", desc := "(I)I" } : Jvm.MethodName) ({ cls := "BoostForests", name := "took", desc := "(I)I" } : Jvm.MethodName)) ∈ gw_tbl := List.mem_filter.mpr ⟨kt_3 _ (List.mem_of_getElem? (i := 15) rfl), rfl⟩
theorem kw_3_16 : (Jvm.Cond.code ({ cls := "BoostForests", name := "took", desc := "(I)I" } : Jvm.MethodName) prog_1_method_15_code (2 : Nat) (Option.some Jvm.ClassFile.FieldType.int)) ∈ gw_tbl := List.mem_filter.mpr ⟨kt_3 _ (List.mem_of_getElem? (i := 16) rfl), rfl⟩
theorem kw_3_17 : (Jvm.Cond.methodLink "BoostForests" (134 : Nat) ({ cls := "java/lang/Integer", name := "bitCount", desc := "(I)I" } : Jvm.MethodName)) ∈ gw_tbl := List.mem_filter.mpr ⟨kt_3 _ (List.mem_of_getElem? (i := 17) rfl), rfl⟩
theorem kw_3_18 : (Jvm.Cond.static ({ cls := "java/lang/Integer", name := "bitCount", desc := "(I)I" } : Jvm.MethodName)) ∈ gw_tbl := List.mem_filter.mpr ⟨kt_3 _ (List.mem_of_getElem? (i := 18) rfl), rfl⟩
theorem kw_3_19 : (Jvm.Cond.code ({ cls := "java/lang/Integer", name := "bitCount", desc := "(I)I" } : Jvm.MethodName) prog_11_method_49_code (1 : Nat) (Option.some Jvm.ClassFile.FieldType.int)) ∈ gw_tbl := List.mem_filter.mpr ⟨kt_3 _ (List.mem_of_getElem? (i := 19) rfl), rfl⟩
theorem kw_3_20 : (Jvm.Cond.constant "java/lang/Integer" (265 : Nat) (1431655765 : Int32)) ∈ gw_tbl := List.mem_filter.mpr ⟨kt_3 _ (List.mem_of_getElem? (i := 20) rfl), rfl⟩
theorem kw_3_21 : (Jvm.Cond.constant "java/lang/Integer" (266 : Nat) (858993459 : Int32)) ∈ gw_tbl := List.mem_filter.mpr ⟨kt_3 _ (List.mem_of_getElem? (i := 21) rfl), rfl⟩
theorem kw_3_22 : (Jvm.Cond.constant "java/lang/Integer" (267 : Nat) (252645135 : Int32)) ∈ gw_tbl := List.mem_filter.mpr ⟨kt_3 _ (List.mem_of_getElem? (i := 22) rfl), rfl⟩
theorem kw_3_23 : (Jvm.Cond.methodLink "BoostForestsLaw" (79 : Nat) ({ cls := "BoostForests", name := "gain", desc := "(I)J" } : Jvm.MethodName)) ∈ gw_tbl := List.mem_filter.mpr ⟨kt_3 _ (List.mem_of_getElem? (i := 23) rfl), rfl⟩
theorem kw_3_24 : (Jvm.Cond.instanceMethod ({ cls := "BoostForests", name := "gain", desc := "(I)J" } : Jvm.MethodName)) ∈ gw_tbl := List.mem_filter.mpr ⟨kt_3 _ (List.mem_of_getElem? (i := 24) rfl), rfl⟩
theorem kw_3_25 : (Jvm.Cond.selects "BoostForests" ({ cls := "BoostForests", name := "gain", desc := "(I)J" } : Jvm.MethodName) ({ cls := "BoostForests", name := "gain", desc := "(I)J" } : Jvm.MethodName)) ∈ gw_tbl := List.mem_filter.mpr ⟨kt_3 _ (List.mem_of_getElem? (i := 25) rfl), rfl⟩
theorem kw_3_26 : (Jvm.Cond.code ({ cls := "BoostForests", name := "gain", desc := "(I)J" } : Jvm.MethodName) prog_1_method_16_code (2 : Nat) (Option.some Jvm.ClassFile.FieldType.long)) ∈ gw_tbl := List.mem_filter.mpr ⟨kt_3 _ (List.mem_of_getElem? (i := 26) rfl), rfl⟩
theorem kw_3_27 : (Jvm.Cond.methodLink "BoostForests" (140 : Nat) ({ cls := "BoostForests$Training", name := "gainBy", desc := "(I)J" } : Jvm.MethodName)) ∈ gw_tbl := List.mem_filter.mpr ⟨kt_3 _ (List.mem_of_getElem? (i := 27) rfl), rfl⟩
theorem kw_3_28 : (Jvm.Cond.instanceMethod ({ cls := "BoostForests$Training", name := "gainBy", desc := "(I)J" } : Jvm.MethodName)) ∈ gw_tbl := List.mem_filter.mpr ⟨kt_3 _ (List.mem_of_getElem? (i := 28) rfl), rfl⟩
theorem kw_3_29 : (Jvm.Cond.selects "BoostForests$Training" ({ cls := "BoostForests$Training", name := "gainBy", desc := "(I)J" } : Jvm.MethodName) ({ cls := "BoostForests$Training", name := "gainBy", desc := "(I)J" } : Jvm.MethodName)) ∈ gw_tbl := List.mem_filter.mpr ⟨kt_3 _ (List.mem_of_getElem? (i := 29) rfl), rfl⟩
theorem kw_3_30 : (Jvm.Cond.code ({ cls := "BoostForests$Training", name := "gainBy", desc := "(I)J" } : Jvm.MethodName) prog_6_method_9_code (6 : Nat) (Option.some Jvm.ClassFile.FieldType.long)) ∈ gw_tbl := List.mem_filter.mpr ⟨kt_3 _ (List.mem_of_getElem? (i := 30) rfl), rfl⟩
theorem kw_3_31 : (Jvm.Cond.methodLink "BoostForestsLaw" (83 : Nat) ({ cls := "BoostForests", name := "told", desc := "(IIIII)J" } : Jvm.MethodName)) ∈ gw_tbl := List.mem_filter.mpr ⟨kt_3 _ (List.mem_of_getElem? (i := 31) rfl), rfl⟩
theorem kw_3_32 : (Jvm.Cond.instanceMethod ({ cls := "BoostForests", name := "told", desc := "(IIIII)J" } : Jvm.MethodName)) ∈ gw_tbl := List.mem_filter.mpr ⟨kt_3 _ (List.mem_of_getElem? (i := 32) rfl), rfl⟩
theorem kw_3_33 : (Jvm.Cond.selects "BoostForests" ({ cls := "BoostForests", name := "told", desc := "(IIIII)J" } : Jvm.MethodName) ({ cls := "BoostForests", name := "told", desc := "(IIIII)J" } : Jvm.MethodName)) ∈ gw_tbl := List.mem_filter.mpr ⟨kt_3 _ (List.mem_of_getElem? (i := 33) rfl), rfl⟩
theorem kw_3_34 : (Jvm.Cond.code ({ cls := "BoostForests", name := "told", desc := "(IIIII)J" } : Jvm.MethodName) prog_1_method_17_code (6 : Nat) (Option.some Jvm.ClassFile.FieldType.long)) ∈ gw_tbl := List.mem_filter.mpr ⟨kt_3 _ (List.mem_of_getElem? (i := 34) rfl), rfl⟩
theorem kw_3_35 : (Jvm.Cond.methodLink "BoostForests" (143 : Nat) ({ cls := "BoostForests$Training", name := "tellAll", desc := "(I[I)J" } : Jvm.MethodName)) ∈ gw_tbl := List.mem_filter.mpr ⟨kt_3 _ (List.mem_of_getElem? (i := 35) rfl), rfl⟩
theorem kw_3_36 : (Jvm.Cond.instanceMethod ({ cls := "BoostForests$Training", name := "tellAll", desc := "(I[I)J" } : Jvm.MethodName)) ∈ gw_tbl := List.mem_filter.mpr ⟨kt_3 _ (List.mem_of_getElem? (i := 36) rfl), rfl⟩
theorem kw_3_37 : (Jvm.Cond.selects "BoostForests$Training" ({ cls := "BoostForests$Training", name := "tellAll", desc := "(I[I)J" } : Jvm.MethodName) ({ cls := "BoostForests$Training", name := "tellAll", desc := "(I[I)J" } : Jvm.MethodName)) ∈ gw_tbl := List.mem_filter.mpr ⟨kt_3 _ (List.mem_of_getElem? (i := 37) rfl), rfl⟩
theorem kw_3_38 : (Jvm.Cond.code ({ cls := "BoostForests$Training", name := "tellAll", desc := "(I[I)J" } : Jvm.MethodName) prog_6_method_10_code (6 : Nat) (Option.some Jvm.ClassFile.FieldType.long)) ∈ gw_tbl := List.mem_filter.mpr ⟨kt_3 _ (List.mem_of_getElem? (i := 38) rfl), rfl⟩
theorem kw_3_39 : (Jvm.Cond.methodLink "BoostForests$Training" (135 : Nat) ({ cls := "BoostForests$Training", name := "tellTree", desc := "(LBoostForests$Tree;I[I)J" } : Jvm.MethodName)) ∈ gw_tbl := List.mem_filter.mpr ⟨kt_3 _ (List.mem_of_getElem? (i := 39) rfl), rfl⟩
theorem kl_3_40 : (Jvm.Cond.privateMethod ({ cls := "BoostForests$Training", name := "tellTree", desc := "(LBoostForests$Tree;I[I)J" } : Jvm.MethodName)) ∈ lw_tbl := kt_3 _ (List.mem_of_getElem? (i := 40) rfl)
theorem kw_3_41 : (Jvm.Cond.instanceMethod ({ cls := "BoostForests$Training", name := "tellTree", desc := "(LBoostForests$Tree;I[I)J" } : Jvm.MethodName)) ∈ gw_tbl := List.mem_filter.mpr ⟨kt_3 _ (List.mem_of_getElem? (i := 41) rfl), rfl⟩
theorem kw_3_42 : (Jvm.Cond.code ({ cls := "BoostForests$Training", name := "tellTree", desc := "(LBoostForests$Tree;I[I)J" } : Jvm.MethodName) prog_6_method_12_code (6 : Nat) (Option.some Jvm.ClassFile.FieldType.long)) ∈ gw_tbl := List.mem_filter.mpr ⟨kt_3 _ (List.mem_of_getElem? (i := 42) rfl), rfl⟩
theorem kw_3_43 : (Jvm.Cond.methodLink "BoostForests$Training" (153 : Nat) ({ cls := "BoostForests$Tree", name := "stepFrom", desc := "(I[I)I" } : Jvm.MethodName)) ∈ gw_tbl := List.mem_filter.mpr ⟨kt_3 _ (List.mem_of_getElem? (i := 43) rfl), rfl⟩
theorem kw_3_44 : (Jvm.Cond.methodLink "BoostForests$Training" (157 : Nat) ({ cls := "BoostForests$Training", name := "tellBoth", desc := "(LBoostForests$Tree;I)J" } : Jvm.MethodName)) ∈ gw_tbl := List.mem_filter.mpr ⟨kt_3 _ (List.mem_of_getElem? (i := 44) rfl), rfl⟩
theorem kl_3_45 : (Jvm.Cond.privateMethod ({ cls := "BoostForests$Training", name := "tellBoth", desc := "(LBoostForests$Tree;I)J" } : Jvm.MethodName)) ∈ lw_tbl := kt_3 _ (List.mem_of_getElem? (i := 45) rfl)
theorem kw_3_46 : (Jvm.Cond.instanceMethod ({ cls := "BoostForests$Training", name := "tellBoth", desc := "(LBoostForests$Tree;I)J" } : Jvm.MethodName)) ∈ gw_tbl := List.mem_filter.mpr ⟨kt_3 _ (List.mem_of_getElem? (i := 46) rfl), rfl⟩
theorem kw_3_47 : (Jvm.Cond.code ({ cls := "BoostForests$Training", name := "tellBoth", desc := "(LBoostForests$Tree;I)J" } : Jvm.MethodName) prog_6_method_13_code (9 : Nat) (Option.some Jvm.ClassFile.FieldType.long)) ∈ gw_tbl := List.mem_filter.mpr ⟨kt_3 _ (List.mem_of_getElem? (i := 47) rfl), rfl⟩
theorem kw_3_48 : (Jvm.Cond.methodLink "BoostForests$Training" (161 : Nat) ({ cls := "java/lang/Math", name := "floorDiv", desc := "(JJ)J" } : Jvm.MethodName)) ∈ gw_tbl := List.mem_filter.mpr ⟨kt_3 _ (List.mem_of_getElem? (i := 48) rfl), rfl⟩
theorem kw_3_49 : (Jvm.Cond.static ({ cls := "java/lang/Math", name := "floorDiv", desc := "(JJ)J" } : Jvm.MethodName)) ∈ gw_tbl := List.mem_filter.mpr ⟨kt_3 _ (List.mem_of_getElem? (i := 49) rfl), rfl⟩
theorem kw_3_50 : (Jvm.Cond.code ({ cls := "java/lang/Math", name := "floorDiv", desc := "(JJ)J" } : Jvm.MethodName) prog_12_method_49_code (6 : Nat) (Option.some Jvm.ClassFile.FieldType.long)) ∈ gw_tbl := List.mem_filter.mpr ⟨kt_3 _ (List.mem_of_getElem? (i := 50) rfl), rfl⟩
theorem kw_3_51 : (Jvm.Cond.methodLink "BoostForestsLaw" (87 : Nat) ({ cls := "BoostForests", name := "share", desc := "(IIIII)J" } : Jvm.MethodName)) ∈ gw_tbl := List.mem_filter.mpr ⟨kt_3 _ (List.mem_of_getElem? (i := 51) rfl), rfl⟩
theorem kw_3_52 : (Jvm.Cond.instanceMethod ({ cls := "BoostForests", name := "share", desc := "(IIIII)J" } : Jvm.MethodName)) ∈ gw_tbl := List.mem_filter.mpr ⟨kt_3 _ (List.mem_of_getElem? (i := 52) rfl), rfl⟩
theorem kw_3_53 : (Jvm.Cond.selects "BoostForests" ({ cls := "BoostForests", name := "share", desc := "(IIIII)J" } : Jvm.MethodName) ({ cls := "BoostForests", name := "share", desc := "(IIIII)J" } : Jvm.MethodName)) ∈ gw_tbl := List.mem_filter.mpr ⟨kt_3 _ (List.mem_of_getElem? (i := 53) rfl), rfl⟩
theorem kw_3_54 : (Jvm.Cond.code ({ cls := "BoostForests", name := "share", desc := "(IIIII)J" } : Jvm.MethodName) prog_1_method_18_code (6 : Nat) (Option.some Jvm.ClassFile.FieldType.long)) ∈ gw_tbl := List.mem_filter.mpr ⟨kt_3 _ (List.mem_of_getElem? (i := 54) rfl), rfl⟩
theorem kw_3_55 : (Jvm.Cond.methodLink "BoostForests" (146 : Nat) ({ cls := "BoostForests$Training", name := "fairShare", desc := "(I[I)J" } : Jvm.MethodName)) ∈ gw_tbl := List.mem_filter.mpr ⟨kt_3 _ (List.mem_of_getElem? (i := 55) rfl), rfl⟩
theorem kw_3_56 : (Jvm.Cond.instanceMethod ({ cls := "BoostForests$Training", name := "fairShare", desc := "(I[I)J" } : Jvm.MethodName)) ∈ gw_tbl := List.mem_filter.mpr ⟨kt_3 _ (List.mem_of_getElem? (i := 56) rfl), rfl⟩
theorem kw_3_57 : (Jvm.Cond.selects "BoostForests$Training" ({ cls := "BoostForests$Training", name := "fairShare", desc := "(I[I)J" } : Jvm.MethodName) ({ cls := "BoostForests$Training", name := "fairShare", desc := "(I[I)J" } : Jvm.MethodName)) ∈ gw_tbl := List.mem_filter.mpr ⟨kt_3 _ (List.mem_of_getElem? (i := 57) rfl), rfl⟩
theorem kw_3_58 : (Jvm.Cond.code ({ cls := "BoostForests$Training", name := "fairShare", desc := "(I[I)J" } : Jvm.MethodName) prog_6_method_11_code (9 : Nat) (Option.some Jvm.ClassFile.FieldType.long)) ∈ gw_tbl := List.mem_filter.mpr ⟨kt_3 _ (List.mem_of_getElem? (i := 58) rfl), rfl⟩
theorem kw_3_59 : (Jvm.Cond.methodLink "BoostForests$Training" (139 : Nat) ({ cls := "java/lang/Integer", name := "bitCount", desc := "(I)I" } : Jvm.MethodName)) ∈ gw_tbl := List.mem_filter.mpr ⟨kt_3 _ (List.mem_of_getElem? (i := 59) rfl), rfl⟩
theorem kw_3_60 : (Jvm.Cond.methodLink "BoostForests$Training" (145 : Nat) ({ cls := "BoostForests$Training", name := "tellAll", desc := "(I[I)J" } : Jvm.MethodName)) ∈ gw_tbl := List.mem_filter.mpr ⟨kt_3 _ (List.mem_of_getElem? (i := 60) rfl), rfl⟩
theorem kw_3_61 : (Jvm.Cond.methodLink "BoostForestsLaw" (91 : Nat) ({ cls := "BoostForests", name := "count", desc := "(I)I" } : Jvm.MethodName)) ∈ gw_tbl := List.mem_filter.mpr ⟨kt_3 _ (List.mem_of_getElem? (i := 61) rfl), rfl⟩
theorem kw_3_62 : (Jvm.Cond.instanceMethod ({ cls := "BoostForests", name := "count", desc := "(I)I" } : Jvm.MethodName)) ∈ gw_tbl := List.mem_filter.mpr ⟨kt_3 _ (List.mem_of_getElem? (i := 62) rfl), rfl⟩
theorem kw_3_63 : (Jvm.Cond.selects "BoostForests" ({ cls := "BoostForests", name := "count", desc := "(I)I" } : Jvm.MethodName) ({ cls := "BoostForests", name := "count", desc := "(I)I" } : Jvm.MethodName)) ∈ gw_tbl := List.mem_filter.mpr ⟨kt_3 _ (List.mem_of_getElem? (i := 63) rfl), rfl⟩
theorem kw_3_64 : (Jvm.Cond.code ({ cls := "BoostForests", name := "count", desc := "(I)I" } : Jvm.MethodName) prog_1_method_19_code (2 : Nat) (Option.some Jvm.ClassFile.FieldType.int)) ∈ gw_tbl := List.mem_filter.mpr ⟨kt_3 _ (List.mem_of_getElem? (i := 64) rfl), rfl⟩
theorem kw_3_65 : (Jvm.Cond.classLink "BoostForestsLaw" (10 : Nat) "BoostForestsModel") ∈ gw_tbl := List.mem_filter.mpr ⟨kt_3 _ (List.mem_of_getElem? (i := 65) rfl), rfl⟩
theorem kw_3_66 : (Jvm.Cond.instantiable "BoostForestsModel" (32 : Nat)) ∈ gw_tbl := List.mem_filter.mpr ⟨kt_3 _ (List.mem_of_getElem? (i := 66) rfl), rfl⟩
theorem kw_3_67 : (Jvm.Cond.methodLink "BoostForestsLaw" (12 : Nat) ({ cls := "BoostForestsModel", name := "<init>", desc := "()V" } : Jvm.MethodName)) ∈ gw_tbl := List.mem_filter.mpr ⟨kt_3 _ (List.mem_of_getElem? (i := 67) rfl), rfl⟩
theorem kw_3_68 : (Jvm.Cond.instanceMethod ({ cls := "BoostForestsModel", name := "<init>", desc := "()V" } : Jvm.MethodName)) ∈ gw_tbl := List.mem_filter.mpr ⟨kt_3 _ (List.mem_of_getElem? (i := 68) rfl), rfl⟩
theorem kw_3_69 : (Jvm.Cond.code ({ cls := "BoostForestsModel", name := "<init>", desc := "()V" } : Jvm.MethodName) prog_9_method_1_code (1 : Nat) (Option.none : Option Jvm.ClassFile.FieldType)) ∈ gw_tbl := List.mem_filter.mpr ⟨kt_3 _ (List.mem_of_getElem? (i := 69) rfl), rfl⟩
theorem kw_3_70 : (Jvm.Cond.methodLink "BoostForestsModel" (1 : Nat) ({ cls := "java/lang/Object", name := "<init>", desc := "()V" } : Jvm.MethodName)) ∈ gw_tbl := List.mem_filter.mpr ⟨kt_3 _ (List.mem_of_getElem? (i := 70) rfl), rfl⟩
theorem kw_3_71 : (Jvm.Cond.fieldLink "BoostForestsModel" (95 : Nat) "BoostForestsModel" "rows" "I") ∈ gw_tbl := List.mem_filter.mpr ⟨kt_3 _ (List.mem_of_getElem? (i := 71) rfl), rfl⟩
theorem kw_3_72 : (Jvm.Cond.fieldLink "BoostForestsModel" (7 : Nat) "BoostForestsModel" "columns" "[I") ∈ gw_tbl := List.mem_filter.mpr ⟨kt_3 _ (List.mem_of_getElem? (i := 72) rfl), rfl⟩
theorem kw_3_73 : (Jvm.Cond.fieldLink "BoostForestsModel" (13 : Nat) "BoostForestsModel" "aims" "[I") ∈ gw_tbl := List.mem_filter.mpr ⟨kt_3 _ (List.mem_of_getElem? (i := 73) rfl), rfl⟩
theorem kw_3_74 : (Jvm.Cond.fieldLink "BoostForestsModel" (16 : Nat) "BoostForestsModel" "weights" "[I") ∈ gw_tbl := List.mem_filter.mpr ⟨kt_3 _ (List.mem_of_getElem? (i := 74) rfl), rfl⟩
theorem kw_3_75 : (Jvm.Cond.fieldLink "BoostForestsModel" (19 : Nat) "BoostForestsModel" "held" "[Z") ∈ gw_tbl := List.mem_filter.mpr ⟨kt_3 _ (List.mem_of_getElem? (i := 75) rfl), rfl⟩
theorem kw_3_76 : (Jvm.Cond.fieldLink "BoostForestsModel" (23 : Nat) "BoostForestsModel" "settings" "[I") ∈ gw_tbl := List.mem_filter.mpr ⟨kt_3 _ (List.mem_of_getElem? (i := 76) rfl), rfl⟩
theorem kw_3_77 : (Jvm.Cond.fieldLink "BoostForestsModel" (111 : Nat) "BoostForestsModel" "trained" "Z") ∈ gw_tbl := List.mem_filter.mpr ⟨kt_3 _ (List.mem_of_getElem? (i := 77) rfl), rfl⟩
theorem kw_3_78 : (Jvm.Cond.fieldLink "BoostForestsModel" (115 : Nat) "BoostForestsModel" "trainedRows" "I") ∈ gw_tbl := List.mem_filter.mpr ⟨kt_3 _ (List.mem_of_getElem? (i := 78) rfl), rfl⟩
theorem kw_3_79 : (Jvm.Cond.fieldLink "BoostForestsModel" (26 : Nat) "BoostForestsModel" "cols" "[I") ∈ gw_tbl := List.mem_filter.mpr ⟨kt_3 _ (List.mem_of_getElem? (i := 79) rfl), rfl⟩
theorem kw_3_80 : (Jvm.Cond.fieldLink "BoostForestsModel" (29 : Nat) "BoostForestsModel" "ys" "[I") ∈ gw_tbl := List.mem_filter.mpr ⟨kt_3 _ (List.mem_of_getElem? (i := 80) rfl), rfl⟩
theorem kw_3_81 : (Jvm.Cond.fieldLink "BoostForestsModel" (32 : Nat) "BoostForestsModel" "ws" "[I") ∈ gw_tbl := List.mem_filter.mpr ⟨kt_3 _ (List.mem_of_getElem? (i := 81) rfl), rfl⟩
theorem kw_3_82 : (Jvm.Cond.fieldLink "BoostForestsModel" (35 : Nat) "BoostForestsModel" "isHeld" "[Z") ∈ gw_tbl := List.mem_filter.mpr ⟨kt_3 _ (List.mem_of_getElem? (i := 82) rfl), rfl⟩
theorem kw_3_83 : (Jvm.Cond.fieldLink "BoostForestsModel" (38 : Nat) "BoostForestsModel" "then" "[I") ∈ gw_tbl := List.mem_filter.mpr ⟨kt_3 _ (List.mem_of_getElem? (i := 83) rfl), rfl⟩
theorem kw_3_84 : (Jvm.Cond.fieldLink "BoostForestsModel" (41 : Nat) "BoostForestsModel" "now" "[J") ∈ gw_tbl := List.mem_filter.mpr ⟨kt_3 _ (List.mem_of_getElem? (i := 84) rfl), rfl⟩
theorem kw_3_85 : (Jvm.Cond.fieldLink "BoostForestsModel" (120 : Nat) "BoostForestsModel" "trees" "I") ∈ gw_tbl := List.mem_filter.mpr ⟨kt_3 _ (List.mem_of_getElem? (i := 85) rfl), rfl⟩
theorem kw_3_86 : (Jvm.Cond.fieldLink "BoostForestsModel" (45 : Nat) "BoostForestsModel" "losses" "[J") ∈ gw_tbl := List.mem_filter.mpr ⟨kt_3 _ (List.mem_of_getElem? (i := 86) rfl), rfl⟩
theorem kw_3_87 : (Jvm.Cond.fieldLink "BoostForestsModel" (48 : Nat) "BoostForestsModel" "takesPart" "[Z") ∈ gw_tbl := List.mem_filter.mpr ⟨kt_3 _ (List.mem_of_getElem? (i := 87) rfl), rfl⟩
theorem kw_3_88 : (Jvm.Cond.fieldLink "BoostForestsModel" (51 : Nat) "BoostForestsModel" "sizes" "[I") ∈ gw_tbl := List.mem_filter.mpr ⟨kt_3 _ (List.mem_of_getElem? (i := 88) rfl), rfl⟩
theorem kw_3_89 : (Jvm.Cond.fieldLink "BoostForestsModel" (54 : Nat) "BoostForestsModel" "nodeColumns" "[I") ∈ gw_tbl := List.mem_filter.mpr ⟨kt_3 _ (List.mem_of_getElem? (i := 89) rfl), rfl⟩
theorem kw_3_90 : (Jvm.Cond.fieldLink "BoostForestsModel" (57 : Nat) "BoostForestsModel" "nodeCuts" "[I") ∈ gw_tbl := List.mem_filter.mpr ⟨kt_3 _ (List.mem_of_getElem? (i := 90) rfl), rfl⟩
theorem kw_3_91 : (Jvm.Cond.fieldLink "BoostForestsModel" (60 : Nat) "BoostForestsModel" "nodeSides" "[I") ∈ gw_tbl := List.mem_filter.mpr ⟨kt_3 _ (List.mem_of_getElem? (i := 91) rfl), rfl⟩
theorem kw_3_92 : (Jvm.Cond.fieldLink "BoostForestsModel" (63 : Nat) "BoostForestsModel" "nodeLefts" "[I") ∈ gw_tbl := List.mem_filter.mpr ⟨kt_3 _ (List.mem_of_getElem? (i := 92) rfl), rfl⟩
theorem kw_3_93 : (Jvm.Cond.fieldLink "BoostForestsModel" (66 : Nat) "BoostForestsModel" "nodeRows" "[I") ∈ gw_tbl := List.mem_filter.mpr ⟨kt_3 _ (List.mem_of_getElem? (i := 93) rfl), rfl⟩
theorem kw_3_94 : (Jvm.Cond.fieldLink "BoostForestsModel" (69 : Nat) "BoostForestsModel" "nodeWeights" "[I") ∈ gw_tbl := List.mem_filter.mpr ⟨kt_3 _ (List.mem_of_getElem? (i := 94) rfl), rfl⟩
theorem kw_3_95 : (Jvm.Cond.fieldLink "BoostForestsModel" (72 : Nat) "BoostForestsModel" "nodeDepths" "[I") ∈ gw_tbl := List.mem_filter.mpr ⟨kt_3 _ (List.mem_of_getElem? (i := 95) rfl), rfl⟩
theorem kw_3_96 : (Jvm.Cond.fieldLink "BoostForestsModel" (75 : Nat) "BoostForestsModel" "nodeSlopes" "[J") ∈ gw_tbl := List.mem_filter.mpr ⟨kt_3 _ (List.mem_of_getElem? (i := 96) rfl), rfl⟩
theorem kw_3_97 : (Jvm.Cond.fieldLink "BoostForestsModel" (78 : Nat) "BoostForestsModel" "nodeGains" "[J") ∈ gw_tbl := List.mem_filter.mpr ⟨kt_3 _ (List.mem_of_getElem? (i := 97) rfl), rfl⟩
theorem kw_3_98 : (Jvm.Cond.fieldLink "BoostForestsModel" (81 : Nat) "BoostForestsModel" "nodeOf" "[I") ∈ gw_tbl := List.mem_filter.mpr ⟨kt_3 _ (List.mem_of_getElem? (i := 98) rfl), rfl⟩
theorem kw_3_99 : (Jvm.Cond.fieldLink "BoostForestsModel" (84 : Nat) "BoostForestsModel" "tells" "[J") ∈ gw_tbl := List.mem_filter.mpr ⟨kt_3 _ (List.mem_of_getElem? (i := 99) rfl), rfl⟩
theorem kw_3_100 : (Jvm.Cond.fieldLink "BoostForestsModel" (137 : Nat) "BoostForestsModel" "slope" "J") ∈ gw_tbl := List.mem_filter.mpr ⟨kt_3 _ (List.mem_of_getElem? (i := 100) rfl), rfl⟩
theorem kw_3_101 : (Jvm.Cond.fieldLink "BoostForestsModel" (141 : Nat) "BoostForestsModel" "weight" "I") ∈ gw_tbl := List.mem_filter.mpr ⟨kt_3 _ (List.mem_of_getElem? (i := 101) rfl), rfl⟩
theorem kw_3_102 : (Jvm.Cond.fieldLink "BoostForestsModel" (144 : Nat) "BoostForestsModel" "count" "I") ∈ gw_tbl := List.mem_filter.mpr ⟨kt_3 _ (List.mem_of_getElem? (i := 102) rfl), rfl⟩
theorem kw_3_103 : (Jvm.Cond.lays "BoostForestsModel" "BoostForestsModel" "rows" "I") ∈ gw_tbl := List.mem_filter.mpr ⟨kt_3 _ (List.mem_of_getElem? (i := 103) rfl), rfl⟩
theorem kl_3_104 : (Jvm.Cond.soleField "BoostForestsModel" "rows") ∈ lw_tbl := kt_3 _ (List.mem_of_getElem? (i := 104) rfl)
theorem kw_3_105 : (Jvm.Cond.laysFinal "BoostForestsModel" "BoostForestsModel" "columns" "[I") ∈ gw_tbl := List.mem_filter.mpr ⟨kt_3 _ (List.mem_of_getElem? (i := 105) rfl), rfl⟩
theorem kl_3_106 : (Jvm.Cond.soleField "BoostForestsModel" "columns") ∈ lw_tbl := kt_3 _ (List.mem_of_getElem? (i := 106) rfl)
theorem kw_3_107 : (Jvm.Cond.laysFinal "BoostForestsModel" "BoostForestsModel" "aims" "[I") ∈ gw_tbl := List.mem_filter.mpr ⟨kt_3 _ (List.mem_of_getElem? (i := 107) rfl), rfl⟩
theorem kl_3_108 : (Jvm.Cond.soleField "BoostForestsModel" "aims") ∈ lw_tbl := kt_3 _ (List.mem_of_getElem? (i := 108) rfl)
theorem kw_3_109 : (Jvm.Cond.laysFinal "BoostForestsModel" "BoostForestsModel" "weights" "[I") ∈ gw_tbl := List.mem_filter.mpr ⟨kt_3 _ (List.mem_of_getElem? (i := 109) rfl), rfl⟩
theorem kl_3_110 : (Jvm.Cond.soleField "BoostForestsModel" "weights") ∈ lw_tbl := kt_3 _ (List.mem_of_getElem? (i := 110) rfl)
theorem kw_3_111 : (Jvm.Cond.laysFinal "BoostForestsModel" "BoostForestsModel" "held" "[Z") ∈ gw_tbl := List.mem_filter.mpr ⟨kt_3 _ (List.mem_of_getElem? (i := 111) rfl), rfl⟩
theorem kl_3_112 : (Jvm.Cond.soleField "BoostForestsModel" "held") ∈ lw_tbl := kt_3 _ (List.mem_of_getElem? (i := 112) rfl)
theorem kw_3_113 : (Jvm.Cond.laysFinal "BoostForestsModel" "BoostForestsModel" "settings" "[I") ∈ gw_tbl := List.mem_filter.mpr ⟨kt_3 _ (List.mem_of_getElem? (i := 113) rfl), rfl⟩
theorem kl_3_114 : (Jvm.Cond.soleField "BoostForestsModel" "settings") ∈ lw_tbl := kt_3 _ (List.mem_of_getElem? (i := 114) rfl)
theorem kw_3_115 : (Jvm.Cond.lays "BoostForestsModel" "BoostForestsModel" "trained" "Z") ∈ gw_tbl := List.mem_filter.mpr ⟨kt_3 _ (List.mem_of_getElem? (i := 115) rfl), rfl⟩
theorem kl_3_116 : (Jvm.Cond.soleField "BoostForestsModel" "trained") ∈ lw_tbl := kt_3 _ (List.mem_of_getElem? (i := 116) rfl)
theorem kw_3_117 : (Jvm.Cond.lays "BoostForestsModel" "BoostForestsModel" "trainedRows" "I") ∈ gw_tbl := List.mem_filter.mpr ⟨kt_3 _ (List.mem_of_getElem? (i := 117) rfl), rfl⟩
theorem kl_3_118 : (Jvm.Cond.soleField "BoostForestsModel" "trainedRows") ∈ lw_tbl := kt_3 _ (List.mem_of_getElem? (i := 118) rfl)
theorem kw_3_119 : (Jvm.Cond.laysFinal "BoostForestsModel" "BoostForestsModel" "cols" "[I") ∈ gw_tbl := List.mem_filter.mpr ⟨kt_3 _ (List.mem_of_getElem? (i := 119) rfl), rfl⟩
theorem kl_3_120 : (Jvm.Cond.soleField "BoostForestsModel" "cols") ∈ lw_tbl := kt_3 _ (List.mem_of_getElem? (i := 120) rfl)
theorem kw_3_121 : (Jvm.Cond.laysFinal "BoostForestsModel" "BoostForestsModel" "ys" "[I") ∈ gw_tbl := List.mem_filter.mpr ⟨kt_3 _ (List.mem_of_getElem? (i := 121) rfl), rfl⟩
theorem kl_3_122 : (Jvm.Cond.soleField "BoostForestsModel" "ys") ∈ lw_tbl := kt_3 _ (List.mem_of_getElem? (i := 122) rfl)
theorem kw_3_123 : (Jvm.Cond.laysFinal "BoostForestsModel" "BoostForestsModel" "ws" "[I") ∈ gw_tbl := List.mem_filter.mpr ⟨kt_3 _ (List.mem_of_getElem? (i := 123) rfl), rfl⟩
theorem kl_3_124 : (Jvm.Cond.soleField "BoostForestsModel" "ws") ∈ lw_tbl := kt_3 _ (List.mem_of_getElem? (i := 124) rfl)
theorem kw_3_125 : (Jvm.Cond.laysFinal "BoostForestsModel" "BoostForestsModel" "isHeld" "[Z") ∈ gw_tbl := List.mem_filter.mpr ⟨kt_3 _ (List.mem_of_getElem? (i := 125) rfl), rfl⟩
theorem kl_3_126 : (Jvm.Cond.soleField "BoostForestsModel" "isHeld") ∈ lw_tbl := kt_3 _ (List.mem_of_getElem? (i := 126) rfl)
theorem kw_3_127 : (Jvm.Cond.laysFinal "BoostForestsModel" "BoostForestsModel" "then" "[I") ∈ gw_tbl := List.mem_filter.mpr ⟨kt_3 _ (List.mem_of_getElem? (i := 127) rfl), rfl⟩
theorem kl_3_128 : (Jvm.Cond.soleField "BoostForestsModel" "then") ∈ lw_tbl := kt_3 _ (List.mem_of_getElem? (i := 128) rfl)
theorem kw_3_129 : (Jvm.Cond.laysFinal "BoostForestsModel" "BoostForestsModel" "now" "[J") ∈ gw_tbl := List.mem_filter.mpr ⟨kt_3 _ (List.mem_of_getElem? (i := 129) rfl), rfl⟩
theorem kl_3_130 : (Jvm.Cond.soleField "BoostForestsModel" "now") ∈ lw_tbl := kt_3 _ (List.mem_of_getElem? (i := 130) rfl)
theorem kw_3_131 : (Jvm.Cond.lays "BoostForestsModel" "BoostForestsModel" "trees" "I") ∈ gw_tbl := List.mem_filter.mpr ⟨kt_3 _ (List.mem_of_getElem? (i := 131) rfl), rfl⟩
theorem kl_3_132 : (Jvm.Cond.soleField "BoostForestsModel" "trees") ∈ lw_tbl := kt_3 _ (List.mem_of_getElem? (i := 132) rfl)
theorem kw_3_133 : (Jvm.Cond.laysFinal "BoostForestsModel" "BoostForestsModel" "losses" "[J") ∈ gw_tbl := List.mem_filter.mpr ⟨kt_3 _ (List.mem_of_getElem? (i := 133) rfl), rfl⟩
theorem kl_3_134 : (Jvm.Cond.soleField "BoostForestsModel" "losses") ∈ lw_tbl := kt_3 _ (List.mem_of_getElem? (i := 134) rfl)
theorem kw_3_135 : (Jvm.Cond.laysFinal "BoostForestsModel" "BoostForestsModel" "takesPart" "[Z") ∈ gw_tbl := List.mem_filter.mpr ⟨kt_3 _ (List.mem_of_getElem? (i := 135) rfl), rfl⟩
theorem kl_3_136 : (Jvm.Cond.soleField "BoostForestsModel" "takesPart") ∈ lw_tbl := kt_3 _ (List.mem_of_getElem? (i := 136) rfl)
theorem kw_3_137 : (Jvm.Cond.laysFinal "BoostForestsModel" "BoostForestsModel" "sizes" "[I") ∈ gw_tbl := List.mem_filter.mpr ⟨kt_3 _ (List.mem_of_getElem? (i := 137) rfl), rfl⟩
theorem kl_3_138 : (Jvm.Cond.soleField "BoostForestsModel" "sizes") ∈ lw_tbl := kt_3 _ (List.mem_of_getElem? (i := 138) rfl)
theorem kw_3_139 : (Jvm.Cond.laysFinal "BoostForestsModel" "BoostForestsModel" "nodeColumns" "[I") ∈ gw_tbl := List.mem_filter.mpr ⟨kt_3 _ (List.mem_of_getElem? (i := 139) rfl), rfl⟩
theorem kl_3_140 : (Jvm.Cond.soleField "BoostForestsModel" "nodeColumns") ∈ lw_tbl := kt_3 _ (List.mem_of_getElem? (i := 140) rfl)
theorem kw_3_141 : (Jvm.Cond.laysFinal "BoostForestsModel" "BoostForestsModel" "nodeCuts" "[I") ∈ gw_tbl := List.mem_filter.mpr ⟨kt_3 _ (List.mem_of_getElem? (i := 141) rfl), rfl⟩
theorem kl_3_142 : (Jvm.Cond.soleField "BoostForestsModel" "nodeCuts") ∈ lw_tbl := kt_3 _ (List.mem_of_getElem? (i := 142) rfl)
theorem kw_3_143 : (Jvm.Cond.laysFinal "BoostForestsModel" "BoostForestsModel" "nodeSides" "[I") ∈ gw_tbl := List.mem_filter.mpr ⟨kt_3 _ (List.mem_of_getElem? (i := 143) rfl), rfl⟩
theorem kl_3_144 : (Jvm.Cond.soleField "BoostForestsModel" "nodeSides") ∈ lw_tbl := kt_3 _ (List.mem_of_getElem? (i := 144) rfl)
theorem kw_3_145 : (Jvm.Cond.laysFinal "BoostForestsModel" "BoostForestsModel" "nodeLefts" "[I") ∈ gw_tbl := List.mem_filter.mpr ⟨kt_3 _ (List.mem_of_getElem? (i := 145) rfl), rfl⟩
theorem kl_3_146 : (Jvm.Cond.soleField "BoostForestsModel" "nodeLefts") ∈ lw_tbl := kt_3 _ (List.mem_of_getElem? (i := 146) rfl)
theorem kw_3_147 : (Jvm.Cond.laysFinal "BoostForestsModel" "BoostForestsModel" "nodeRows" "[I") ∈ gw_tbl := List.mem_filter.mpr ⟨kt_3 _ (List.mem_of_getElem? (i := 147) rfl), rfl⟩
theorem kl_3_148 : (Jvm.Cond.soleField "BoostForestsModel" "nodeRows") ∈ lw_tbl := kt_3 _ (List.mem_of_getElem? (i := 148) rfl)
theorem kw_3_149 : (Jvm.Cond.laysFinal "BoostForestsModel" "BoostForestsModel" "nodeWeights" "[I") ∈ gw_tbl := List.mem_filter.mpr ⟨kt_3 _ (List.mem_of_getElem? (i := 149) rfl), rfl⟩
theorem kl_3_150 : (Jvm.Cond.soleField "BoostForestsModel" "nodeWeights") ∈ lw_tbl := kt_3 _ (List.mem_of_getElem? (i := 150) rfl)
theorem kw_3_151 : (Jvm.Cond.laysFinal "BoostForestsModel" "BoostForestsModel" "nodeDepths" "[I") ∈ gw_tbl := List.mem_filter.mpr ⟨kt_3 _ (List.mem_of_getElem? (i := 151) rfl), rfl⟩
theorem kl_3_152 : (Jvm.Cond.soleField "BoostForestsModel" "nodeDepths") ∈ lw_tbl := kt_3 _ (List.mem_of_getElem? (i := 152) rfl)
theorem kw_3_153 : (Jvm.Cond.laysFinal "BoostForestsModel" "BoostForestsModel" "nodeSlopes" "[J") ∈ gw_tbl := List.mem_filter.mpr ⟨kt_3 _ (List.mem_of_getElem? (i := 153) rfl), rfl⟩
theorem kl_3_154 : (Jvm.Cond.soleField "BoostForestsModel" "nodeSlopes") ∈ lw_tbl := kt_3 _ (List.mem_of_getElem? (i := 154) rfl)
theorem kw_3_155 : (Jvm.Cond.laysFinal "BoostForestsModel" "BoostForestsModel" "nodeGains" "[J") ∈ gw_tbl := List.mem_filter.mpr ⟨kt_3 _ (List.mem_of_getElem? (i := 155) rfl), rfl⟩
theorem kl_3_156 : (Jvm.Cond.soleField "BoostForestsModel" "nodeGains") ∈ lw_tbl := kt_3 _ (List.mem_of_getElem? (i := 156) rfl)
theorem kw_3_157 : (Jvm.Cond.laysFinal "BoostForestsModel" "BoostForestsModel" "nodeOf" "[I") ∈ gw_tbl := List.mem_filter.mpr ⟨kt_3 _ (List.mem_of_getElem? (i := 157) rfl), rfl⟩
theorem kl_3_158 : (Jvm.Cond.soleField "BoostForestsModel" "nodeOf") ∈ lw_tbl := kt_3 _ (List.mem_of_getElem? (i := 158) rfl)
theorem kw_3_159 : (Jvm.Cond.laysFinal "BoostForestsModel" "BoostForestsModel" "tells" "[J") ∈ gw_tbl := List.mem_filter.mpr ⟨kt_3 _ (List.mem_of_getElem? (i := 159) rfl), rfl⟩
theorem kl_3_160 : (Jvm.Cond.soleField "BoostForestsModel" "tells") ∈ lw_tbl := kt_3 _ (List.mem_of_getElem? (i := 160) rfl)
theorem kw_3_161 : (Jvm.Cond.lays "BoostForestsModel" "BoostForestsModel" "slope" "J") ∈ gw_tbl := List.mem_filter.mpr ⟨kt_3 _ (List.mem_of_getElem? (i := 161) rfl), rfl⟩
theorem kl_3_162 : (Jvm.Cond.soleField "BoostForestsModel" "slope") ∈ lw_tbl := kt_3 _ (List.mem_of_getElem? (i := 162) rfl)
theorem kw_3_163 : (Jvm.Cond.lays "BoostForestsModel" "BoostForestsModel" "weight" "I") ∈ gw_tbl := List.mem_filter.mpr ⟨kt_3 _ (List.mem_of_getElem? (i := 163) rfl), rfl⟩
theorem kl_3_164 : (Jvm.Cond.soleField "BoostForestsModel" "weight") ∈ lw_tbl := kt_3 _ (List.mem_of_getElem? (i := 164) rfl)
theorem kw_3_165 : (Jvm.Cond.lays "BoostForestsModel" "BoostForestsModel" "count" "I") ∈ gw_tbl := List.mem_filter.mpr ⟨kt_3 _ (List.mem_of_getElem? (i := 165) rfl), rfl⟩
theorem kl_3_166 : (Jvm.Cond.soleField "BoostForestsModel" "count") ∈ lw_tbl := kt_3 _ (List.mem_of_getElem? (i := 166) rfl)
theorem kl_3_167 : (Jvm.Cond.superclass "BoostForestsModel" "java/lang/Object") ∈ lw_tbl := kt_3 _ (List.mem_of_getElem? (i := 167) rfl)
theorem kw_3_168 : (Jvm.Cond.methodLink "BoostForestsLaw" (17 : Nat) ({ cls := "BoostForestsModel", name := "row", desc := "(IIIIII)I" } : Jvm.MethodName)) ∈ gw_tbl := List.mem_filter.mpr ⟨kt_3 _ (List.mem_of_getElem? (i := 168) rfl), rfl⟩
theorem kw_3_169 : (Jvm.Cond.instanceMethod ({ cls := "BoostForestsModel", name := "row", desc := "(IIIIII)I" } : Jvm.MethodName)) ∈ gw_tbl := List.mem_filter.mpr ⟨kt_3 _ (List.mem_of_getElem? (i := 169) rfl), rfl⟩
theorem kw_3_170 : (Jvm.Cond.selects "BoostForestsModel" ({ cls := "BoostForestsModel", name := "row", desc := "(IIIIII)I" } : Jvm.MethodName) ({ cls := "BoostForestsModel", name := "row", desc := "(IIIIII)I" } : Jvm.MethodName)) ∈ gw_tbl := List.mem_filter.mpr ⟨kt_3 _ (List.mem_of_getElem? (i := 170) rfl), rfl⟩
theorem kw_3_171 : (Jvm.Cond.code ({ cls := "BoostForestsModel", name := "row", desc := "(IIIIII)I" } : Jvm.MethodName) prog_9_method_5_code (8 : Nat) (Option.some Jvm.ClassFile.FieldType.int)) ∈ gw_tbl := List.mem_filter.mpr ⟨kt_3 _ (List.mem_of_getElem? (i := 171) rfl), rfl⟩
theorem kw_3_172 : (Jvm.Cond.methodLink "BoostForestsModel" (91 : Nat) ({ cls := "BoostForestsModel", name := "areNumbers", desc := "(IIII)Z" } : Jvm.MethodName)) ∈ gw_tbl := List.mem_filter.mpr ⟨kt_3 _ (List.mem_of_getElem? (i := 172) rfl), rfl⟩
theorem kw_3_173 : (Jvm.Cond.static ({ cls := "BoostForestsModel", name := "areNumbers", desc := "(IIII)Z" } : Jvm.MethodName)) ∈ gw_tbl := List.mem_filter.mpr ⟨kt_3 _ (List.mem_of_getElem? (i := 173) rfl), rfl⟩
theorem kw_3_174 : (Jvm.Cond.code ({ cls := "BoostForestsModel", name := "areNumbers", desc := "(IIII)Z" } : Jvm.MethodName) prog_9_method_3_code (4 : Nat) (Option.some Jvm.ClassFile.FieldType.boolean)) ∈ gw_tbl := List.mem_filter.mpr ⟨kt_3 _ (List.mem_of_getElem? (i := 174) rfl), rfl⟩
theorem kw_3_175 : (Jvm.Cond.methodLink "BoostForestsModel" (87 : Nat) ({ cls := "BoostForestsModel", name := "isNumber", desc := "(I)Z" } : Jvm.MethodName)) ∈ gw_tbl := List.mem_filter.mpr ⟨kt_3 _ (List.mem_of_getElem? (i := 175) rfl), rfl⟩
theorem kw_3_176 : (Jvm.Cond.static ({ cls := "BoostForestsModel", name := "isNumber", desc := "(I)Z" } : Jvm.MethodName)) ∈ gw_tbl := List.mem_filter.mpr ⟨kt_3 _ (List.mem_of_getElem? (i := 176) rfl), rfl⟩
theorem kw_3_177 : (Jvm.Cond.code ({ cls := "BoostForestsModel", name := "isNumber", desc := "(I)Z" } : Jvm.MethodName) prog_9_method_2_code (1 : Nat) (Option.some Jvm.ClassFile.FieldType.boolean)) ∈ gw_tbl := List.mem_filter.mpr ⟨kt_3 _ (List.mem_of_getElem? (i := 177) rfl), rfl⟩
theorem kw_3_178 : (Jvm.Cond.methodLink "BoostForestsModel" (99 : Nat) ({ cls := "BoostForestsModel", name := "number", desc := "(IIIII)I" } : Jvm.MethodName)) ∈ gw_tbl := List.mem_filter.mpr ⟨kt_3 _ (List.mem_of_getElem? (i := 178) rfl), rfl⟩
theorem kw_3_179 : (Jvm.Cond.static ({ cls := "BoostForestsModel", name := "number", desc := "(IIIII)I" } : Jvm.MethodName)) ∈ gw_tbl := List.mem_filter.mpr ⟨kt_3 _ (List.mem_of_getElem? (i := 179) rfl), rfl⟩
theorem kw_3_180 : (Jvm.Cond.code ({ cls := "BoostForestsModel", name := "number", desc := "(IIIII)I" } : Jvm.MethodName) prog_9_method_4_code (5 : Nat) (Option.some Jvm.ClassFile.FieldType.int)) ∈ gw_tbl := List.mem_filter.mpr ⟨kt_3 _ (List.mem_of_getElem? (i := 180) rfl), rfl⟩
theorem kw_3_181 : (Jvm.Cond.methodLink "BoostForestsLaw" (22 : Nat) ({ cls := "BoostForestsModel", name := "hold", desc := "(II)I" } : Jvm.MethodName)) ∈ gw_tbl := List.mem_filter.mpr ⟨kt_3 _ (List.mem_of_getElem? (i := 181) rfl), rfl⟩
theorem kw_3_182 : (Jvm.Cond.instanceMethod ({ cls := "BoostForestsModel", name := "hold", desc := "(II)I" } : Jvm.MethodName)) ∈ gw_tbl := List.mem_filter.mpr ⟨kt_3 _ (List.mem_of_getElem? (i := 182) rfl), rfl⟩
theorem kw_3_183 : (Jvm.Cond.selects "BoostForestsModel" ({ cls := "BoostForestsModel", name := "hold", desc := "(II)I" } : Jvm.MethodName) ({ cls := "BoostForestsModel", name := "hold", desc := "(II)I" } : Jvm.MethodName)) ∈ gw_tbl := List.mem_filter.mpr ⟨kt_3 _ (List.mem_of_getElem? (i := 183) rfl), rfl⟩
theorem kw_3_184 : (Jvm.Cond.code ({ cls := "BoostForestsModel", name := "hold", desc := "(II)I" } : Jvm.MethodName) prog_9_method_6_code (4 : Nat) (Option.some Jvm.ClassFile.FieldType.int)) ∈ gw_tbl := List.mem_filter.mpr ⟨kt_3 _ (List.mem_of_getElem? (i := 184) rfl), rfl⟩
theorem kw_3_185 : (Jvm.Cond.methodLink "BoostForestsLaw" (26 : Nat) ({ cls := "BoostForestsModel", name := "set", desc := "(II)I" } : Jvm.MethodName)) ∈ gw_tbl := List.mem_filter.mpr ⟨kt_3 _ (List.mem_of_getElem? (i := 185) rfl), rfl⟩
theorem kw_3_186 : (Jvm.Cond.instanceMethod ({ cls := "BoostForestsModel", name := "set", desc := "(II)I" } : Jvm.MethodName)) ∈ gw_tbl := List.mem_filter.mpr ⟨kt_3 _ (List.mem_of_getElem? (i := 186) rfl), rfl⟩
theorem kw_3_187 : (Jvm.Cond.selects "BoostForestsModel" ({ cls := "BoostForestsModel", name := "set", desc := "(II)I" } : Jvm.MethodName) ({ cls := "BoostForestsModel", name := "set", desc := "(II)I" } : Jvm.MethodName)) ∈ gw_tbl := List.mem_filter.mpr ⟨kt_3 _ (List.mem_of_getElem? (i := 187) rfl), rfl⟩
theorem kw_3_188 : (Jvm.Cond.code ({ cls := "BoostForestsModel", name := "set", desc := "(II)I" } : Jvm.MethodName) prog_9_method_8_code (4 : Nat) (Option.some Jvm.ClassFile.FieldType.int)) ∈ gw_tbl := List.mem_filter.mpr ⟨kt_3 _ (List.mem_of_getElem? (i := 188) rfl), rfl⟩
theorem kw_3_189 : (Jvm.Cond.methodLink "BoostForestsModel" (104 : Nat) ({ cls := "BoostForestsModel", name := "isSetting", desc := "(II)Z" } : Jvm.MethodName)) ∈ gw_tbl := List.mem_filter.mpr ⟨kt_3 _ (List.mem_of_getElem? (i := 189) rfl), rfl⟩
theorem kw_3_190 : (Jvm.Cond.static ({ cls := "BoostForestsModel", name := "isSetting", desc := "(II)Z" } : Jvm.MethodName)) ∈ gw_tbl := List.mem_filter.mpr ⟨kt_3 _ (List.mem_of_getElem? (i := 190) rfl), rfl⟩
theorem kw_3_191 : (Jvm.Cond.code ({ cls := "BoostForestsModel", name := "isSetting", desc := "(II)Z" } : Jvm.MethodName) prog_9_method_7_code (2 : Nat) (Option.some Jvm.ClassFile.FieldType.boolean)) ∈ gw_tbl := List.mem_filter.mpr ⟨kt_3 _ (List.mem_of_getElem? (i := 191) rfl), rfl⟩
theorem kw_3_192 : (Jvm.Cond.constant "BoostForestsModel" (103 : Nat) (1000000 : Int32)) ∈ gw_tbl := List.mem_filter.mpr ⟨kt_3 _ (List.mem_of_getElem? (i := 192) rfl), rfl⟩
theorem kw_3_193 : (Jvm.Cond.methodLink "BoostForestsLaw" (31 : Nat) ({ cls := "BoostForestsModel", name := "clear", desc := "()I" } : Jvm.MethodName)) ∈ gw_tbl := List.mem_filter.mpr ⟨kt_3 _ (List.mem_of_getElem? (i := 193) rfl), rfl⟩
theorem kw_3_194 : (Jvm.Cond.instanceMethod ({ cls := "BoostForestsModel", name := "clear", desc := "()I" } : Jvm.MethodName)) ∈ gw_tbl := List.mem_filter.mpr ⟨kt_3 _ (List.mem_of_getElem? (i := 194) rfl), rfl⟩
theorem kw_3_195 : (Jvm.Cond.selects "BoostForestsModel" ({ cls := "BoostForestsModel", name := "clear", desc := "()I" } : Jvm.MethodName) ({ cls := "BoostForestsModel", name := "clear", desc := "()I" } : Jvm.MethodName)) ∈ gw_tbl := List.mem_filter.mpr ⟨kt_3 _ (List.mem_of_getElem? (i := 195) rfl), rfl⟩
theorem kw_3_196 : (Jvm.Cond.code ({ cls := "BoostForestsModel", name := "clear", desc := "()I" } : Jvm.MethodName) prog_9_method_9_code (2 : Nat) (Option.some Jvm.ClassFile.FieldType.int)) ∈ gw_tbl := List.mem_filter.mpr ⟨kt_3 _ (List.mem_of_getElem? (i := 196) rfl), rfl⟩
theorem kw_3_197 : (Jvm.Cond.methodLink "BoostForestsLaw" (35 : Nat) ({ cls := "BoostForestsModel", name := "train", desc := "()I" } : Jvm.MethodName)) ∈ gw_tbl := List.mem_filter.mpr ⟨kt_3 _ (List.mem_of_getElem? (i := 197) rfl), rfl⟩
theorem kw_3_198 : (Jvm.Cond.instanceMethod ({ cls := "BoostForestsModel", name := "train", desc := "()I" } : Jvm.MethodName)) ∈ gw_tbl := List.mem_filter.mpr ⟨kt_3 _ (List.mem_of_getElem? (i := 198) rfl), rfl⟩
theorem kw_3_199 : (Jvm.Cond.selects "BoostForestsModel" ({ cls := "BoostForestsModel", name := "train", desc := "()I" } : Jvm.MethodName) ({ cls := "BoostForestsModel", name := "train", desc := "()I" } : Jvm.MethodName)) ∈ gw_tbl := List.mem_filter.mpr ⟨kt_3 _ (List.mem_of_getElem? (i := 199) rfl), rfl⟩
theorem kw_3_200 : (Jvm.Cond.code ({ cls := "BoostForestsModel", name := "train", desc := "()I" } : Jvm.MethodName) prog_9_method_11_code (8 : Nat) (Option.some Jvm.ClassFile.FieldType.int)) ∈ gw_tbl := List.mem_filter.mpr ⟨kt_3 _ (List.mem_of_getElem? (i := 200) rfl), rfl⟩
theorem kw_3_201 : (Jvm.Cond.constantLong "BoostForestsModel" (118 : Nat) (256 : Int64)) ∈ gw_tbl := List.mem_filter.mpr ⟨kt_3 _ (List.mem_of_getElem? (i := 201) rfl), rfl⟩
theorem kw_3_202 : (Jvm.Cond.methodLink "BoostForestsModel" (123 : Nat) ({ cls := "BoostForestsModel", name := "keepLosses", desc := "()V" } : Jvm.MethodName)) ∈ gw_tbl := List.mem_filter.mpr ⟨kt_3 _ (List.mem_of_getElem? (i := 202) rfl), rfl⟩
theorem kl_3_203 : (Jvm.Cond.privateMethod ({ cls := "BoostForestsModel", name := "keepLosses", desc := "()V" } : Jvm.MethodName)) ∈ lw_tbl := kt_3 _ (List.mem_of_getElem? (i := 203) rfl)
theorem kw_3_204 : (Jvm.Cond.instanceMethod ({ cls := "BoostForestsModel", name := "keepLosses", desc := "()V" } : Jvm.MethodName)) ∈ gw_tbl := List.mem_filter.mpr ⟨kt_3 _ (List.mem_of_getElem? (i := 204) rfl), rfl⟩
theorem kw_3_205 : (Jvm.Cond.code ({ cls := "BoostForestsModel", name := "keepLosses", desc := "()V" } : Jvm.MethodName) prog_9_method_12_code (5 : Nat) (Option.none : Option Jvm.ClassFile.FieldType)) ∈ gw_tbl := List.mem_filter.mpr ⟨kt_3 _ (List.mem_of_getElem? (i := 205) rfl), rfl⟩
theorem kw_3_206 : (Jvm.Cond.methodLink "BoostForestsModel" (126 : Nat) ({ cls := "BoostForestsModel", name := "makeTree", desc := "(I)V" } : Jvm.MethodName)) ∈ gw_tbl := List.mem_filter.mpr ⟨kt_3 _ (List.mem_of_getElem? (i := 206) rfl), rfl⟩
theorem kl_3_207 : (Jvm.Cond.privateMethod ({ cls := "BoostForestsModel", name := "makeTree", desc := "(I)V" } : Jvm.MethodName)) ∈ lw_tbl := kt_3 _ (List.mem_of_getElem? (i := 207) rfl)
theorem kw_3_208 : (Jvm.Cond.instanceMethod ({ cls := "BoostForestsModel", name := "makeTree", desc := "(I)V" } : Jvm.MethodName)) ∈ gw_tbl := List.mem_filter.mpr ⟨kt_3 _ (List.mem_of_getElem? (i := 208) rfl), rfl⟩
theorem kw_3_209 : (Jvm.Cond.code ({ cls := "BoostForestsModel", name := "makeTree", desc := "(I)V" } : Jvm.MethodName) prog_9_method_17_code (4 : Nat) (Option.none : Option Jvm.ClassFile.FieldType)) ∈ gw_tbl := List.mem_filter.mpr ⟨kt_3 _ (List.mem_of_getElem? (i := 209) rfl), rfl⟩
theorem kw_3_210 : (Jvm.Cond.methodLink "BoostForestsModel" (151 : Nat) ({ cls := "BoostForestsModel", name := "drawn", desc := "(I)I" } : Jvm.MethodName)) ∈ gw_tbl := List.mem_filter.mpr ⟨kt_3 _ (List.mem_of_getElem? (i := 210) rfl), rfl⟩
theorem kl_3_211 : (Jvm.Cond.privateMethod ({ cls := "BoostForestsModel", name := "drawn", desc := "(I)I" } : Jvm.MethodName)) ∈ lw_tbl := kt_3 _ (List.mem_of_getElem? (i := 211) rfl)
theorem kw_3_212 : (Jvm.Cond.instanceMethod ({ cls := "BoostForestsModel", name := "drawn", desc := "(I)I" } : Jvm.MethodName)) ∈ gw_tbl := List.mem_filter.mpr ⟨kt_3 _ (List.mem_of_getElem? (i := 212) rfl), rfl⟩
theorem kw_3_213 : (Jvm.Cond.code ({ cls := "BoostForestsModel", name := "drawn", desc := "(I)I" } : Jvm.MethodName) prog_9_method_10_code (3 : Nat) (Option.some Jvm.ClassFile.FieldType.int)) ∈ gw_tbl := List.mem_filter.mpr ⟨kt_3 _ (List.mem_of_getElem? (i := 213) rfl), rfl⟩
theorem kw_3_214 : (Jvm.Cond.constant "BoostForestsModel" (108 : Nat) (1000003 : Int32)) ∈ gw_tbl := List.mem_filter.mpr ⟨kt_3 _ (List.mem_of_getElem? (i := 214) rfl), rfl⟩
theorem kw_3_215 : (Jvm.Cond.constant "BoostForestsModel" (109 : Nat) (739982445 : Int32)) ∈ gw_tbl := List.mem_filter.mpr ⟨kt_3 _ (List.mem_of_getElem? (i := 215) rfl), rfl⟩
theorem kw_3_216 : (Jvm.Cond.constant "BoostForestsModel" (110 : Nat) (695872825 : Int32)) ∈ gw_tbl := List.mem_filter.mpr ⟨kt_3 _ (List.mem_of_getElem? (i := 216) rfl), rfl⟩
theorem kw_3_217 : (Jvm.Cond.methodLink "BoostForestsModel" (155 : Nat) ({ cls := "BoostForestsModel", name := "layNode", desc := "(III)V" } : Jvm.MethodName)) ∈ gw_tbl := List.mem_filter.mpr ⟨kt_3 _ (List.mem_of_getElem? (i := 217) rfl), rfl⟩
theorem kl_3_218 : (Jvm.Cond.privateMethod ({ cls := "BoostForestsModel", name := "layNode", desc := "(III)V" } : Jvm.MethodName)) ∈ lw_tbl := kt_3 _ (List.mem_of_getElem? (i := 218) rfl)
theorem kw_3_219 : (Jvm.Cond.instanceMethod ({ cls := "BoostForestsModel", name := "layNode", desc := "(III)V" } : Jvm.MethodName)) ∈ gw_tbl := List.mem_filter.mpr ⟨kt_3 _ (List.mem_of_getElem? (i := 219) rfl), rfl⟩
theorem kw_3_220 : (Jvm.Cond.code ({ cls := "BoostForestsModel", name := "layNode", desc := "(III)V" } : Jvm.MethodName) prog_9_method_18_code (5 : Nat) (Option.none : Option Jvm.ClassFile.FieldType)) ∈ gw_tbl := List.mem_filter.mpr ⟨kt_3 _ (List.mem_of_getElem? (i := 220) rfl), rfl⟩
theorem kw_3_221 : (Jvm.Cond.methodLink "BoostForestsModel" (163 : Nat) ({ cls := "BoostForestsModel", name := "sumUp", desc := "(IIIIZ)V" } : Jvm.MethodName)) ∈ gw_tbl := List.mem_filter.mpr ⟨kt_3 _ (List.mem_of_getElem? (i := 221) rfl), rfl⟩
theorem kl_3_222 : (Jvm.Cond.privateMethod ({ cls := "BoostForestsModel", name := "sumUp", desc := "(IIIIZ)V" } : Jvm.MethodName)) ∈ lw_tbl := kt_3 _ (List.mem_of_getElem? (i := 222) rfl)
theorem kw_3_223 : (Jvm.Cond.instanceMethod ({ cls := "BoostForestsModel", name := "sumUp", desc := "(IIIIZ)V" } : Jvm.MethodName)) ∈ gw_tbl := List.mem_filter.mpr ⟨kt_3 _ (List.mem_of_getElem? (i := 223) rfl), rfl⟩
theorem kw_3_224 : (Jvm.Cond.code ({ cls := "BoostForestsModel", name := "sumUp", desc := "(IIIIZ)V" } : Jvm.MethodName) prog_9_method_16_code (7 : Nat) (Option.none : Option Jvm.ClassFile.FieldType)) ∈ gw_tbl := List.mem_filter.mpr ⟨kt_3 _ (List.mem_of_getElem? (i := 224) rfl), rfl⟩
theorem kw_3_225 : (Jvm.Cond.methodLink "BoostForestsModel" (147 : Nat) ({ cls := "BoostForestsModel", name := "goesLeft", desc := "(III)Z" } : Jvm.MethodName)) ∈ gw_tbl := List.mem_filter.mpr ⟨kt_3 _ (List.mem_of_getElem? (i := 225) rfl), rfl⟩
theorem kw_3_226 : (Jvm.Cond.static ({ cls := "BoostForestsModel", name := "goesLeft", desc := "(III)Z" } : Jvm.MethodName)) ∈ gw_tbl := List.mem_filter.mpr ⟨kt_3 _ (List.mem_of_getElem? (i := 226) rfl), rfl⟩
theorem kw_3_227 : (Jvm.Cond.code ({ cls := "BoostForestsModel", name := "goesLeft", desc := "(III)Z" } : Jvm.MethodName) prog_9_method_15_code (3 : Nat) (Option.some Jvm.ClassFile.FieldType.boolean)) ∈ gw_tbl := List.mem_filter.mpr ⟨kt_3 _ (List.mem_of_getElem? (i := 227) rfl), rfl⟩
theorem kw_3_228 : (Jvm.Cond.methodLink "BoostForestsModel" (159 : Nat) ({ cls := "BoostForestsModel", name := "split", desc := "(II)V" } : Jvm.MethodName)) ∈ gw_tbl := List.mem_filter.mpr ⟨kt_3 _ (List.mem_of_getElem? (i := 228) rfl), rfl⟩
theorem kl_3_229 : (Jvm.Cond.privateMethod ({ cls := "BoostForestsModel", name := "split", desc := "(II)V" } : Jvm.MethodName)) ∈ lw_tbl := kt_3 _ (List.mem_of_getElem? (i := 229) rfl)
theorem kw_3_230 : (Jvm.Cond.instanceMethod ({ cls := "BoostForestsModel", name := "split", desc := "(II)V" } : Jvm.MethodName)) ∈ gw_tbl := List.mem_filter.mpr ⟨kt_3 _ (List.mem_of_getElem? (i := 230) rfl), rfl⟩
theorem kw_3_231 : (Jvm.Cond.code ({ cls := "BoostForestsModel", name := "split", desc := "(II)V" } : Jvm.MethodName) prog_9_method_20_code (11 : Nat) (Option.none : Option Jvm.ClassFile.FieldType)) ∈ gw_tbl := List.mem_filter.mpr ⟨kt_3 _ (List.mem_of_getElem? (i := 231) rfl), rfl⟩
theorem kw_3_232 : (Jvm.Cond.constant "BoostForestsModel" (167 : Nat) (100000 : Int32)) ∈ gw_tbl := List.mem_filter.mpr ⟨kt_3 _ (List.mem_of_getElem? (i := 232) rfl), rfl⟩
theorem kw_3_233 : (Jvm.Cond.methodLink "BoostForestsModel" (168 : Nat) ({ cls := "BoostForestsModel", name := "isCut", desc := "(III)Z" } : Jvm.MethodName)) ∈ gw_tbl := List.mem_filter.mpr ⟨kt_3 _ (List.mem_of_getElem? (i := 233) rfl), rfl⟩
theorem kl_3_234 : (Jvm.Cond.privateMethod ({ cls := "BoostForestsModel", name := "isCut", desc := "(III)Z" } : Jvm.MethodName)) ∈ lw_tbl := kt_3 _ (List.mem_of_getElem? (i := 234) rfl)
theorem kw_3_235 : (Jvm.Cond.instanceMethod ({ cls := "BoostForestsModel", name := "isCut", desc := "(III)Z" } : Jvm.MethodName)) ∈ gw_tbl := List.mem_filter.mpr ⟨kt_3 _ (List.mem_of_getElem? (i := 235) rfl), rfl⟩
theorem kw_3_236 : (Jvm.Cond.code ({ cls := "BoostForestsModel", name := "isCut", desc := "(III)Z" } : Jvm.MethodName) prog_9_method_19_code (8 : Nat) (Option.some Jvm.ClassFile.FieldType.boolean)) ∈ gw_tbl := List.mem_filter.mpr ⟨kt_3 _ (List.mem_of_getElem? (i := 236) rfl), rfl⟩
theorem kw_3_237 : (Jvm.Cond.methodLink "BoostForestsModel" (171 : Nat) ({ cls := "BoostForestsModel", name := "difference", desc := "(IIIII)J" } : Jvm.MethodName)) ∈ gw_tbl := List.mem_filter.mpr ⟨kt_3 _ (List.mem_of_getElem? (i := 237) rfl), rfl⟩
theorem kl_3_238 : (Jvm.Cond.privateMethod ({ cls := "BoostForestsModel", name := "difference", desc := "(IIIII)J" } : Jvm.MethodName)) ∈ lw_tbl := kt_3 _ (List.mem_of_getElem? (i := 238) rfl)
theorem kw_3_239 : (Jvm.Cond.instanceMethod ({ cls := "BoostForestsModel", name := "difference", desc := "(IIIII)J" } : Jvm.MethodName)) ∈ gw_tbl := List.mem_filter.mpr ⟨kt_3 _ (List.mem_of_getElem? (i := 239) rfl), rfl⟩
theorem kw_4_0 : (Jvm.Cond.code ({ cls := "BoostForestsModel", name := "difference", desc := "(IIIII)J" } : Jvm.MethodName) prog_9_method_21_code (15 : Nat) (Option.some Jvm.ClassFile.FieldType.long)) ∈ gw_tbl := List.mem_filter.mpr ⟨kt_4 _ (List.mem_of_getElem? (i := 0) rfl), rfl⟩
theorem kw_4_1 : (Jvm.Cond.constantLong "BoostForestsModel" (175 : Nat) (-1 : Int64)) ∈ gw_tbl := List.mem_filter.mpr ⟨kt_4 _ (List.mem_of_getElem? (i := 1) rfl), rfl⟩
theorem kw_4_2 : (Jvm.Cond.methodLink "BoostForestsModel" (177 : Nat) ({ cls := "BoostForestsModel", name := "valueOf", desc := "(JI)J" } : Jvm.MethodName)) ∈ gw_tbl := List.mem_filter.mpr ⟨kt_4 _ (List.mem_of_getElem? (i := 2) rfl), rfl⟩
theorem kl_4_3 : (Jvm.Cond.privateMethod ({ cls := "BoostForestsModel", name := "valueOf", desc := "(JI)J" } : Jvm.MethodName)) ∈ lw_tbl := kt_4 _ (List.mem_of_getElem? (i := 3) rfl)
theorem kw_4_4 : (Jvm.Cond.instanceMethod ({ cls := "BoostForestsModel", name := "valueOf", desc := "(JI)J" } : Jvm.MethodName)) ∈ gw_tbl := List.mem_filter.mpr ⟨kt_4 _ (List.mem_of_getElem? (i := 4) rfl), rfl⟩
theorem kw_4_5 : (Jvm.Cond.code ({ cls := "BoostForestsModel", name := "valueOf", desc := "(JI)J" } : Jvm.MethodName) prog_9_method_13_code (4 : Nat) (Option.some Jvm.ClassFile.FieldType.long)) ∈ gw_tbl := List.mem_filter.mpr ⟨kt_4 _ (List.mem_of_getElem? (i := 5) rfl), rfl⟩
theorem kw_4_6 : (Jvm.Cond.methodLink "BoostForestsModel" (181 : Nat) ({ cls := "BoostForestsModel", name := "worthOf", desc := "(JI)J" } : Jvm.MethodName)) ∈ gw_tbl := List.mem_filter.mpr ⟨kt_4 _ (List.mem_of_getElem? (i := 6) rfl), rfl⟩
theorem kl_4_7 : (Jvm.Cond.privateMethod ({ cls := "BoostForestsModel", name := "worthOf", desc := "(JI)J" } : Jvm.MethodName)) ∈ lw_tbl := kt_4 _ (List.mem_of_getElem? (i := 7) rfl)
theorem kw_4_8 : (Jvm.Cond.instanceMethod ({ cls := "BoostForestsModel", name := "worthOf", desc := "(JI)J" } : Jvm.MethodName)) ∈ gw_tbl := List.mem_filter.mpr ⟨kt_4 _ (List.mem_of_getElem? (i := 8) rfl), rfl⟩
theorem kw_4_9 : (Jvm.Cond.code ({ cls := "BoostForestsModel", name := "worthOf", desc := "(JI)J" } : Jvm.MethodName) prog_9_method_14_code (4 : Nat) (Option.some Jvm.ClassFile.FieldType.long)) ∈ gw_tbl := List.mem_filter.mpr ⟨kt_4 _ (List.mem_of_getElem? (i := 9) rfl), rfl⟩
theorem kw_4_10 : (Jvm.Cond.methodLink "BoostForestsModel" (130 : Nat) ({ cls := "BoostForestsModel", name := "leafOf", desc := "(IIIII)I" } : Jvm.MethodName)) ∈ gw_tbl := List.mem_filter.mpr ⟨kt_4 _ (List.mem_of_getElem? (i := 10) rfl), rfl⟩
theorem kl_4_11 : (Jvm.Cond.privateMethod ({ cls := "BoostForestsModel", name := "leafOf", desc := "(IIIII)I" } : Jvm.MethodName)) ∈ lw_tbl := kt_4 _ (List.mem_of_getElem? (i := 11) rfl)
theorem kw_4_12 : (Jvm.Cond.instanceMethod ({ cls := "BoostForestsModel", name := "leafOf", desc := "(IIIII)I" } : Jvm.MethodName)) ∈ gw_tbl := List.mem_filter.mpr ⟨kt_4 _ (List.mem_of_getElem? (i := 12) rfl), rfl⟩
theorem kw_4_13 : (Jvm.Cond.code ({ cls := "BoostForestsModel", name := "leafOf", desc := "(IIIII)I" } : Jvm.MethodName) prog_9_method_22_code (8 : Nat) (Option.some Jvm.ClassFile.FieldType.int)) ∈ gw_tbl := List.mem_filter.mpr ⟨kt_4 _ (List.mem_of_getElem? (i := 13) rfl), rfl⟩
theorem kw_4_14 : (Jvm.Cond.methodLink "BoostForestsModel" (133 : Nat) ({ cls := "BoostForestsModel", name := "addOf", desc := "(II)J" } : Jvm.MethodName)) ∈ gw_tbl := List.mem_filter.mpr ⟨kt_4 _ (List.mem_of_getElem? (i := 14) rfl), rfl⟩
theorem kl_4_15 : (Jvm.Cond.privateMethod ({ cls := "BoostForestsModel", name := "addOf", desc := "(II)J" } : Jvm.MethodName)) ∈ lw_tbl := kt_4 _ (List.mem_of_getElem? (i := 15) rfl)
theorem kw_4_16 : (Jvm.Cond.instanceMethod ({ cls := "BoostForestsModel", name := "addOf", desc := "(II)J" } : Jvm.MethodName)) ∈ gw_tbl := List.mem_filter.mpr ⟨kt_4 _ (List.mem_of_getElem? (i := 16) rfl), rfl⟩
theorem kw_4_17 : (Jvm.Cond.code ({ cls := "BoostForestsModel", name := "addOf", desc := "(II)J" } : Jvm.MethodName) prog_9_method_23_code (4 : Nat) (Option.some Jvm.ClassFile.FieldType.long)) ∈ gw_tbl := List.mem_filter.mpr ⟨kt_4 _ (List.mem_of_getElem? (i := 17) rfl), rfl⟩
theorem kw_4_18 : (Jvm.Cond.methodLink "BoostForestsLaw" (40 : Nat) ({ cls := "BoostForestsModel", name := "node", desc := "(III)I" } : Jvm.MethodName)) ∈ gw_tbl := List.mem_filter.mpr ⟨kt_4 _ (List.mem_of_getElem? (i := 18) rfl), rfl⟩
theorem kw_4_19 : (Jvm.Cond.instanceMethod ({ cls := "BoostForestsModel", name := "node", desc := "(III)I" } : Jvm.MethodName)) ∈ gw_tbl := List.mem_filter.mpr ⟨kt_4 _ (List.mem_of_getElem? (i := 19) rfl), rfl⟩
theorem kw_4_20 : (Jvm.Cond.selects "BoostForestsModel" ({ cls := "BoostForestsModel", name := "node", desc := "(III)I" } : Jvm.MethodName) ({ cls := "BoostForestsModel", name := "node", desc := "(III)I" } : Jvm.MethodName)) ∈ gw_tbl := List.mem_filter.mpr ⟨kt_4 _ (List.mem_of_getElem? (i := 20) rfl), rfl⟩
theorem kw_4_21 : (Jvm.Cond.code ({ cls := "BoostForestsModel", name := "node", desc := "(III)I" } : Jvm.MethodName) prog_9_method_26_code (5 : Nat) (Option.some Jvm.ClassFile.FieldType.int)) ∈ gw_tbl := List.mem_filter.mpr ⟨kt_4 _ (List.mem_of_getElem? (i := 21) rfl), rfl⟩
theorem kw_4_22 : (Jvm.Cond.methodLink "BoostForestsModel" (187 : Nat) ({ cls := "BoostForestsModel", name := "isNode", desc := "(II)Z" } : Jvm.MethodName)) ∈ gw_tbl := List.mem_filter.mpr ⟨kt_4 _ (List.mem_of_getElem? (i := 22) rfl), rfl⟩
theorem kl_4_23 : (Jvm.Cond.privateMethod ({ cls := "BoostForestsModel", name := "isNode", desc := "(II)Z" } : Jvm.MethodName)) ∈ lw_tbl := kt_4 _ (List.mem_of_getElem? (i := 23) rfl)
theorem kw_4_24 : (Jvm.Cond.instanceMethod ({ cls := "BoostForestsModel", name := "isNode", desc := "(II)Z" } : Jvm.MethodName)) ∈ gw_tbl := List.mem_filter.mpr ⟨kt_4 _ (List.mem_of_getElem? (i := 24) rfl), rfl⟩
theorem kw_4_25 : (Jvm.Cond.code ({ cls := "BoostForestsModel", name := "isNode", desc := "(II)Z" } : Jvm.MethodName) prog_9_method_25_code (3 : Nat) (Option.some Jvm.ClassFile.FieldType.boolean)) ∈ gw_tbl := List.mem_filter.mpr ⟨kt_4 _ (List.mem_of_getElem? (i := 25) rfl), rfl⟩
theorem kw_4_26 : (Jvm.Cond.methodLink "BoostForestsModel" (184 : Nat) ({ cls := "BoostForestsModel", name := "isTree", desc := "(I)Z" } : Jvm.MethodName)) ∈ gw_tbl := List.mem_filter.mpr ⟨kt_4 _ (List.mem_of_getElem? (i := 26) rfl), rfl⟩
theorem kl_4_27 : (Jvm.Cond.privateMethod ({ cls := "BoostForestsModel", name := "isTree", desc := "(I)Z" } : Jvm.MethodName)) ∈ lw_tbl := kt_4 _ (List.mem_of_getElem? (i := 27) rfl)
theorem kw_4_28 : (Jvm.Cond.instanceMethod ({ cls := "BoostForestsModel", name := "isTree", desc := "(I)Z" } : Jvm.MethodName)) ∈ gw_tbl := List.mem_filter.mpr ⟨kt_4 _ (List.mem_of_getElem? (i := 28) rfl), rfl⟩
theorem kw_4_29 : (Jvm.Cond.code ({ cls := "BoostForestsModel", name := "isTree", desc := "(I)Z" } : Jvm.MethodName) prog_9_method_24_code (2 : Nat) (Option.some Jvm.ClassFile.FieldType.boolean)) ∈ gw_tbl := List.mem_filter.mpr ⟨kt_4 _ (List.mem_of_getElem? (i := 29) rfl), rfl⟩
theorem kw_4_30 : (Jvm.Cond.methodLink "BoostForestsLaw" (45 : Nat) ({ cls := "BoostForestsModel", name := "sum", desc := "(III)J" } : Jvm.MethodName)) ∈ gw_tbl := List.mem_filter.mpr ⟨kt_4 _ (List.mem_of_getElem? (i := 30) rfl), rfl⟩
theorem kw_4_31 : (Jvm.Cond.instanceMethod ({ cls := "BoostForestsModel", name := "sum", desc := "(III)J" } : Jvm.MethodName)) ∈ gw_tbl := List.mem_filter.mpr ⟨kt_4 _ (List.mem_of_getElem? (i := 31) rfl), rfl⟩
theorem kw_4_32 : (Jvm.Cond.selects "BoostForestsModel" ({ cls := "BoostForestsModel", name := "sum", desc := "(III)J" } : Jvm.MethodName) ({ cls := "BoostForestsModel", name := "sum", desc := "(III)J" } : Jvm.MethodName)) ∈ gw_tbl := List.mem_filter.mpr ⟨kt_4 _ (List.mem_of_getElem? (i := 32) rfl), rfl⟩
theorem kw_4_33 : (Jvm.Cond.code ({ cls := "BoostForestsModel", name := "sum", desc := "(III)J" } : Jvm.MethodName) prog_9_method_27_code (5 : Nat) (Option.some Jvm.ClassFile.FieldType.long)) ∈ gw_tbl := List.mem_filter.mpr ⟨kt_4 _ (List.mem_of_getElem? (i := 33) rfl), rfl⟩
theorem kw_4_34 : (Jvm.Cond.methodLink "BoostForestsLaw" (50 : Nat) ({ cls := "BoostForestsModel", name := "size", desc := "(I)I" } : Jvm.MethodName)) ∈ gw_tbl := List.mem_filter.mpr ⟨kt_4 _ (List.mem_of_getElem? (i := 34) rfl), rfl⟩
theorem kw_4_35 : (Jvm.Cond.instanceMethod ({ cls := "BoostForestsModel", name := "size", desc := "(I)I" } : Jvm.MethodName)) ∈ gw_tbl := List.mem_filter.mpr ⟨kt_4 _ (List.mem_of_getElem? (i := 35) rfl), rfl⟩
theorem kw_4_36 : (Jvm.Cond.selects "BoostForestsModel" ({ cls := "BoostForestsModel", name := "size", desc := "(I)I" } : Jvm.MethodName) ({ cls := "BoostForestsModel", name := "size", desc := "(I)I" } : Jvm.MethodName)) ∈ gw_tbl := List.mem_filter.mpr ⟨kt_4 _ (List.mem_of_getElem? (i := 36) rfl), rfl⟩
theorem kw_4_37 : (Jvm.Cond.code ({ cls := "BoostForestsModel", name := "size", desc := "(I)I" } : Jvm.MethodName) prog_9_method_28_code (2 : Nat) (Option.some Jvm.ClassFile.FieldType.int)) ∈ gw_tbl := List.mem_filter.mpr ⟨kt_4 _ (List.mem_of_getElem? (i := 37) rfl), rfl⟩
theorem kw_4_38 : (Jvm.Cond.methodLink "BoostForestsLaw" (55 : Nat) ({ cls := "BoostForestsModel", name := "leaf", desc := "(IIIII)I" } : Jvm.MethodName)) ∈ gw_tbl := List.mem_filter.mpr ⟨kt_4 _ (List.mem_of_getElem? (i := 38) rfl), rfl⟩
theorem kw_4_39 : (Jvm.Cond.instanceMethod ({ cls := "BoostForestsModel", name := "leaf", desc := "(IIIII)I" } : Jvm.MethodName)) ∈ gw_tbl := List.mem_filter.mpr ⟨kt_4 _ (List.mem_of_getElem? (i := 39) rfl), rfl⟩
theorem kw_4_40 : (Jvm.Cond.selects "BoostForestsModel" ({ cls := "BoostForestsModel", name := "leaf", desc := "(IIIII)I" } : Jvm.MethodName) ({ cls := "BoostForestsModel", name := "leaf", desc := "(IIIII)I" } : Jvm.MethodName)) ∈ gw_tbl := List.mem_filter.mpr ⟨kt_4 _ (List.mem_of_getElem? (i := 40) rfl), rfl⟩
theorem kw_4_41 : (Jvm.Cond.code ({ cls := "BoostForestsModel", name := "leaf", desc := "(IIIII)I" } : Jvm.MethodName) prog_9_method_29_code (6 : Nat) (Option.some Jvm.ClassFile.FieldType.int)) ∈ gw_tbl := List.mem_filter.mpr ⟨kt_4 _ (List.mem_of_getElem? (i := 41) rfl), rfl⟩
theorem kw_4_42 : (Jvm.Cond.methodLink "BoostForestsLaw" (60 : Nat) ({ cls := "BoostForestsModel", name := "answer", desc := "(IIIII)J" } : Jvm.MethodName)) ∈ gw_tbl := List.mem_filter.mpr ⟨kt_4 _ (List.mem_of_getElem? (i := 42) rfl), rfl⟩
theorem kw_4_43 : (Jvm.Cond.instanceMethod ({ cls := "BoostForestsModel", name := "answer", desc := "(IIIII)J" } : Jvm.MethodName)) ∈ gw_tbl := List.mem_filter.mpr ⟨kt_4 _ (List.mem_of_getElem? (i := 43) rfl), rfl⟩
theorem kw_4_44 : (Jvm.Cond.selects "BoostForestsModel" ({ cls := "BoostForestsModel", name := "answer", desc := "(IIIII)J" } : Jvm.MethodName) ({ cls := "BoostForestsModel", name := "answer", desc := "(IIIII)J" } : Jvm.MethodName)) ∈ gw_tbl := List.mem_filter.mpr ⟨kt_4 _ (List.mem_of_getElem? (i := 44) rfl), rfl⟩
theorem kw_4_45 : (Jvm.Cond.code ({ cls := "BoostForestsModel", name := "answer", desc := "(IIIII)J" } : Jvm.MethodName) prog_9_method_30_code (9 : Nat) (Option.some Jvm.ClassFile.FieldType.long)) ∈ gw_tbl := List.mem_filter.mpr ⟨kt_4 _ (List.mem_of_getElem? (i := 45) rfl), rfl⟩
theorem kw_4_46 : (Jvm.Cond.methodLink "BoostForestsLaw" (65 : Nat) ({ cls := "BoostForestsModel", name := "loss", desc := "(II)J" } : Jvm.MethodName)) ∈ gw_tbl := List.mem_filter.mpr ⟨kt_4 _ (List.mem_of_getElem? (i := 46) rfl), rfl⟩
theorem kw_4_47 : (Jvm.Cond.instanceMethod ({ cls := "BoostForestsModel", name := "loss", desc := "(II)J" } : Jvm.MethodName)) ∈ gw_tbl := List.mem_filter.mpr ⟨kt_4 _ (List.mem_of_getElem? (i := 47) rfl), rfl⟩
theorem kw_4_48 : (Jvm.Cond.selects "BoostForestsModel" ({ cls := "BoostForestsModel", name := "loss", desc := "(II)J" } : Jvm.MethodName) ({ cls := "BoostForestsModel", name := "loss", desc := "(II)J" } : Jvm.MethodName)) ∈ gw_tbl := List.mem_filter.mpr ⟨kt_4 _ (List.mem_of_getElem? (i := 48) rfl), rfl⟩
theorem kw_4_49 : (Jvm.Cond.code ({ cls := "BoostForestsModel", name := "loss", desc := "(II)J" } : Jvm.MethodName) prog_9_method_31_code (3 : Nat) (Option.some Jvm.ClassFile.FieldType.long)) ∈ gw_tbl := List.mem_filter.mpr ⟨kt_4 _ (List.mem_of_getElem? (i := 49) rfl), rfl⟩
theorem kw_4_50 : (Jvm.Cond.constantLong "BoostForestsModel" (190 : Nat) (-2 : Int64)) ∈ gw_tbl := List.mem_filter.mpr ⟨kt_4 _ (List.mem_of_getElem? (i := 50) rfl), rfl⟩
theorem kw_4_51 : (Jvm.Cond.methodLink "BoostForestsLaw" (69 : Nat) ({ cls := "BoostForestsModel", name := "best", desc := "()I" } : Jvm.MethodName)) ∈ gw_tbl := List.mem_filter.mpr ⟨kt_4 _ (List.mem_of_getElem? (i := 51) rfl), rfl⟩
theorem kw_4_52 : (Jvm.Cond.instanceMethod ({ cls := "BoostForestsModel", name := "best", desc := "()I" } : Jvm.MethodName)) ∈ gw_tbl := List.mem_filter.mpr ⟨kt_4 _ (List.mem_of_getElem? (i := 52) rfl), rfl⟩
theorem kw_4_53 : (Jvm.Cond.selects "BoostForestsModel" ({ cls := "BoostForestsModel", name := "best", desc := "()I" } : Jvm.MethodName) ({ cls := "BoostForestsModel", name := "best", desc := "()I" } : Jvm.MethodName)) ∈ gw_tbl := List.mem_filter.mpr ⟨kt_4 _ (List.mem_of_getElem? (i := 53) rfl), rfl⟩
theorem kw_4_54 : (Jvm.Cond.code ({ cls := "BoostForestsModel", name := "best", desc := "()I" } : Jvm.MethodName) prog_9_method_32_code (4 : Nat) (Option.some Jvm.ClassFile.FieldType.int)) ∈ gw_tbl := List.mem_filter.mpr ⟨kt_4 _ (List.mem_of_getElem? (i := 54) rfl), rfl⟩
theorem kw_4_55 : (Jvm.Cond.methodLink "BoostForestsLaw" (74 : Nat) ({ cls := "BoostForestsModel", name := "without", desc := "(I)J" } : Jvm.MethodName)) ∈ gw_tbl := List.mem_filter.mpr ⟨kt_4 _ (List.mem_of_getElem? (i := 55) rfl), rfl⟩
theorem kw_4_56 : (Jvm.Cond.instanceMethod ({ cls := "BoostForestsModel", name := "without", desc := "(I)J" } : Jvm.MethodName)) ∈ gw_tbl := List.mem_filter.mpr ⟨kt_4 _ (List.mem_of_getElem? (i := 56) rfl), rfl⟩
theorem kw_4_57 : (Jvm.Cond.selects "BoostForestsModel" ({ cls := "BoostForestsModel", name := "without", desc := "(I)J" } : Jvm.MethodName) ({ cls := "BoostForestsModel", name := "without", desc := "(I)J" } : Jvm.MethodName)) ∈ gw_tbl := List.mem_filter.mpr ⟨kt_4 _ (List.mem_of_getElem? (i := 57) rfl), rfl⟩
theorem kw_4_58 : (Jvm.Cond.code ({ cls := "BoostForestsModel", name := "without", desc := "(I)J" } : Jvm.MethodName) prog_9_method_33_code (5 : Nat) (Option.some Jvm.ClassFile.FieldType.long)) ∈ gw_tbl := List.mem_filter.mpr ⟨kt_4 _ (List.mem_of_getElem? (i := 58) rfl), rfl⟩
theorem kw_4_59 : (Jvm.Cond.methodLink "BoostForestsLaw" (78 : Nat) ({ cls := "BoostForestsModel", name := "took", desc := "(I)I" } : Jvm.MethodName)) ∈ gw_tbl := List.mem_filter.mpr ⟨kt_4 _ (List.mem_of_getElem? (i := 59) rfl), rfl⟩
theorem kw_4_60 : (Jvm.Cond.instanceMethod ({ cls := "BoostForestsModel", name := "took", desc := "(I)I" } : Jvm.MethodName)) ∈ gw_tbl := List.mem_filter.mpr ⟨kt_4 _ (List.mem_of_getElem? (i := 60) rfl), rfl⟩
theorem kw_4_61 : (Jvm.Cond.selects "BoostForestsModel" ({ cls := "BoostForestsModel", name := "took", desc := "(I)I" } : Jvm.MethodName) ({ cls := "BoostForestsModel", name := "took", desc := "(I)I" } : Jvm.MethodName)) ∈ gw_tbl := List.mem_filter.mpr ⟨kt_4 _ (List.mem_of_getElem? (i := 61) rfl), rfl⟩
theorem kw_4_62 : (Jvm.Cond.code ({ cls := "BoostForestsModel", name := "took", desc := "(I)I" } : Jvm.MethodName) prog_9_method_34_code (4 : Nat) (Option.some Jvm.ClassFile.FieldType.int)) ∈ gw_tbl := List.mem_filter.mpr ⟨kt_4 _ (List.mem_of_getElem? (i := 62) rfl), rfl⟩
theorem kw_4_63 : (Jvm.Cond.methodLink "BoostForestsLaw" (82 : Nat) ({ cls := "BoostForestsModel", name := "gain", desc := "(I)J" } : Jvm.MethodName)) ∈ gw_tbl := List.mem_filter.mpr ⟨kt_4 _ (List.mem_of_getElem? (i := 63) rfl), rfl⟩
theorem kw_4_64 : (Jvm.Cond.instanceMethod ({ cls := "BoostForestsModel", name := "gain", desc := "(I)J" } : Jvm.MethodName)) ∈ gw_tbl := List.mem_filter.mpr ⟨kt_4 _ (List.mem_of_getElem? (i := 64) rfl), rfl⟩
theorem kw_4_65 : (Jvm.Cond.selects "BoostForestsModel" ({ cls := "BoostForestsModel", name := "gain", desc := "(I)J" } : Jvm.MethodName) ({ cls := "BoostForestsModel", name := "gain", desc := "(I)J" } : Jvm.MethodName)) ∈ gw_tbl := List.mem_filter.mpr ⟨kt_4 _ (List.mem_of_getElem? (i := 65) rfl), rfl⟩
theorem kw_4_66 : (Jvm.Cond.code ({ cls := "BoostForestsModel", name := "gain", desc := "(I)J" } : Jvm.MethodName) prog_9_method_35_code (7 : Nat) (Option.some Jvm.ClassFile.FieldType.long)) ∈ gw_tbl := List.mem_filter.mpr ⟨kt_4 _ (List.mem_of_getElem? (i := 66) rfl), rfl⟩
theorem kw_4_67 : (Jvm.Cond.methodLink "BoostForestsLaw" (86 : Nat) ({ cls := "BoostForestsModel", name := "told", desc := "(IIIII)J" } : Jvm.MethodName)) ∈ gw_tbl := List.mem_filter.mpr ⟨kt_4 _ (List.mem_of_getElem? (i := 67) rfl), rfl⟩
theorem kw_4_68 : (Jvm.Cond.instanceMethod ({ cls := "BoostForestsModel", name := "told", desc := "(IIIII)J" } : Jvm.MethodName)) ∈ gw_tbl := List.mem_filter.mpr ⟨kt_4 _ (List.mem_of_getElem? (i := 68) rfl), rfl⟩
theorem kw_4_69 : (Jvm.Cond.selects "BoostForestsModel" ({ cls := "BoostForestsModel", name := "told", desc := "(IIIII)J" } : Jvm.MethodName) ({ cls := "BoostForestsModel", name := "told", desc := "(IIIII)J" } : Jvm.MethodName)) ∈ gw_tbl := List.mem_filter.mpr ⟨kt_4 _ (List.mem_of_getElem? (i := 69) rfl), rfl⟩
theorem kw_4_70 : (Jvm.Cond.code ({ cls := "BoostForestsModel", name := "told", desc := "(IIIII)J" } : Jvm.MethodName) prog_9_method_39_code (6 : Nat) (Option.some Jvm.ClassFile.FieldType.long)) ∈ gw_tbl := List.mem_filter.mpr ⟨kt_4 _ (List.mem_of_getElem? (i := 70) rfl), rfl⟩
theorem kw_4_71 : (Jvm.Cond.methodLink "BoostForestsModel" (200 : Nat) ({ cls := "BoostForestsModel", name := "allTell", desc := "(IIIII)J" } : Jvm.MethodName)) ∈ gw_tbl := List.mem_filter.mpr ⟨kt_4 _ (List.mem_of_getElem? (i := 71) rfl), rfl⟩
theorem kl_4_72 : (Jvm.Cond.privateMethod ({ cls := "BoostForestsModel", name := "allTell", desc := "(IIIII)J" } : Jvm.MethodName)) ∈ lw_tbl := kt_4 _ (List.mem_of_getElem? (i := 72) rfl)
theorem kw_4_73 : (Jvm.Cond.instanceMethod ({ cls := "BoostForestsModel", name := "allTell", desc := "(IIIII)J" } : Jvm.MethodName)) ∈ gw_tbl := List.mem_filter.mpr ⟨kt_4 _ (List.mem_of_getElem? (i := 73) rfl), rfl⟩
theorem kw_4_74 : (Jvm.Cond.code ({ cls := "BoostForestsModel", name := "allTell", desc := "(IIIII)J" } : Jvm.MethodName) prog_9_method_38_code (9 : Nat) (Option.some Jvm.ClassFile.FieldType.long)) ∈ gw_tbl := List.mem_filter.mpr ⟨kt_4 _ (List.mem_of_getElem? (i := 74) rfl), rfl⟩
theorem kw_4_75 : (Jvm.Cond.methodLink "BoostForestsModel" (196 : Nat) ({ cls := "BoostForestsModel", name := "tellOf", desc := "(IIIIII)J" } : Jvm.MethodName)) ∈ gw_tbl := List.mem_filter.mpr ⟨kt_4 _ (List.mem_of_getElem? (i := 75) rfl), rfl⟩
theorem kl_4_76 : (Jvm.Cond.privateMethod ({ cls := "BoostForestsModel", name := "tellOf", desc := "(IIIIII)J" } : Jvm.MethodName)) ∈ lw_tbl := kt_4 _ (List.mem_of_getElem? (i := 76) rfl)
theorem kw_4_77 : (Jvm.Cond.instanceMethod ({ cls := "BoostForestsModel", name := "tellOf", desc := "(IIIIII)J" } : Jvm.MethodName)) ∈ gw_tbl := List.mem_filter.mpr ⟨kt_4 _ (List.mem_of_getElem? (i := 77) rfl), rfl⟩
theorem kw_4_78 : (Jvm.Cond.code ({ cls := "BoostForestsModel", name := "tellOf", desc := "(IIIIII)J" } : Jvm.MethodName) prog_9_method_37_code (12 : Nat) (Option.some Jvm.ClassFile.FieldType.long)) ∈ gw_tbl := List.mem_filter.mpr ⟨kt_4 _ (List.mem_of_getElem? (i := 78) rfl), rfl⟩
theorem kw_4_79 : (Jvm.Cond.methodLink "BoostForestsModel" (192 : Nat) ({ cls := "BoostForestsModel", name := "downward", desc := "(JJ)J" } : Jvm.MethodName)) ∈ gw_tbl := List.mem_filter.mpr ⟨kt_4 _ (List.mem_of_getElem? (i := 79) rfl), rfl⟩
theorem kw_4_80 : (Jvm.Cond.static ({ cls := "BoostForestsModel", name := "downward", desc := "(JJ)J" } : Jvm.MethodName)) ∈ gw_tbl := List.mem_filter.mpr ⟨kt_4 _ (List.mem_of_getElem? (i := 80) rfl), rfl⟩
theorem kw_4_81 : (Jvm.Cond.code ({ cls := "BoostForestsModel", name := "downward", desc := "(JJ)J" } : Jvm.MethodName) prog_9_method_36_code (6 : Nat) (Option.some Jvm.ClassFile.FieldType.long)) ∈ gw_tbl := List.mem_filter.mpr ⟨kt_4 _ (List.mem_of_getElem? (i := 81) rfl), rfl⟩
theorem kw_4_82 : (Jvm.Cond.methodLink "BoostForestsLaw" (90 : Nat) ({ cls := "BoostForestsModel", name := "share", desc := "(IIIII)J" } : Jvm.MethodName)) ∈ gw_tbl := List.mem_filter.mpr ⟨kt_4 _ (List.mem_of_getElem? (i := 82) rfl), rfl⟩
theorem kw_4_83 : (Jvm.Cond.instanceMethod ({ cls := "BoostForestsModel", name := "share", desc := "(IIIII)J" } : Jvm.MethodName)) ∈ gw_tbl := List.mem_filter.mpr ⟨kt_4 _ (List.mem_of_getElem? (i := 83) rfl), rfl⟩
theorem kw_4_84 : (Jvm.Cond.selects "BoostForestsModel" ({ cls := "BoostForestsModel", name := "share", desc := "(IIIII)J" } : Jvm.MethodName) ({ cls := "BoostForestsModel", name := "share", desc := "(IIIII)J" } : Jvm.MethodName)) ∈ gw_tbl := List.mem_filter.mpr ⟨kt_4 _ (List.mem_of_getElem? (i := 84) rfl), rfl⟩
theorem kw_4_85 : (Jvm.Cond.code ({ cls := "BoostForestsModel", name := "share", desc := "(IIIII)J" } : Jvm.MethodName) prog_9_method_40_code (12 : Nat) (Option.some Jvm.ClassFile.FieldType.long)) ∈ gw_tbl := List.mem_filter.mpr ⟨kt_4 _ (List.mem_of_getElem? (i := 85) rfl), rfl⟩
theorem kw_4_86 : (Jvm.Cond.constantLong "BoostForestsModel" (203 : Nat) (6 : Int64)) ∈ gw_tbl := List.mem_filter.mpr ⟨kt_4 _ (List.mem_of_getElem? (i := 86) rfl), rfl⟩
theorem kw_4_87 : (Jvm.Cond.constantLong "BoostForestsModel" (205 : Nat) (2 : Int64)) ∈ gw_tbl := List.mem_filter.mpr ⟨kt_4 _ (List.mem_of_getElem? (i := 87) rfl), rfl⟩
theorem kw_4_88 : (Jvm.Cond.methodLink "BoostForestsLaw" (94 : Nat) ({ cls := "BoostForestsModel", name := "count", desc := "(I)I" } : Jvm.MethodName)) ∈ gw_tbl := List.mem_filter.mpr ⟨kt_4 _ (List.mem_of_getElem? (i := 88) rfl), rfl⟩
theorem kw_4_89 : (Jvm.Cond.instanceMethod ({ cls := "BoostForestsModel", name := "count", desc := "(I)I" } : Jvm.MethodName)) ∈ gw_tbl := List.mem_filter.mpr ⟨kt_4 _ (List.mem_of_getElem? (i := 89) rfl), rfl⟩
theorem kw_4_90 : (Jvm.Cond.selects "BoostForestsModel" ({ cls := "BoostForestsModel", name := "count", desc := "(I)I" } : Jvm.MethodName) ({ cls := "BoostForestsModel", name := "count", desc := "(I)I" } : Jvm.MethodName)) ∈ gw_tbl := List.mem_filter.mpr ⟨kt_4 _ (List.mem_of_getElem? (i := 90) rfl), rfl⟩
theorem kw_4_91 : (Jvm.Cond.code ({ cls := "BoostForestsModel", name := "count", desc := "(I)I" } : Jvm.MethodName) prog_9_method_41_code (4 : Nat) (Option.some Jvm.ClassFile.FieldType.int)) ∈ gw_tbl := List.mem_filter.mpr ⟨kt_4 _ (List.mem_of_getElem? (i := 91) rfl), rfl⟩
theorem ks_BF_keepAsked : Cond.selects "BoostForests" ⟨"BoostForests", "keepAsked", "(IIII)V"⟩ ⟨"BoostForests", "keepAsked", "(IIII)V"⟩ ∈ gw_tbl := List.mem_filter.mpr ⟨List.mem_append_left _ (List.mem_of_getElem? (i := 0) rfl), rfl⟩
theorem ks_TG_begin : Cond.selects "BoostForests$Training" ⟨"BoostForests$Training", "begin", "()V"⟩ ⟨"BoostForests$Training", "begin", "()V"⟩ ∈ gw_tbl := List.mem_filter.mpr ⟨List.mem_append_left _ (List.mem_of_getElem? (i := 1) rfl), rfl⟩
theorem ks_TG_baseUnits : Cond.selects "BoostForests$Training" ⟨"BoostForests$Training", "baseUnits", "()J"⟩ ⟨"BoostForests$Training", "baseUnits", "()J"⟩ ∈ gw_tbl := List.mem_filter.mpr ⟨List.mem_append_left _ (List.mem_of_getElem? (i := 2) rfl), rfl⟩
theorem ks_TG_keepLosses : Cond.selects "BoostForests$Training" ⟨"BoostForests$Training", "keepLosses", "()V"⟩ ⟨"BoostForests$Training", "keepLosses", "()V"⟩ ∈ gw_tbl := List.mem_filter.mpr ⟨List.mem_append_left _ (List.mem_of_getElem? (i := 3) rfl), rfl⟩
theorem ks_GR_drawRows : Cond.selects "BoostForests$Grower" ⟨"BoostForests$Grower", "drawRows", "(I[J)V"⟩ ⟨"BoostForests$Grower", "drawRows", "(I[J)V"⟩ ∈ gw_tbl := List.mem_filter.mpr ⟨List.mem_append_left _ (List.mem_of_getElem? (i := 4) rfl), rfl⟩
theorem ks_GR_drawn : Cond.selects "BoostForests$Grower" ⟨"BoostForests$Grower", "drawn", "(I)I"⟩ ⟨"BoostForests$Grower", "drawn", "(I)I"⟩ ∈ gw_tbl := List.mem_filter.mpr ⟨List.mem_append_left _ (List.mem_of_getElem? (i := 5) rfl), rfl⟩
theorem ks_GR_gatherNode : Cond.selects "BoostForests$Grower" ⟨"BoostForests$Grower", "gatherNode", "(I)V"⟩ ⟨"BoostForests$Grower", "gatherNode", "(I)V"⟩ ∈ gw_tbl := List.mem_filter.mpr ⟨List.mem_append_left _ (List.mem_of_getElem? (i := 6) rfl), rfl⟩
theorem ks_GR_findSplit : Cond.selects "BoostForests$Grower" ⟨"BoostForests$Grower", "findSplit", "(II)V"⟩ ⟨"BoostForests$Grower", "findSplit", "(II)V"⟩ ∈ gw_tbl := List.mem_filter.mpr ⟨List.mem_append_left _ (List.mem_of_getElem? (i := 7) rfl), rfl⟩
theorem ks_GR_tryColumn : Cond.selects "BoostForests$Grower" ⟨"BoostForests$Grower", "tryColumn", "(II)V"⟩ ⟨"BoostForests$Grower", "tryColumn", "(II)V"⟩ ∈ gw_tbl := List.mem_filter.mpr ⟨List.mem_append_left _ (List.mem_of_getElem? (i := 8) rfl), rfl⟩
theorem ks_GR_trySplit : Cond.selects "BoostForests$Grower" ⟨"BoostForests$Grower", "trySplit", "(III)V"⟩ ⟨"BoostForests$Grower", "trySplit", "(III)V"⟩ ∈ gw_tbl := List.mem_filter.mpr ⟨List.mem_append_left _ (List.mem_of_getElem? (i := 9) rfl), rfl⟩
theorem ks_GR_moveRows : Cond.selects "BoostForests$Grower" ⟨"BoostForests$Grower", "moveRows", "(LBoostForests$Tree;I)V"⟩ ⟨"BoostForests$Grower", "moveRows", "(LBoostForests$Tree;I)V"⟩ ∈ gw_tbl := List.mem_filter.mpr ⟨List.mem_append_left _ (List.mem_of_getElem? (i := 10) rfl), rfl⟩
theorem ks_TG_addTree : Cond.selects "BoostForests$Training" ⟨"BoostForests$Training", "addTree", "(I)V"⟩ ⟨"BoostForests$Training", "addTree", "(I)V"⟩ ∈ gw_tbl := List.mem_filter.mpr ⟨List.mem_append_left _ (List.mem_of_getElem? (i := 11) rfl), rfl⟩
theorem ks_TG_addOf : Cond.selects "BoostForests$Training" ⟨"BoostForests$Training", "addOf", "(LBoostForests$Tree;[I)J"⟩ ⟨"BoostForests$Training", "addOf", "(LBoostForests$Tree;[I)J"⟩ ∈ gw_tbl := List.mem_filter.mpr ⟨List.mem_append_left _ (List.mem_of_getElem? (i := 12) rfl), rfl⟩
theorem ks_TG_shrunk : Cond.selects "BoostForests$Training" ⟨"BoostForests$Training", "shrunk", "(J)J"⟩ ⟨"BoostForests$Training", "shrunk", "(J)J"⟩ ∈ gw_tbl := List.mem_filter.mpr ⟨List.mem_append_left _ (List.mem_of_getElem? (i := 13) rfl), rfl⟩
theorem ks_BF_isNode : Cond.selects "BoostForests" ⟨"BoostForests", "isNode", "(II)Z"⟩ ⟨"BoostForests", "isNode", "(II)Z"⟩ ∈ gw_tbl := List.mem_filter.mpr ⟨List.mem_append_left _ (List.mem_of_getElem? (i := 14) rfl), rfl⟩
theorem ks_BF_isTrainedRow : Cond.selects "BoostForests" ⟨"BoostForests", "isTrainedRow", "(I)Z"⟩ ⟨"BoostForests", "isTrainedRow", "(I)Z"⟩ ∈ gw_tbl := List.mem_filter.mpr ⟨List.mem_append_left _ (List.mem_of_getElem? (i := 15) rfl), rfl⟩
theorem ks_TG_tellTree : Cond.selects "BoostForests$Training" ⟨"BoostForests$Training", "tellTree", "(LBoostForests$Tree;I[I)J"⟩ ⟨"BoostForests$Training", "tellTree", "(LBoostForests$Tree;I[I)J"⟩ ∈ gw_tbl := List.mem_filter.mpr ⟨List.mem_append_left _ (List.mem_of_getElem? (i := 16) rfl), rfl⟩
theorem ks_TG_tellBoth : Cond.selects "BoostForests$Training" ⟨"BoostForests$Training", "tellBoth", "(LBoostForests$Tree;I)J"⟩ ⟨"BoostForests$Training", "tellBoth", "(LBoostForests$Tree;I)J"⟩ ∈ gw_tbl := List.mem_filter.mpr ⟨List.mem_append_left _ (List.mem_of_getElem? (i := 17) rfl), rfl⟩
theorem ks_MD_keepLosses : Cond.selects "BoostForestsModel" ⟨"BoostForestsModel", "keepLosses", "()V"⟩ ⟨"BoostForestsModel", "keepLosses", "()V"⟩ ∈ gw_tbl := List.mem_filter.mpr ⟨List.mem_append_left _ (List.mem_of_getElem? (i := 18) rfl), rfl⟩
theorem ks_MD_makeTree : Cond.selects "BoostForestsModel" ⟨"BoostForestsModel", "makeTree", "(I)V"⟩ ⟨"BoostForestsModel", "makeTree", "(I)V"⟩ ∈ gw_tbl := List.mem_filter.mpr ⟨List.mem_append_left _ (List.mem_of_getElem? (i := 19) rfl), rfl⟩
theorem ks_MD_drawn : Cond.selects "BoostForestsModel" ⟨"BoostForestsModel", "drawn", "(I)I"⟩ ⟨"BoostForestsModel", "drawn", "(I)I"⟩ ∈ gw_tbl := List.mem_filter.mpr ⟨List.mem_append_left _ (List.mem_of_getElem? (i := 20) rfl), rfl⟩
theorem ks_MD_layNode : Cond.selects "BoostForestsModel" ⟨"BoostForestsModel", "layNode", "(III)V"⟩ ⟨"BoostForestsModel", "layNode", "(III)V"⟩ ∈ gw_tbl := List.mem_filter.mpr ⟨List.mem_append_left _ (List.mem_of_getElem? (i := 21) rfl), rfl⟩
theorem ks_MD_sumUp : Cond.selects "BoostForestsModel" ⟨"BoostForestsModel", "sumUp", "(IIIIZ)V"⟩ ⟨"BoostForestsModel", "sumUp", "(IIIIZ)V"⟩ ∈ gw_tbl := List.mem_filter.mpr ⟨List.mem_append_left _ (List.mem_of_getElem? (i := 22) rfl), rfl⟩
theorem ks_MD_split : Cond.selects "BoostForestsModel" ⟨"BoostForestsModel", "split", "(II)V"⟩ ⟨"BoostForestsModel", "split", "(II)V"⟩ ∈ gw_tbl := List.mem_filter.mpr ⟨List.mem_append_left _ (List.mem_of_getElem? (i := 23) rfl), rfl⟩
theorem ks_MD_isCut : Cond.selects "BoostForestsModel" ⟨"BoostForestsModel", "isCut", "(III)Z"⟩ ⟨"BoostForestsModel", "isCut", "(III)Z"⟩ ∈ gw_tbl := List.mem_filter.mpr ⟨List.mem_append_left _ (List.mem_of_getElem? (i := 24) rfl), rfl⟩
theorem ks_MD_difference : Cond.selects "BoostForestsModel" ⟨"BoostForestsModel", "difference", "(IIIII)J"⟩ ⟨"BoostForestsModel", "difference", "(IIIII)J"⟩ ∈ gw_tbl := List.mem_filter.mpr ⟨List.mem_append_left _ (List.mem_of_getElem? (i := 25) rfl), rfl⟩
theorem ks_MD_valueOf : Cond.selects "BoostForestsModel" ⟨"BoostForestsModel", "valueOf", "(JI)J"⟩ ⟨"BoostForestsModel", "valueOf", "(JI)J"⟩ ∈ gw_tbl := List.mem_filter.mpr ⟨List.mem_append_left _ (List.mem_of_getElem? (i := 26) rfl), rfl⟩
theorem ks_MD_worthOf : Cond.selects "BoostForestsModel" ⟨"BoostForestsModel", "worthOf", "(JI)J"⟩ ⟨"BoostForestsModel", "worthOf", "(JI)J"⟩ ∈ gw_tbl := List.mem_filter.mpr ⟨List.mem_append_left _ (List.mem_of_getElem? (i := 27) rfl), rfl⟩
theorem ks_MD_leafOf : Cond.selects "BoostForestsModel" ⟨"BoostForestsModel", "leafOf", "(IIIII)I"⟩ ⟨"BoostForestsModel", "leafOf", "(IIIII)I"⟩ ∈ gw_tbl := List.mem_filter.mpr ⟨List.mem_append_left _ (List.mem_of_getElem? (i := 28) rfl), rfl⟩
theorem ks_MD_addOf : Cond.selects "BoostForestsModel" ⟨"BoostForestsModel", "addOf", "(II)J"⟩ ⟨"BoostForestsModel", "addOf", "(II)J"⟩ ∈ gw_tbl := List.mem_filter.mpr ⟨List.mem_append_left _ (List.mem_of_getElem? (i := 29) rfl), rfl⟩
theorem ks_MD_isNode : Cond.selects "BoostForestsModel" ⟨"BoostForestsModel", "isNode", "(II)Z"⟩ ⟨"BoostForestsModel", "isNode", "(II)Z"⟩ ∈ gw_tbl := List.mem_filter.mpr ⟨List.mem_append_left _ (List.mem_of_getElem? (i := 30) rfl), rfl⟩
theorem ks_MD_isTree : Cond.selects "BoostForestsModel" ⟨"BoostForestsModel", "isTree", "(I)Z"⟩ ⟨"BoostForestsModel", "isTree", "(I)Z"⟩ ∈ gw_tbl := List.mem_filter.mpr ⟨List.mem_append_left _ (List.mem_of_getElem? (i := 31) rfl), rfl⟩
theorem ks_MD_allTell : Cond.selects "BoostForestsModel" ⟨"BoostForestsModel", "allTell", "(IIIII)J"⟩ ⟨"BoostForestsModel", "allTell", "(IIIII)J"⟩ ∈ gw_tbl := List.mem_filter.mpr ⟨List.mem_append_left _ (List.mem_of_getElem? (i := 32) rfl), rfl⟩
theorem ks_MD_tellOf : Cond.selects "BoostForestsModel" ⟨"BoostForestsModel", "tellOf", "(IIIIII)J"⟩ ⟨"BoostForestsModel", "tellOf", "(IIIIII)J"⟩ ∈ gw_tbl := List.mem_filter.mpr ⟨List.mem_append_left _ (List.mem_of_getElem? (i := 33) rfl), rfl⟩

abbrev gw_tbl : List Cond := lw_tbl.filter goodWord
theorem gw_good : ∀ w ∈ gw_tbl, (w.onTables && w.keeps) = true ∨ ∃ ty, w = .arrayClass ty := fun w h => good_of_word (List.mem_filter.mp h).2
theorem gw_in : ∀ w ∈ gw_tbl, w ∈ lw_tbl := fun w h => (List.mem_filter.mp h).1
theorem kt_1 : ∀ w ∈ tables_1_1, w ∈ lw_tbl := fun _ h => List.mem_append_right _ (List.mem_append_left _ h)
theorem kt_2 : ∀ w ∈ tables_1_2, w ∈ lw_tbl := fun _ h => List.mem_append_right _ (List.mem_append_right _ (List.mem_append_left _ h))
theorem kt_3 : ∀ w ∈ tables_1_3, w ∈ lw_tbl := fun _ h => List.mem_append_right _ (List.mem_append_right _ (List.mem_append_right _ (List.mem_append_left _ h)))
def R_BF : String := "BoostForests"
def F_BF : u_T := fun k => match k with
  | 0 => ("BoostForests", "table", "LBoostForests$Table;", true)
  | 1 => ("BoostForests", "settings", "[I", true)
  | 2 => ("BoostForests", "training", "LBoostForests$Training;", true)
  | _ => ("BoostForests", "asked", "[I", true)
def t_BF : Nat → FieldType := fun k => match k with
  | 0 => .object "BoostForests$Table"
  | 1 => .array .int
  | 2 => .object "BoostForests$Training"
  | _ => .array .int
abbrev w_BF : List Cond := u_ws R_BF F_BF 4
theorem n_BF : ∀ a, a < 4 → ∀ b, b < 4 → a ≠ b → (F_BF a).2.1 ≠ (F_BF b).2.1 := by decide +kernel
theorem t_BF_ok : ∀ k, k < 4 → parseFieldDescriptor (F_BF k).2.2.1 = some (t_BF k) := by decide +kernel
theorem i_BF : ∀ w ∈ w_BF, w ∈ gw_tbl := by
  intro w hw
  obtain ⟨k, hk, rfl⟩ := List.mem_map.mp hw
  have hk := List.mem_range.mp hk
  match k, hk with
  | 0, _ => exact List.mem_filter.mpr ⟨kt_1 _ (List.mem_of_getElem? (i := 236) rfl), rfl⟩
  | 1, _ => exact List.mem_filter.mpr ⟨kt_1 _ (List.mem_of_getElem? (i := 238) rfl), rfl⟩
  | 2, _ => exact List.mem_filter.mpr ⟨kt_2 _ (List.mem_of_getElem? (i := 0) rfl), rfl⟩
  | 3, _ => exact List.mem_filter.mpr ⟨kt_2 _ (List.mem_of_getElem? (i := 2) rfl), rfl⟩
  | k + 4, hk => exact absurd hk (by omega)
def R_TB : String := "BoostForests$Table"
def F_TB : u_T := fun k => match k with
  | 0 => ("BoostForests$Table", "cells", "[[I", true)
  | 1 => ("BoostForests$Table", "aims", "[I", true)
  | 2 => ("BoostForests$Table", "weights", "[I", true)
  | 3 => ("BoostForests$Table", "held", "[Z", true)
  | _ => ("BoostForests$Table", "number", "I", false)
def t_TB : Nat → FieldType := fun k => match k with
  | 0 => .array (.array .int)
  | 1 => .array .int
  | 2 => .array .int
  | 3 => .array .boolean
  | _ => .int
abbrev w_TB : List Cond := u_ws R_TB F_TB 5
theorem n_TB : ∀ a, a < 5 → ∀ b, b < 5 → a ≠ b → (F_TB a).2.1 ≠ (F_TB b).2.1 := by decide +kernel
theorem t_TB_ok : ∀ k, k < 5 → parseFieldDescriptor (F_TB k).2.2.1 = some (t_TB k) := by decide +kernel
theorem i_TB : ∀ w ∈ w_TB, w ∈ gw_tbl := by
  intro w hw
  obtain ⟨k, hk, rfl⟩ := List.mem_map.mp hw
  have hk := List.mem_range.mp hk
  match k, hk with
  | 0, _ => exact List.mem_filter.mpr ⟨kt_1 _ (List.mem_of_getElem? (i := 45) rfl), rfl⟩
  | 1, _ => exact List.mem_filter.mpr ⟨kt_1 _ (List.mem_of_getElem? (i := 47) rfl), rfl⟩
  | 2, _ => exact List.mem_filter.mpr ⟨kt_1 _ (List.mem_of_getElem? (i := 49) rfl), rfl⟩
  | 3, _ => exact List.mem_filter.mpr ⟨kt_1 _ (List.mem_of_getElem? (i := 51) rfl), rfl⟩
  | 4, _ => exact List.mem_filter.mpr ⟨kt_1 _ (List.mem_of_getElem? (i := 53) rfl), rfl⟩
  | k + 5, hk => exact absurd hk (by omega)
def R_TG : String := "BoostForests$Training"
def F_TG : u_T := fun k => match k with
  | 0 => ("BoostForests$Training", "grower", "LBoostForests$Grower;", true)
  | 1 => ("BoostForests$Training", "rows", "LBoostForests$Table;", true)
  | 2 => ("BoostForests$Training", "chosen", "[I", true)
  | 3 => ("BoostForests$Training", "trees", "[LBoostForests$Tree;", true)
  | 4 => ("BoostForests$Training", "f", "[J", true)
  | 5 => ("BoostForests$Training", "tookPart", "[I", true)
  | 6 => ("BoostForests$Training", "losses", "[[J", true)
  | 7 => ("BoostForests$Training", "tells", "[J", true)
  | 8 => ("BoostForests$Training", "done", "Z", false)
  | _ => ("BoostForests$Training", "made", "I", false)
def t_TG : Nat → FieldType := fun k => match k with
  | 0 => .object "BoostForests$Grower"
  | 1 => .object "BoostForests$Table"
  | 2 => .array .int
  | 3 => .array (.object "BoostForests$Tree")
  | 4 => .array .long
  | 5 => .array .int
  | 6 => .array (.array .long)
  | 7 => .array .long
  | 8 => .boolean
  | _ => .int
abbrev w_TG : List Cond := u_ws R_TG F_TG 10
theorem n_TG : ∀ a, a < 10 → ∀ b, b < 10 → a ≠ b → (F_TG a).2.1 ≠ (F_TG b).2.1 := by decide +kernel
theorem t_TG_ok : ∀ k, k < 10 → parseFieldDescriptor (F_TG k).2.2.1 = some (t_TG k) := by decide +kernel
theorem i_TG : ∀ w ∈ w_TG, w ∈ gw_tbl := by
  intro w hw
  obtain ⟨k, hk, rfl⟩ := List.mem_map.mp hw
  have hk := List.mem_range.mp hk
  match k, hk with
  | 0, _ => exact List.mem_filter.mpr ⟨kt_1 _ (List.mem_of_getElem? (i := 211) rfl), rfl⟩
  | 1, _ => exact List.mem_filter.mpr ⟨kt_1 _ (List.mem_of_getElem? (i := 213) rfl), rfl⟩
  | 2, _ => exact List.mem_filter.mpr ⟨kt_1 _ (List.mem_of_getElem? (i := 215) rfl), rfl⟩
  | 3, _ => exact List.mem_filter.mpr ⟨kt_1 _ (List.mem_of_getElem? (i := 217) rfl), rfl⟩
  | 4, _ => exact List.mem_filter.mpr ⟨kt_1 _ (List.mem_of_getElem? (i := 219) rfl), rfl⟩
  | 5, _ => exact List.mem_filter.mpr ⟨kt_1 _ (List.mem_of_getElem? (i := 221) rfl), rfl⟩
  | 6, _ => exact List.mem_filter.mpr ⟨kt_1 _ (List.mem_of_getElem? (i := 223) rfl), rfl⟩
  | 7, _ => exact List.mem_filter.mpr ⟨kt_1 _ (List.mem_of_getElem? (i := 225) rfl), rfl⟩
  | 8, _ => exact List.mem_filter.mpr ⟨kt_1 _ (List.mem_of_getElem? (i := 227) rfl), rfl⟩
  | 9, _ => exact List.mem_filter.mpr ⟨kt_1 _ (List.mem_of_getElem? (i := 229) rfl), rfl⟩
  | k + 10, hk => exact absurd hk (by omega)
def R_GR : String := "BoostForests$Grower"
def F_GR : u_T := fun k => match k with
  | 0 => ("BoostForests$Grower", "rows", "LBoostForests$Table;", true)
  | 1 => ("BoostForests$Grower", "chosen", "[I", true)
  | 2 => ("BoostForests$Grower", "order", "[[I", true)
  | 3 => ("BoostForests$Grower", "nodeOf", "[I", true)
  | 4 => ("BoostForests$Grower", "slopes", "[J", true)
  | 5 => ("BoostForests$Grower", "whole", "LBoostForests$Sums;", true)
  | 6 => ("BoostForests$Grower", "missing", "LBoostForests$Sums;", true)
  | 7 => ("BoostForests$Grower", "below", "LBoostForests$Sums;", true)
  | 8 => ("BoostForests$Grower", "low", "LBoostForests$Sums;", true)
  | 9 => ("BoostForests$Grower", "high", "LBoostForests$Sums;", true)
  | 10 => ("BoostForests$Grower", "nothing", "LBoostForests$Sums;", true)
  | _ => ("BoostForests$Grower", "split", "LBoostForests$Split;", true)
def t_GR : Nat → FieldType := fun k => match k with
  | 0 => .object "BoostForests$Table"
  | 1 => .array .int
  | 2 => .array (.array .int)
  | 3 => .array .int
  | 4 => .array .long
  | 5 => .object "BoostForests$Sums"
  | 6 => .object "BoostForests$Sums"
  | 7 => .object "BoostForests$Sums"
  | 8 => .object "BoostForests$Sums"
  | 9 => .object "BoostForests$Sums"
  | 10 => .object "BoostForests$Sums"
  | _ => .object "BoostForests$Split"
abbrev w_GR : List Cond := u_ws R_GR F_GR 12
theorem n_GR : ∀ a, a < 12 → ∀ b, b < 12 → a ≠ b → (F_GR a).2.1 ≠ (F_GR b).2.1 := by decide +kernel
theorem t_GR_ok : ∀ k, k < 12 → parseFieldDescriptor (F_GR k).2.2.1 = some (t_GR k) := by decide +kernel
theorem i_GR : ∀ w ∈ w_GR, w ∈ gw_tbl := by
  intro w hw
  obtain ⟨k, hk, rfl⟩ := List.mem_map.mp hw
  have hk := List.mem_range.mp hk
  match k, hk with
  | 0, _ => exact List.mem_filter.mpr ⟨kt_1 _ (List.mem_of_getElem? (i := 142) rfl), rfl⟩
  | 1, _ => exact List.mem_filter.mpr ⟨kt_1 _ (List.mem_of_getElem? (i := 144) rfl), rfl⟩
  | 2, _ => exact List.mem_filter.mpr ⟨kt_1 _ (List.mem_of_getElem? (i := 146) rfl), rfl⟩
  | 3, _ => exact List.mem_filter.mpr ⟨kt_1 _ (List.mem_of_getElem? (i := 148) rfl), rfl⟩
  | 4, _ => exact List.mem_filter.mpr ⟨kt_1 _ (List.mem_of_getElem? (i := 150) rfl), rfl⟩
  | 5, _ => exact List.mem_filter.mpr ⟨kt_1 _ (List.mem_of_getElem? (i := 152) rfl), rfl⟩
  | 6, _ => exact List.mem_filter.mpr ⟨kt_1 _ (List.mem_of_getElem? (i := 154) rfl), rfl⟩
  | 7, _ => exact List.mem_filter.mpr ⟨kt_1 _ (List.mem_of_getElem? (i := 156) rfl), rfl⟩
  | 8, _ => exact List.mem_filter.mpr ⟨kt_1 _ (List.mem_of_getElem? (i := 158) rfl), rfl⟩
  | 9, _ => exact List.mem_filter.mpr ⟨kt_1 _ (List.mem_of_getElem? (i := 160) rfl), rfl⟩
  | 10, _ => exact List.mem_filter.mpr ⟨kt_1 _ (List.mem_of_getElem? (i := 162) rfl), rfl⟩
  | 11, _ => exact List.mem_filter.mpr ⟨kt_1 _ (List.mem_of_getElem? (i := 164) rfl), rfl⟩
  | k + 12, hk => exact absurd hk (by omega)
def R_SM : String := "BoostForests$Sums"
def F_SM : u_T := fun k => match k with
  | 0 => ("BoostForests$Sums", "rows", "I", false)
  | 1 => ("BoostForests$Sums", "h", "I", false)
  | _ => ("BoostForests$Sums", "g", "J", false)
def t_SM : Nat → FieldType := fun k => match k with
  | 0 => .int
  | 1 => .int
  | _ => .long
abbrev w_SM : List Cond := u_ws R_SM F_SM 3
theorem t_SM_ok : ∀ k, k < 3 → parseFieldDescriptor (F_SM k).2.2.1 = some (t_SM k) := by decide +kernel
theorem i_SM : ∀ w ∈ w_SM, w ∈ gw_tbl := by
  intro w hw
  obtain ⟨k, hk, rfl⟩ := List.mem_map.mp hw
  have hk := List.mem_range.mp hk
  match k, hk with
  | 0, _ => exact List.mem_filter.mpr ⟨kt_1 _ (List.mem_of_getElem? (i := 95) rfl), rfl⟩
  | 1, _ => exact List.mem_filter.mpr ⟨kt_1 _ (List.mem_of_getElem? (i := 97) rfl), rfl⟩
  | 2, _ => exact List.mem_filter.mpr ⟨kt_1 _ (List.mem_of_getElem? (i := 99) rfl), rfl⟩
  | k + 3, hk => exact absurd hk (by omega)
def R_SP : String := "BoostForests$Split"
def F_SP : u_T := fun k => match k with
  | 0 => ("BoostForests$Split", "column", "I", false)
  | 1 => ("BoostForests$Split", "cut", "I", false)
  | 2 => ("BoostForests$Split", "side", "I", false)
  | _ => ("BoostForests$Split", "difference", "J", false)
def t_SP : Nat → FieldType := fun k => match k with
  | 0 => .int
  | 1 => .int
  | 2 => .int
  | _ => .long
abbrev w_SP : List Cond := u_ws R_SP F_SP 4
theorem t_SP_ok : ∀ k, k < 4 → parseFieldDescriptor (F_SP k).2.2.1 = some (t_SP k) := by decide +kernel
theorem i_SP : ∀ w ∈ w_SP, w ∈ gw_tbl := by
  intro w hw
  obtain ⟨k, hk, rfl⟩ := List.mem_map.mp hw
  have hk := List.mem_range.mp hk
  match k, hk with
  | 0, _ => exact List.mem_filter.mpr ⟨kt_1 _ (List.mem_of_getElem? (i := 119) rfl), rfl⟩
  | 1, _ => exact List.mem_filter.mpr ⟨kt_1 _ (List.mem_of_getElem? (i := 121) rfl), rfl⟩
  | 2, _ => exact List.mem_filter.mpr ⟨kt_1 _ (List.mem_of_getElem? (i := 123) rfl), rfl⟩
  | 3, _ => exact List.mem_filter.mpr ⟨kt_1 _ (List.mem_of_getElem? (i := 125) rfl), rfl⟩
  | k + 4, hk => exact absurd hk (by omega)
def R_TR : String := "BoostForests$Tree"
def F_TR : u_T := fun k => match k with
  | 0 => ("BoostForests$Tree", "facts", "[[I", true)
  | 1 => ("BoostForests$Tree", "sums", "[[J", true)
  | _ => ("BoostForests$Tree", "nodes", "I", false)
def t_TR : Nat → FieldType := fun k => match k with
  | 0 => .array (.array .int)
  | 1 => .array (.array .long)
  | _ => .int
abbrev w_TR : List Cond := u_ws R_TR F_TR 3
theorem n_TR : ∀ a, a < 3 → ∀ b, b < 3 → a ≠ b → (F_TR a).2.1 ≠ (F_TR b).2.1 := by decide +kernel
theorem t_TR_ok : ∀ k, k < 3 → parseFieldDescriptor (F_TR k).2.2.1 = some (t_TR k) := by decide +kernel
theorem i_TR : ∀ w ∈ w_TR, w ∈ gw_tbl := by
  intro w hw
  obtain ⟨k, hk, rfl⟩ := List.mem_map.mp hw
  have hk := List.mem_range.mp hk
  match k, hk with
  | 0, _ => exact List.mem_filter.mpr ⟨kt_1 _ (List.mem_of_getElem? (i := 188) rfl), rfl⟩
  | 1, _ => exact List.mem_filter.mpr ⟨kt_1 _ (List.mem_of_getElem? (i := 190) rfl), rfl⟩
  | 2, _ => exact List.mem_filter.mpr ⟨kt_1 _ (List.mem_of_getElem? (i := 192) rfl), rfl⟩
  | k + 3, hk => exact absurd hk (by omega)
def R_MD : String := "BoostForestsModel"
def F_MD : u_T := fun k => match k with
  | 0 => ("BoostForestsModel", "rows", "I", false)
  | 1 => ("BoostForestsModel", "columns", "[I", true)
  | 2 => ("BoostForestsModel", "aims", "[I", true)
  | 3 => ("BoostForestsModel", "weights", "[I", true)
  | 4 => ("BoostForestsModel", "held", "[Z", true)
  | 5 => ("BoostForestsModel", "settings", "[I", true)
  | 6 => ("BoostForestsModel", "trained", "Z", false)
  | 7 => ("BoostForestsModel", "trainedRows", "I", false)
  | 8 => ("BoostForestsModel", "cols", "[I", true)
  | 9 => ("BoostForestsModel", "ys", "[I", true)
  | 10 => ("BoostForestsModel", "ws", "[I", true)
  | 11 => ("BoostForestsModel", "isHeld", "[Z", true)
  | 12 => ("BoostForestsModel", "then", "[I", true)
  | 13 => ("BoostForestsModel", "now", "[J", true)
  | 14 => ("BoostForestsModel", "trees", "I", false)
  | 15 => ("BoostForestsModel", "losses", "[J", true)
  | 16 => ("BoostForestsModel", "takesPart", "[Z", true)
  | 17 => ("BoostForestsModel", "sizes", "[I", true)
  | 18 => ("BoostForestsModel", "nodeColumns", "[I", true)
  | 19 => ("BoostForestsModel", "nodeCuts", "[I", true)
  | 20 => ("BoostForestsModel", "nodeSides", "[I", true)
  | 21 => ("BoostForestsModel", "nodeLefts", "[I", true)
  | 22 => ("BoostForestsModel", "nodeRows", "[I", true)
  | 23 => ("BoostForestsModel", "nodeWeights", "[I", true)
  | 24 => ("BoostForestsModel", "nodeDepths", "[I", true)
  | 25 => ("BoostForestsModel", "nodeSlopes", "[J", true)
  | 26 => ("BoostForestsModel", "nodeGains", "[J", true)
  | 27 => ("BoostForestsModel", "nodeOf", "[I", true)
  | 28 => ("BoostForestsModel", "tells", "[J", true)
  | 29 => ("BoostForestsModel", "slope", "J", false)
  | 30 => ("BoostForestsModel", "weight", "I", false)
  | _ => ("BoostForestsModel", "count", "I", false)
def t_MD : Nat → FieldType := fun k => match k with
  | 0 => .int
  | 1 => .array .int
  | 2 => .array .int
  | 3 => .array .int
  | 4 => .array .boolean
  | 5 => .array .int
  | 6 => .boolean
  | 7 => .int
  | 8 => .array .int
  | 9 => .array .int
  | 10 => .array .int
  | 11 => .array .boolean
  | 12 => .array .int
  | 13 => .array .long
  | 14 => .int
  | 15 => .array .long
  | 16 => .array .boolean
  | 17 => .array .int
  | 18 => .array .int
  | 19 => .array .int
  | 20 => .array .int
  | 21 => .array .int
  | 22 => .array .int
  | 23 => .array .int
  | 24 => .array .int
  | 25 => .array .long
  | 26 => .array .long
  | 27 => .array .int
  | 28 => .array .long
  | 29 => .long
  | 30 => .int
  | _ => .int
abbrev w_MD : List Cond := u_ws R_MD F_MD 32
theorem n_MD : ∀ a, a < 32 → ∀ b, b < 32 → a ≠ b → (F_MD a).2.1 ≠ (F_MD b).2.1 := by decide +kernel
theorem t_MD_ok : ∀ k, k < 32 → parseFieldDescriptor (F_MD k).2.2.1 = some (t_MD k) := by decide +kernel
theorem i_MD : ∀ w ∈ w_MD, w ∈ gw_tbl := by
  intro w hw
  obtain ⟨k, hk, rfl⟩ := List.mem_map.mp hw
  have hk := List.mem_range.mp hk
  match k, hk with
  | 0, _ => exact List.mem_filter.mpr ⟨kt_3 _ (List.mem_of_getElem? (i := 103) rfl), rfl⟩
  | 1, _ => exact List.mem_filter.mpr ⟨kt_3 _ (List.mem_of_getElem? (i := 105) rfl), rfl⟩
  | 2, _ => exact List.mem_filter.mpr ⟨kt_3 _ (List.mem_of_getElem? (i := 107) rfl), rfl⟩
  | 3, _ => exact List.mem_filter.mpr ⟨kt_3 _ (List.mem_of_getElem? (i := 109) rfl), rfl⟩
  | 4, _ => exact List.mem_filter.mpr ⟨kt_3 _ (List.mem_of_getElem? (i := 111) rfl), rfl⟩
  | 5, _ => exact List.mem_filter.mpr ⟨kt_3 _ (List.mem_of_getElem? (i := 113) rfl), rfl⟩
  | 6, _ => exact List.mem_filter.mpr ⟨kt_3 _ (List.mem_of_getElem? (i := 115) rfl), rfl⟩
  | 7, _ => exact List.mem_filter.mpr ⟨kt_3 _ (List.mem_of_getElem? (i := 117) rfl), rfl⟩
  | 8, _ => exact List.mem_filter.mpr ⟨kt_3 _ (List.mem_of_getElem? (i := 119) rfl), rfl⟩
  | 9, _ => exact List.mem_filter.mpr ⟨kt_3 _ (List.mem_of_getElem? (i := 121) rfl), rfl⟩
  | 10, _ => exact List.mem_filter.mpr ⟨kt_3 _ (List.mem_of_getElem? (i := 123) rfl), rfl⟩
  | 11, _ => exact List.mem_filter.mpr ⟨kt_3 _ (List.mem_of_getElem? (i := 125) rfl), rfl⟩
  | 12, _ => exact List.mem_filter.mpr ⟨kt_3 _ (List.mem_of_getElem? (i := 127) rfl), rfl⟩
  | 13, _ => exact List.mem_filter.mpr ⟨kt_3 _ (List.mem_of_getElem? (i := 129) rfl), rfl⟩
  | 14, _ => exact List.mem_filter.mpr ⟨kt_3 _ (List.mem_of_getElem? (i := 131) rfl), rfl⟩
  | 15, _ => exact List.mem_filter.mpr ⟨kt_3 _ (List.mem_of_getElem? (i := 133) rfl), rfl⟩
  | 16, _ => exact List.mem_filter.mpr ⟨kt_3 _ (List.mem_of_getElem? (i := 135) rfl), rfl⟩
  | 17, _ => exact List.mem_filter.mpr ⟨kt_3 _ (List.mem_of_getElem? (i := 137) rfl), rfl⟩
  | 18, _ => exact List.mem_filter.mpr ⟨kt_3 _ (List.mem_of_getElem? (i := 139) rfl), rfl⟩
  | 19, _ => exact List.mem_filter.mpr ⟨kt_3 _ (List.mem_of_getElem? (i := 141) rfl), rfl⟩
  | 20, _ => exact List.mem_filter.mpr ⟨kt_3 _ (List.mem_of_getElem? (i := 143) rfl), rfl⟩
  | 21, _ => exact List.mem_filter.mpr ⟨kt_3 _ (List.mem_of_getElem? (i := 145) rfl), rfl⟩
  | 22, _ => exact List.mem_filter.mpr ⟨kt_3 _ (List.mem_of_getElem? (i := 147) rfl), rfl⟩
  | 23, _ => exact List.mem_filter.mpr ⟨kt_3 _ (List.mem_of_getElem? (i := 149) rfl), rfl⟩
  | 24, _ => exact List.mem_filter.mpr ⟨kt_3 _ (List.mem_of_getElem? (i := 151) rfl), rfl⟩
  | 25, _ => exact List.mem_filter.mpr ⟨kt_3 _ (List.mem_of_getElem? (i := 153) rfl), rfl⟩
  | 26, _ => exact List.mem_filter.mpr ⟨kt_3 _ (List.mem_of_getElem? (i := 155) rfl), rfl⟩
  | 27, _ => exact List.mem_filter.mpr ⟨kt_3 _ (List.mem_of_getElem? (i := 157) rfl), rfl⟩
  | 28, _ => exact List.mem_filter.mpr ⟨kt_3 _ (List.mem_of_getElem? (i := 159) rfl), rfl⟩
  | 29, _ => exact List.mem_filter.mpr ⟨kt_3 _ (List.mem_of_getElem? (i := 161) rfl), rfl⟩
  | 30, _ => exact List.mem_filter.mpr ⟨kt_3 _ (List.mem_of_getElem? (i := 163) rfl), rfl⟩
  | 31, _ => exact List.mem_filter.mpr ⟨kt_3 _ (List.mem_of_getElem? (i := 165) rfl), rfl⟩
  | k + 32, hk => exact absurd hk (by omega)
abbrev vCl : List vw_C := [(R_BF, F_BF, 4), (R_TB, F_TB, 5), (R_TG, F_TG, 10), (R_GR, F_GR, 12), (R_SM, F_SM, 3), (R_SP, F_SP, 4), (R_TR, F_TR, 3), (R_MD, F_MD, 32)]
abbrev b_BF_init : ByteArray := prog_1_method_1_code
abbrev y_BF_init : MethodName := ⟨"BoostForests", "<init>", "()V"⟩
abbrev b_MD_init : ByteArray := prog_9_method_1_code
abbrev y_MD_init : MethodName := ⟨"BoostForestsModel", "<init>", "()V"⟩
abbrev b_GR_init : ByteArray := prog_2_method_1_code
abbrev y_GR_init : MethodName := ⟨"BoostForests$Grower", "<init>", "()V"⟩
abbrev b_SP_init : ByteArray := prog_3_method_1_code
abbrev y_SP_init : MethodName := ⟨"BoostForests$Split", "<init>", "()V"⟩
abbrev b_SM_init : ByteArray := prog_4_method_1_code
abbrev y_SM_init : MethodName := ⟨"BoostForests$Sums", "<init>", "()V"⟩
abbrev b_TB_init : ByteArray := prog_5_method_1_code
abbrev y_TB_init : MethodName := ⟨"BoostForests$Table", "<init>", "()V"⟩
abbrev b_TG_init : ByteArray := prog_6_method_1_code
abbrev y_TG_init : MethodName := ⟨"BoostForests$Training", "<init>", "()V"⟩
abbrev b_TR_init : ByteArray := prog_7_method_1_code
abbrev y_TR_init : MethodName := ⟨"BoostForests$Tree", "<init>", "()V"⟩
abbrev y_JO_init : MethodName := ⟨"java/lang/Object", "<init>", "()V"⟩
theorem kw_1_1 : (Jvm.Cond.initialized "BoostForests") ∈ gw_tbl := List.mem_filter.mpr ⟨kt_1 _ (List.mem_of_getElem? (i := 1) rfl), rfl⟩
theorem kw_1_2 : (Jvm.Cond.initialized "BoostForests$Table") ∈ gw_tbl := List.mem_filter.mpr ⟨kt_1 _ (List.mem_of_getElem? (i := 2) rfl), rfl⟩
theorem kw_1_3 : (Jvm.Cond.initialized "BoostForests$Training") ∈ gw_tbl := List.mem_filter.mpr ⟨kt_1 _ (List.mem_of_getElem? (i := 3) rfl), rfl⟩
theorem kw_1_4 : (Jvm.Cond.initialized "BoostForests$Grower") ∈ gw_tbl := List.mem_filter.mpr ⟨kt_1 _ (List.mem_of_getElem? (i := 4) rfl), rfl⟩
theorem kw_1_5 : (Jvm.Cond.initialized "BoostForests$Sums") ∈ gw_tbl := List.mem_filter.mpr ⟨kt_1 _ (List.mem_of_getElem? (i := 5) rfl), rfl⟩
theorem kw_1_6 : (Jvm.Cond.initialized "BoostForests$Split") ∈ gw_tbl := List.mem_filter.mpr ⟨kt_1 _ (List.mem_of_getElem? (i := 6) rfl), rfl⟩
theorem kw_1_7 : (Jvm.Cond.initialized "BoostForests$Tree") ∈ gw_tbl := List.mem_filter.mpr ⟨kt_1 _ (List.mem_of_getElem? (i := 7) rfl), rfl⟩
theorem kw_1_8 : (Jvm.Cond.initialized "BoostForestsModel") ∈ gw_tbl := List.mem_filter.mpr ⟨kt_1 _ (List.mem_of_getElem? (i := 8) rfl), rfl⟩
theorem kw_1_12 : (Jvm.Cond.classLink "BoostForestsLaw" (7 : Nat) "BoostForests") ∈ gw_tbl := List.mem_filter.mpr ⟨kt_1 _ (List.mem_of_getElem? (i := 12) rfl), rfl⟩
theorem kw_1_13 : (Jvm.Cond.instantiable "BoostForests" (4 : Nat)) ∈ gw_tbl := List.mem_filter.mpr ⟨kt_1 _ (List.mem_of_getElem? (i := 13) rfl), rfl⟩
theorem kw_1_14 : (Jvm.Cond.methodLink "BoostForestsLaw" (9 : Nat) ({ cls := "BoostForests", name := "<init>", desc := "()V" } : Jvm.MethodName)) ∈ gw_tbl := List.mem_filter.mpr ⟨kt_1 _ (List.mem_of_getElem? (i := 14) rfl), rfl⟩
theorem kw_1_15 : (Jvm.Cond.instanceMethod ({ cls := "BoostForests", name := "<init>", desc := "()V" } : Jvm.MethodName)) ∈ gw_tbl := List.mem_filter.mpr ⟨kt_1 _ (List.mem_of_getElem? (i := 15) rfl), rfl⟩
theorem kw_1_16 : (Jvm.Cond.code ({ cls := "BoostForests", name := "<init>", desc := "()V" } : Jvm.MethodName) prog_1_method_1_code (1 : Nat) (Option.none : Option Jvm.ClassFile.FieldType)) ∈ gw_tbl := List.mem_filter.mpr ⟨kt_1 _ (List.mem_of_getElem? (i := 16) rfl), rfl⟩
theorem kw_1_17 : (Jvm.Cond.methodLink "BoostForests" (1 : Nat) ({ cls := "java/lang/Object", name := "<init>", desc := "()V" } : Jvm.MethodName)) ∈ gw_tbl := List.mem_filter.mpr ⟨kt_1 _ (List.mem_of_getElem? (i := 17) rfl), rfl⟩
theorem kw_1_18 : (Jvm.Cond.instanceMethod ({ cls := "java/lang/Object", name := "<init>", desc := "()V" } : Jvm.MethodName)) ∈ gw_tbl := List.mem_filter.mpr ⟨kt_1 _ (List.mem_of_getElem? (i := 18) rfl), rfl⟩
theorem kw_1_19 : (Jvm.Cond.code ({ cls := "java/lang/Object", name := "<init>", desc := "()V" } : Jvm.MethodName) object_method_1_code (1 : Nat) (Option.none : Option Jvm.ClassFile.FieldType)) ∈ gw_tbl := List.mem_filter.mpr ⟨kt_1 _ (List.mem_of_getElem? (i := 19) rfl), rfl⟩
theorem kw_1_20 : (Jvm.Cond.classLink "BoostForests" (7 : Nat) "BoostForests$Table") ∈ gw_tbl := List.mem_filter.mpr ⟨kt_1 _ (List.mem_of_getElem? (i := 20) rfl), rfl⟩
theorem kw_1_21 : (Jvm.Cond.instantiable "BoostForests$Table" (5 : Nat)) ∈ gw_tbl := List.mem_filter.mpr ⟨kt_1 _ (List.mem_of_getElem? (i := 21) rfl), rfl⟩
theorem kl_1_22 : (Jvm.Cond.methodLinkNest "BoostForests" (9 : Nat) ({ cls := "BoostForests$Table", name := "<init>", desc := "()V" } : Jvm.MethodName) "BoostForests") ∈ lw_tbl := kt_1 _ (List.mem_of_getElem? (i := 22) rfl)
theorem kw_1_23 : (Jvm.Cond.instanceMethod ({ cls := "BoostForests$Table", name := "<init>", desc := "()V" } : Jvm.MethodName)) ∈ gw_tbl := List.mem_filter.mpr ⟨kt_1 _ (List.mem_of_getElem? (i := 23) rfl), rfl⟩
theorem kw_1_24 : (Jvm.Cond.code ({ cls := "BoostForests$Table", name := "<init>", desc := "()V" } : Jvm.MethodName) prog_5_method_1_code (1 : Nat) (Option.none : Option Jvm.ClassFile.FieldType)) ∈ gw_tbl := List.mem_filter.mpr ⟨kt_1 _ (List.mem_of_getElem? (i := 24) rfl), rfl⟩
theorem kw_1_25 : (Jvm.Cond.methodLink "BoostForests$Table" (3 : Nat) ({ cls := "java/lang/Object", name := "<init>", desc := "()V" } : Jvm.MethodName)) ∈ gw_tbl := List.mem_filter.mpr ⟨kt_1 _ (List.mem_of_getElem? (i := 25) rfl), rfl⟩
theorem kw_1_26 : (Jvm.Cond.classLink "BoostForests$Table" (9 : Nat) "[[I") ∈ gw_tbl := List.mem_filter.mpr ⟨kt_1 _ (List.mem_of_getElem? (i := 26) rfl), rfl⟩
theorem kl_1_27 : (Jvm.Cond.arrayOver (Jvm.ClassFile.FieldType.array Jvm.ClassFile.FieldType.int)) ∈ lw_tbl := kt_1 _ (List.mem_of_getElem? (i := 27) rfl)
theorem kw_1_28 : (Jvm.Cond.fieldLink "BoostForests$Table" (11 : Nat) "BoostForests$Table" "cells" "[[I") ∈ gw_tbl := List.mem_filter.mpr ⟨kt_1 _ (List.mem_of_getElem? (i := 28) rfl), rfl⟩
theorem kw_1_31 : (Jvm.Cond.fieldLink "BoostForests$Table" (16 : Nat) "BoostForests$Table" "aims" "[I") ∈ gw_tbl := List.mem_filter.mpr ⟨kt_1 _ (List.mem_of_getElem? (i := 31) rfl), rfl⟩
theorem kw_1_34 : (Jvm.Cond.fieldLink "BoostForests$Table" (20 : Nat) "BoostForests$Table" "weights" "[I") ∈ gw_tbl := List.mem_filter.mpr ⟨kt_1 _ (List.mem_of_getElem? (i := 34) rfl), rfl⟩
theorem kw_1_37 : (Jvm.Cond.fieldLink "BoostForests$Table" (23 : Nat) "BoostForests$Table" "held" "[Z") ∈ gw_tbl := List.mem_filter.mpr ⟨kt_1 _ (List.mem_of_getElem? (i := 37) rfl), rfl⟩
theorem kw_1_56 : (Jvm.Cond.arrayClass Jvm.ClassFile.FieldType.int) ∈ gw_tbl := List.mem_filter.mpr ⟨kt_1 _ (List.mem_of_getElem? (i := 56) rfl), rfl⟩
theorem kw_1_57 : (Jvm.Cond.arrayClass Jvm.ClassFile.FieldType.boolean) ∈ gw_tbl := List.mem_filter.mpr ⟨kt_1 _ (List.mem_of_getElem? (i := 57) rfl), rfl⟩
theorem kw_1_58 : (Jvm.Cond.fieldLink "BoostForests" (16 : Nat) "BoostForests" "AT_FIRST" "[I") ∈ gw_tbl := List.mem_filter.mpr ⟨kt_1 _ (List.mem_of_getElem? (i := 58) rfl), rfl⟩
theorem kl_1_59 : (Jvm.Cond.laysStatic "BoostForests" "AT_FIRST" "[I") ∈ lw_tbl := kt_1 _ (List.mem_of_getElem? (i := 59) rfl)
theorem kw_1_60 : (Jvm.Cond.methodLink "BoostForests" (20 : Nat) ({ cls := "[I", name := "clone", desc := "()Ljava/lang/Object;" } : Jvm.MethodName)) ∈ gw_tbl := List.mem_filter.mpr ⟨kt_1 _ (List.mem_of_getElem? (i := 60) rfl), rfl⟩
theorem kl_1_61 : (Jvm.Cond.sameMethod "[I" "java/lang/Object" "clone" "()Ljava/lang/Object;") ∈ lw_tbl := kt_1 _ (List.mem_of_getElem? (i := 61) rfl)
theorem kw_1_62 : (Jvm.Cond.native ({ cls := "java/lang/Object", name := "clone", desc := "()Ljava/lang/Object;" } : Jvm.MethodName)) ∈ gw_tbl := List.mem_filter.mpr ⟨kt_1 _ (List.mem_of_getElem? (i := 62) rfl), rfl⟩
theorem kw_1_63 : (Jvm.Cond.instanceMethod ({ cls := "java/lang/Object", name := "clone", desc := "()Ljava/lang/Object;" } : Jvm.MethodName)) ∈ gw_tbl := List.mem_filter.mpr ⟨kt_1 _ (List.mem_of_getElem? (i := 63) rfl), rfl⟩
theorem kw_1_66 : (Jvm.Cond.classLink "BoostForests" (21 : Nat) "[I") ∈ gw_tbl := List.mem_filter.mpr ⟨kt_1 _ (List.mem_of_getElem? (i := 66) rfl), rfl⟩
theorem kw_1_67 : (Jvm.Cond.classLink "BoostForests" (28 : Nat) "BoostForests$Training") ∈ gw_tbl := List.mem_filter.mpr ⟨kt_1 _ (List.mem_of_getElem? (i := 67) rfl), rfl⟩
theorem kw_1_68 : (Jvm.Cond.instantiable "BoostForests$Training" (10 : Nat)) ∈ gw_tbl := List.mem_filter.mpr ⟨kt_1 _ (List.mem_of_getElem? (i := 68) rfl), rfl⟩
theorem kw_1_69 : (Jvm.Cond.methodLink "BoostForests" (30 : Nat) ({ cls := "BoostForests$Training", name := "<init>", desc := "()V" } : Jvm.MethodName)) ∈ gw_tbl := List.mem_filter.mpr ⟨kt_1 _ (List.mem_of_getElem? (i := 69) rfl), rfl⟩
theorem kw_1_70 : (Jvm.Cond.instanceMethod ({ cls := "BoostForests$Training", name := "<init>", desc := "()V" } : Jvm.MethodName)) ∈ gw_tbl := List.mem_filter.mpr ⟨kt_1 _ (List.mem_of_getElem? (i := 70) rfl), rfl⟩
theorem kw_1_71 : (Jvm.Cond.code ({ cls := "BoostForests$Training", name := "<init>", desc := "()V" } : Jvm.MethodName) prog_6_method_1_code (2 : Nat) (Option.none : Option Jvm.ClassFile.FieldType)) ∈ gw_tbl := List.mem_filter.mpr ⟨kt_1 _ (List.mem_of_getElem? (i := 71) rfl), rfl⟩
theorem kw_1_72 : (Jvm.Cond.methodLink "BoostForests$Training" (3 : Nat) ({ cls := "java/lang/Object", name := "<init>", desc := "()V" } : Jvm.MethodName)) ∈ gw_tbl := List.mem_filter.mpr ⟨kt_1 _ (List.mem_of_getElem? (i := 72) rfl), rfl⟩
theorem kw_1_73 : (Jvm.Cond.classLink "BoostForests$Training" (9 : Nat) "BoostForests$Grower") ∈ gw_tbl := List.mem_filter.mpr ⟨kt_1 _ (List.mem_of_getElem? (i := 73) rfl), rfl⟩
theorem kw_1_74 : (Jvm.Cond.instantiable "BoostForests$Grower" (12 : Nat)) ∈ gw_tbl := List.mem_filter.mpr ⟨kt_1 _ (List.mem_of_getElem? (i := 74) rfl), rfl⟩
theorem kl_1_75 : (Jvm.Cond.methodLinkNest "BoostForests$Training" (11 : Nat) ({ cls := "BoostForests$Grower", name := "<init>", desc := "()V" } : Jvm.MethodName) "BoostForests") ∈ lw_tbl := kt_1 _ (List.mem_of_getElem? (i := 75) rfl)
theorem kw_1_76 : (Jvm.Cond.instanceMethod ({ cls := "BoostForests$Grower", name := "<init>", desc := "()V" } : Jvm.MethodName)) ∈ gw_tbl := List.mem_filter.mpr ⟨kt_1 _ (List.mem_of_getElem? (i := 76) rfl), rfl⟩
theorem kw_1_77 : (Jvm.Cond.code ({ cls := "BoostForests$Grower", name := "<init>", desc := "()V" } : Jvm.MethodName) prog_2_method_1_code (1 : Nat) (Option.none : Option Jvm.ClassFile.FieldType)) ∈ gw_tbl := List.mem_filter.mpr ⟨kt_1 _ (List.mem_of_getElem? (i := 77) rfl), rfl⟩
theorem kw_1_78 : (Jvm.Cond.methodLink "BoostForests$Grower" (3 : Nat) ({ cls := "java/lang/Object", name := "<init>", desc := "()V" } : Jvm.MethodName)) ∈ gw_tbl := List.mem_filter.mpr ⟨kt_1 _ (List.mem_of_getElem? (i := 78) rfl), rfl⟩
theorem kw_1_79 : (Jvm.Cond.classLink "BoostForests$Grower" (9 : Nat) "BoostForests$Table") ∈ gw_tbl := List.mem_filter.mpr ⟨kt_1 _ (List.mem_of_getElem? (i := 79) rfl), rfl⟩
theorem kl_1_80 : (Jvm.Cond.methodLinkNest "BoostForests$Grower" (11 : Nat) ({ cls := "BoostForests$Table", name := "<init>", desc := "()V" } : Jvm.MethodName) "BoostForests") ∈ lw_tbl := kt_1 _ (List.mem_of_getElem? (i := 80) rfl)
theorem kw_1_81 : (Jvm.Cond.classLink "BoostForests$Grower" (22 : Nat) "[[I") ∈ gw_tbl := List.mem_filter.mpr ⟨kt_1 _ (List.mem_of_getElem? (i := 81) rfl), rfl⟩
theorem kw_1_82 : (Jvm.Cond.classLink "BoostForests$Grower" (34 : Nat) "BoostForests$Sums") ∈ gw_tbl := List.mem_filter.mpr ⟨kt_1 _ (List.mem_of_getElem? (i := 82) rfl), rfl⟩
theorem kw_1_83 : (Jvm.Cond.instantiable "BoostForests$Sums" (3 : Nat)) ∈ gw_tbl := List.mem_filter.mpr ⟨kt_1 _ (List.mem_of_getElem? (i := 83) rfl), rfl⟩
theorem kl_1_84 : (Jvm.Cond.methodLinkNest "BoostForests$Grower" (36 : Nat) ({ cls := "BoostForests$Sums", name := "<init>", desc := "()V" } : Jvm.MethodName) "BoostForests") ∈ lw_tbl := kt_1 _ (List.mem_of_getElem? (i := 84) rfl)
theorem kw_1_85 : (Jvm.Cond.instanceMethod ({ cls := "BoostForests$Sums", name := "<init>", desc := "()V" } : Jvm.MethodName)) ∈ gw_tbl := List.mem_filter.mpr ⟨kt_1 _ (List.mem_of_getElem? (i := 85) rfl), rfl⟩
theorem kw_1_86 : (Jvm.Cond.code ({ cls := "BoostForests$Sums", name := "<init>", desc := "()V" } : Jvm.MethodName) prog_4_method_1_code (1 : Nat) (Option.none : Option Jvm.ClassFile.FieldType)) ∈ gw_tbl := List.mem_filter.mpr ⟨kt_1 _ (List.mem_of_getElem? (i := 86) rfl), rfl⟩
theorem kw_1_87 : (Jvm.Cond.methodLink "BoostForests$Sums" (1 : Nat) ({ cls := "java/lang/Object", name := "<init>", desc := "()V" } : Jvm.MethodName)) ∈ gw_tbl := List.mem_filter.mpr ⟨kt_1 _ (List.mem_of_getElem? (i := 87) rfl), rfl⟩
theorem kw_1_102 : (Jvm.Cond.arrayClass Jvm.ClassFile.FieldType.long) ∈ gw_tbl := List.mem_filter.mpr ⟨kt_1 _ (List.mem_of_getElem? (i := 102) rfl), rfl⟩
theorem kw_1_103 : (Jvm.Cond.classLink "BoostForests$Grower" (56 : Nat) "BoostForests$Split") ∈ gw_tbl := List.mem_filter.mpr ⟨kt_1 _ (List.mem_of_getElem? (i := 103) rfl), rfl⟩
theorem kw_1_104 : (Jvm.Cond.instantiable "BoostForests$Split" (4 : Nat)) ∈ gw_tbl := List.mem_filter.mpr ⟨kt_1 _ (List.mem_of_getElem? (i := 104) rfl), rfl⟩
theorem kl_1_105 : (Jvm.Cond.methodLinkNest "BoostForests$Grower" (58 : Nat) ({ cls := "BoostForests$Split", name := "<init>", desc := "()V" } : Jvm.MethodName) "BoostForests") ∈ lw_tbl := kt_1 _ (List.mem_of_getElem? (i := 105) rfl)
theorem kw_1_106 : (Jvm.Cond.instanceMethod ({ cls := "BoostForests$Split", name := "<init>", desc := "()V" } : Jvm.MethodName)) ∈ gw_tbl := List.mem_filter.mpr ⟨kt_1 _ (List.mem_of_getElem? (i := 106) rfl), rfl⟩
theorem kw_1_107 : (Jvm.Cond.code ({ cls := "BoostForests$Split", name := "<init>", desc := "()V" } : Jvm.MethodName) prog_3_method_1_code (1 : Nat) (Option.none : Option Jvm.ClassFile.FieldType)) ∈ gw_tbl := List.mem_filter.mpr ⟨kt_1 _ (List.mem_of_getElem? (i := 107) rfl), rfl⟩
theorem kw_1_108 : (Jvm.Cond.methodLink "BoostForests$Split" (3 : Nat) ({ cls := "java/lang/Object", name := "<init>", desc := "()V" } : Jvm.MethodName)) ∈ gw_tbl := List.mem_filter.mpr ⟨kt_1 _ (List.mem_of_getElem? (i := 108) rfl), rfl⟩
theorem kw_1_128 : (Jvm.Cond.fieldLink "BoostForests$Grower" (12 : Nat) "BoostForests$Grower" "rows" "LBoostForests$Table;") ∈ gw_tbl := List.mem_filter.mpr ⟨kt_1 _ (List.mem_of_getElem? (i := 128) rfl), rfl⟩
theorem kw_1_129 : (Jvm.Cond.fieldLink "BoostForests$Training" (18 : Nat) "BoostForests$Grower" "rows" "LBoostForests$Table;") ∈ gw_tbl := List.mem_filter.mpr ⟨kt_1 _ (List.mem_of_getElem? (i := 129) rfl), rfl⟩
theorem kw_1_130 : (Jvm.Cond.fieldLink "BoostForests$Grower" (18 : Nat) "BoostForests$Grower" "chosen" "[I") ∈ gw_tbl := List.mem_filter.mpr ⟨kt_1 _ (List.mem_of_getElem? (i := 130) rfl), rfl⟩
theorem kw_1_131 : (Jvm.Cond.fieldLink "BoostForests$Training" (23 : Nat) "BoostForests$Grower" "chosen" "[I") ∈ gw_tbl := List.mem_filter.mpr ⟨kt_1 _ (List.mem_of_getElem? (i := 131) rfl), rfl⟩
theorem kw_1_132 : (Jvm.Cond.fieldLink "BoostForests$Grower" (24 : Nat) "BoostForests$Grower" "order" "[[I") ∈ gw_tbl := List.mem_filter.mpr ⟨kt_1 _ (List.mem_of_getElem? (i := 132) rfl), rfl⟩
theorem kw_1_133 : (Jvm.Cond.fieldLink "BoostForests$Grower" (27 : Nat) "BoostForests$Grower" "nodeOf" "[I") ∈ gw_tbl := List.mem_filter.mpr ⟨kt_1 _ (List.mem_of_getElem? (i := 133) rfl), rfl⟩
theorem kw_1_134 : (Jvm.Cond.fieldLink "BoostForests$Grower" (30 : Nat) "BoostForests$Grower" "slopes" "[J") ∈ gw_tbl := List.mem_filter.mpr ⟨kt_1 _ (List.mem_of_getElem? (i := 134) rfl), rfl⟩
theorem kw_1_135 : (Jvm.Cond.fieldLink "BoostForests$Grower" (37 : Nat) "BoostForests$Grower" "whole" "LBoostForests$Sums;") ∈ gw_tbl := List.mem_filter.mpr ⟨kt_1 _ (List.mem_of_getElem? (i := 135) rfl), rfl⟩
theorem kw_1_136 : (Jvm.Cond.fieldLink "BoostForests$Grower" (41 : Nat) "BoostForests$Grower" "missing" "LBoostForests$Sums;") ∈ gw_tbl := List.mem_filter.mpr ⟨kt_1 _ (List.mem_of_getElem? (i := 136) rfl), rfl⟩
theorem kw_1_137 : (Jvm.Cond.fieldLink "BoostForests$Grower" (44 : Nat) "BoostForests$Grower" "below" "LBoostForests$Sums;") ∈ gw_tbl := List.mem_filter.mpr ⟨kt_1 _ (List.mem_of_getElem? (i := 137) rfl), rfl⟩
theorem kw_1_138 : (Jvm.Cond.fieldLink "BoostForests$Grower" (47 : Nat) "BoostForests$Grower" "low" "LBoostForests$Sums;") ∈ gw_tbl := List.mem_filter.mpr ⟨kt_1 _ (List.mem_of_getElem? (i := 138) rfl), rfl⟩
theorem kw_1_139 : (Jvm.Cond.fieldLink "BoostForests$Grower" (50 : Nat) "BoostForests$Grower" "high" "LBoostForests$Sums;") ∈ gw_tbl := List.mem_filter.mpr ⟨kt_1 _ (List.mem_of_getElem? (i := 139) rfl), rfl⟩
theorem kw_1_140 : (Jvm.Cond.fieldLink "BoostForests$Grower" (53 : Nat) "BoostForests$Grower" "nothing" "LBoostForests$Sums;") ∈ gw_tbl := List.mem_filter.mpr ⟨kt_1 _ (List.mem_of_getElem? (i := 140) rfl), rfl⟩
theorem kw_1_141 : (Jvm.Cond.fieldLink "BoostForests$Grower" (59 : Nat) "BoostForests$Grower" "split" "LBoostForests$Split;") ∈ gw_tbl := List.mem_filter.mpr ⟨kt_1 _ (List.mem_of_getElem? (i := 141) rfl), rfl⟩
theorem kw_1_167 : (Jvm.Cond.classLink "BoostForests$Training" (28 : Nat) "BoostForests$Tree") ∈ gw_tbl := List.mem_filter.mpr ⟨kt_1 _ (List.mem_of_getElem? (i := 167) rfl), rfl⟩
theorem kl_1_168 : (Jvm.Cond.arrayOver (Jvm.ClassFile.FieldType.object "BoostForests$Tree")) ∈ lw_tbl := kt_1 _ (List.mem_of_getElem? (i := 168) rfl)
theorem kw_1_169 : (Jvm.Cond.classLink "BoostForests$Training" (41 : Nat) "[[J") ∈ gw_tbl := List.mem_filter.mpr ⟨kt_1 _ (List.mem_of_getElem? (i := 169) rfl), rfl⟩
theorem kl_1_170 : (Jvm.Cond.arrayOver (Jvm.ClassFile.FieldType.array Jvm.ClassFile.FieldType.long)) ∈ lw_tbl := kt_1 _ (List.mem_of_getElem? (i := 170) rfl)
theorem kw_1_171 : (Jvm.Cond.instantiable "BoostForests$Tree" (3 : Nat)) ∈ gw_tbl := List.mem_filter.mpr ⟨kt_1 _ (List.mem_of_getElem? (i := 171) rfl), rfl⟩
theorem kl_1_172 : (Jvm.Cond.methodLinkNest "BoostForests$Training" (49 : Nat) ({ cls := "BoostForests$Tree", name := "<init>", desc := "()V" } : Jvm.MethodName) "BoostForests") ∈ lw_tbl := kt_1 _ (List.mem_of_getElem? (i := 172) rfl)
theorem kw_1_173 : (Jvm.Cond.instanceMethod ({ cls := "BoostForests$Tree", name := "<init>", desc := "()V" } : Jvm.MethodName)) ∈ gw_tbl := List.mem_filter.mpr ⟨kt_1 _ (List.mem_of_getElem? (i := 173) rfl), rfl⟩
theorem kw_1_174 : (Jvm.Cond.code ({ cls := "BoostForests$Tree", name := "<init>", desc := "()V" } : Jvm.MethodName) prog_7_method_1_code (1 : Nat) (Option.none : Option Jvm.ClassFile.FieldType)) ∈ gw_tbl := List.mem_filter.mpr ⟨kt_1 _ (List.mem_of_getElem? (i := 174) rfl), rfl⟩
theorem kw_1_175 : (Jvm.Cond.methodLink "BoostForests$Tree" (3 : Nat) ({ cls := "java/lang/Object", name := "<init>", desc := "()V" } : Jvm.MethodName)) ∈ gw_tbl := List.mem_filter.mpr ⟨kt_1 _ (List.mem_of_getElem? (i := 175) rfl), rfl⟩
theorem kw_1_176 : (Jvm.Cond.classLink "BoostForests$Tree" (9 : Nat) "[[I") ∈ gw_tbl := List.mem_filter.mpr ⟨kt_1 _ (List.mem_of_getElem? (i := 176) rfl), rfl⟩
theorem kw_1_177 : (Jvm.Cond.classLink "BoostForests$Tree" (16 : Nat) "[[J") ∈ gw_tbl := List.mem_filter.mpr ⟨kt_1 _ (List.mem_of_getElem? (i := 177) rfl), rfl⟩
theorem kw_1_178 : (Jvm.Cond.fieldLink "BoostForests$Tree" (11 : Nat) "BoostForests$Tree" "facts" "[[I") ∈ gw_tbl := List.mem_filter.mpr ⟨kt_1 _ (List.mem_of_getElem? (i := 178) rfl), rfl⟩
theorem kw_1_181 : (Jvm.Cond.fieldLink "BoostForests$Tree" (18 : Nat) "BoostForests$Tree" "sums" "[[J") ∈ gw_tbl := List.mem_filter.mpr ⟨kt_1 _ (List.mem_of_getElem? (i := 181) rfl), rfl⟩
theorem kw_1_195 : (Jvm.Cond.fieldLink "BoostForests$Training" (12 : Nat) "BoostForests$Training" "grower" "LBoostForests$Grower;") ∈ gw_tbl := List.mem_filter.mpr ⟨kt_1 _ (List.mem_of_getElem? (i := 195) rfl), rfl⟩
theorem kw_1_196 : (Jvm.Cond.fieldLink "BoostForests$Training" (22 : Nat) "BoostForests$Training" "rows" "LBoostForests$Table;") ∈ gw_tbl := List.mem_filter.mpr ⟨kt_1 _ (List.mem_of_getElem? (i := 196) rfl), rfl⟩
theorem kw_1_198 : (Jvm.Cond.fieldLink "BoostForests$Training" (27 : Nat) "BoostForests$Training" "chosen" "[I") ∈ gw_tbl := List.mem_filter.mpr ⟨kt_1 _ (List.mem_of_getElem? (i := 198) rfl), rfl⟩
theorem kw_1_199 : (Jvm.Cond.fieldLink "BoostForests$Training" (30 : Nat) "BoostForests$Training" "trees" "[LBoostForests$Tree;") ∈ gw_tbl := List.mem_filter.mpr ⟨kt_1 _ (List.mem_of_getElem? (i := 199) rfl), rfl⟩
theorem kw_1_201 : (Jvm.Cond.fieldLink "BoostForests$Training" (34 : Nat) "BoostForests$Training" "f" "[J") ∈ gw_tbl := List.mem_filter.mpr ⟨kt_1 _ (List.mem_of_getElem? (i := 201) rfl), rfl⟩
theorem kw_1_202 : (Jvm.Cond.fieldLink "BoostForests$Training" (38 : Nat) "BoostForests$Training" "tookPart" "[I") ∈ gw_tbl := List.mem_filter.mpr ⟨kt_1 _ (List.mem_of_getElem? (i := 202) rfl), rfl⟩
theorem kw_1_204 : (Jvm.Cond.fieldLink "BoostForests$Training" (43 : Nat) "BoostForests$Training" "losses" "[[J") ∈ gw_tbl := List.mem_filter.mpr ⟨kt_1 _ (List.mem_of_getElem? (i := 204) rfl), rfl⟩
theorem kw_1_206 : (Jvm.Cond.fieldLink "BoostForests$Training" (46 : Nat) "BoostForests$Training" "tells" "[J") ∈ gw_tbl := List.mem_filter.mpr ⟨kt_1 _ (List.mem_of_getElem? (i := 206) rfl), rfl⟩
theorem kw_1_232 : (Jvm.Cond.fieldLink "BoostForests" (10 : Nat) "BoostForests" "table" "LBoostForests$Table;") ∈ gw_tbl := List.mem_filter.mpr ⟨kt_1 _ (List.mem_of_getElem? (i := 232) rfl), rfl⟩
theorem kw_1_233 : (Jvm.Cond.fieldLink "BoostForests" (25 : Nat) "BoostForests" "settings" "[I") ∈ gw_tbl := List.mem_filter.mpr ⟨kt_1 _ (List.mem_of_getElem? (i := 233) rfl), rfl⟩
theorem kw_1_234 : (Jvm.Cond.fieldLink "BoostForests" (31 : Nat) "BoostForests" "training" "LBoostForests$Training;") ∈ gw_tbl := List.mem_filter.mpr ⟨kt_1 _ (List.mem_of_getElem? (i := 234) rfl), rfl⟩
theorem kw_1_235 : (Jvm.Cond.fieldLink "BoostForests" (35 : Nat) "BoostForests" "asked" "[I") ∈ gw_tbl := List.mem_filter.mpr ⟨kt_1 _ (List.mem_of_getElem? (i := 235) rfl), rfl⟩
theorem kw_3_65 : (Jvm.Cond.classLink "BoostForestsLaw" (10 : Nat) "BoostForestsModel") ∈ gw_tbl := List.mem_filter.mpr ⟨kt_3 _ (List.mem_of_getElem? (i := 65) rfl), rfl⟩
theorem kw_3_66 : (Jvm.Cond.instantiable "BoostForestsModel" (32 : Nat)) ∈ gw_tbl := List.mem_filter.mpr ⟨kt_3 _ (List.mem_of_getElem? (i := 66) rfl), rfl⟩
theorem kw_3_67 : (Jvm.Cond.methodLink "BoostForestsLaw" (12 : Nat) ({ cls := "BoostForestsModel", name := "<init>", desc := "()V" } : Jvm.MethodName)) ∈ gw_tbl := List.mem_filter.mpr ⟨kt_3 _ (List.mem_of_getElem? (i := 67) rfl), rfl⟩
theorem kw_3_68 : (Jvm.Cond.instanceMethod ({ cls := "BoostForestsModel", name := "<init>", desc := "()V" } : Jvm.MethodName)) ∈ gw_tbl := List.mem_filter.mpr ⟨kt_3 _ (List.mem_of_getElem? (i := 68) rfl), rfl⟩
theorem kw_3_69 : (Jvm.Cond.code ({ cls := "BoostForestsModel", name := "<init>", desc := "()V" } : Jvm.MethodName) prog_9_method_1_code (1 : Nat) (Option.none : Option Jvm.ClassFile.FieldType)) ∈ gw_tbl := List.mem_filter.mpr ⟨kt_3 _ (List.mem_of_getElem? (i := 69) rfl), rfl⟩
theorem kw_3_70 : (Jvm.Cond.methodLink "BoostForestsModel" (1 : Nat) ({ cls := "java/lang/Object", name := "<init>", desc := "()V" } : Jvm.MethodName)) ∈ gw_tbl := List.mem_filter.mpr ⟨kt_3 _ (List.mem_of_getElem? (i := 70) rfl), rfl⟩
theorem kw_3_72 : (Jvm.Cond.fieldLink "BoostForestsModel" (7 : Nat) "BoostForestsModel" "columns" "[I") ∈ gw_tbl := List.mem_filter.mpr ⟨kt_3 _ (List.mem_of_getElem? (i := 72) rfl), rfl⟩
theorem kw_3_73 : (Jvm.Cond.fieldLink "BoostForestsModel" (13 : Nat) "BoostForestsModel" "aims" "[I") ∈ gw_tbl := List.mem_filter.mpr ⟨kt_3 _ (List.mem_of_getElem? (i := 73) rfl), rfl⟩
theorem kw_3_74 : (Jvm.Cond.fieldLink "BoostForestsModel" (16 : Nat) "BoostForestsModel" "weights" "[I") ∈ gw_tbl := List.mem_filter.mpr ⟨kt_3 _ (List.mem_of_getElem? (i := 74) rfl), rfl⟩
theorem kw_3_75 : (Jvm.Cond.fieldLink "BoostForestsModel" (19 : Nat) "BoostForestsModel" "held" "[Z") ∈ gw_tbl := List.mem_filter.mpr ⟨kt_3 _ (List.mem_of_getElem? (i := 75) rfl), rfl⟩
theorem kw_3_76 : (Jvm.Cond.fieldLink "BoostForestsModel" (23 : Nat) "BoostForestsModel" "settings" "[I") ∈ gw_tbl := List.mem_filter.mpr ⟨kt_3 _ (List.mem_of_getElem? (i := 76) rfl), rfl⟩
theorem kw_3_79 : (Jvm.Cond.fieldLink "BoostForestsModel" (26 : Nat) "BoostForestsModel" "cols" "[I") ∈ gw_tbl := List.mem_filter.mpr ⟨kt_3 _ (List.mem_of_getElem? (i := 79) rfl), rfl⟩
theorem kw_3_80 : (Jvm.Cond.fieldLink "BoostForestsModel" (29 : Nat) "BoostForestsModel" "ys" "[I") ∈ gw_tbl := List.mem_filter.mpr ⟨kt_3 _ (List.mem_of_getElem? (i := 80) rfl), rfl⟩
theorem kw_3_81 : (Jvm.Cond.fieldLink "BoostForestsModel" (32 : Nat) "BoostForestsModel" "ws" "[I") ∈ gw_tbl := List.mem_filter.mpr ⟨kt_3 _ (List.mem_of_getElem? (i := 81) rfl), rfl⟩
theorem kw_3_82 : (Jvm.Cond.fieldLink "BoostForestsModel" (35 : Nat) "BoostForestsModel" "isHeld" "[Z") ∈ gw_tbl := List.mem_filter.mpr ⟨kt_3 _ (List.mem_of_getElem? (i := 82) rfl), rfl⟩
theorem kw_3_83 : (Jvm.Cond.fieldLink "BoostForestsModel" (38 : Nat) "BoostForestsModel" "then" "[I") ∈ gw_tbl := List.mem_filter.mpr ⟨kt_3 _ (List.mem_of_getElem? (i := 83) rfl), rfl⟩
theorem kw_3_84 : (Jvm.Cond.fieldLink "BoostForestsModel" (41 : Nat) "BoostForestsModel" "now" "[J") ∈ gw_tbl := List.mem_filter.mpr ⟨kt_3 _ (List.mem_of_getElem? (i := 84) rfl), rfl⟩
theorem kw_3_86 : (Jvm.Cond.fieldLink "BoostForestsModel" (45 : Nat) "BoostForestsModel" "losses" "[J") ∈ gw_tbl := List.mem_filter.mpr ⟨kt_3 _ (List.mem_of_getElem? (i := 86) rfl), rfl⟩
theorem kw_3_87 : (Jvm.Cond.fieldLink "BoostForestsModel" (48 : Nat) "BoostForestsModel" "takesPart" "[Z") ∈ gw_tbl := List.mem_filter.mpr ⟨kt_3 _ (List.mem_of_getElem? (i := 87) rfl), rfl⟩
theorem kw_3_88 : (Jvm.Cond.fieldLink "BoostForestsModel" (51 : Nat) "BoostForestsModel" "sizes" "[I") ∈ gw_tbl := List.mem_filter.mpr ⟨kt_3 _ (List.mem_of_getElem? (i := 88) rfl), rfl⟩
theorem kw_3_89 : (Jvm.Cond.fieldLink "BoostForestsModel" (54 : Nat) "BoostForestsModel" "nodeColumns" "[I") ∈ gw_tbl := List.mem_filter.mpr ⟨kt_3 _ (List.mem_of_getElem? (i := 89) rfl), rfl⟩
theorem kw_3_90 : (Jvm.Cond.fieldLink "BoostForestsModel" (57 : Nat) "BoostForestsModel" "nodeCuts" "[I") ∈ gw_tbl := List.mem_filter.mpr ⟨kt_3 _ (List.mem_of_getElem? (i := 90) rfl), rfl⟩
theorem kw_3_91 : (Jvm.Cond.fieldLink "BoostForestsModel" (60 : Nat) "BoostForestsModel" "nodeSides" "[I") ∈ gw_tbl := List.mem_filter.mpr ⟨kt_3 _ (List.mem_of_getElem? (i := 91) rfl), rfl⟩
theorem kw_3_92 : (Jvm.Cond.fieldLink "BoostForestsModel" (63 : Nat) "BoostForestsModel" "nodeLefts" "[I") ∈ gw_tbl := List.mem_filter.mpr ⟨kt_3 _ (List.mem_of_getElem? (i := 92) rfl), rfl⟩
theorem kw_3_93 : (Jvm.Cond.fieldLink "BoostForestsModel" (66 : Nat) "BoostForestsModel" "nodeRows" "[I") ∈ gw_tbl := List.mem_filter.mpr ⟨kt_3 _ (List.mem_of_getElem? (i := 93) rfl), rfl⟩
theorem kw_3_94 : (Jvm.Cond.fieldLink "BoostForestsModel" (69 : Nat) "BoostForestsModel" "nodeWeights" "[I") ∈ gw_tbl := List.mem_filter.mpr ⟨kt_3 _ (List.mem_of_getElem? (i := 94) rfl), rfl⟩
theorem kw_3_95 : (Jvm.Cond.fieldLink "BoostForestsModel" (72 : Nat) "BoostForestsModel" "nodeDepths" "[I") ∈ gw_tbl := List.mem_filter.mpr ⟨kt_3 _ (List.mem_of_getElem? (i := 95) rfl), rfl⟩
theorem kw_3_96 : (Jvm.Cond.fieldLink "BoostForestsModel" (75 : Nat) "BoostForestsModel" "nodeSlopes" "[J") ∈ gw_tbl := List.mem_filter.mpr ⟨kt_3 _ (List.mem_of_getElem? (i := 96) rfl), rfl⟩
theorem kw_3_97 : (Jvm.Cond.fieldLink "BoostForestsModel" (78 : Nat) "BoostForestsModel" "nodeGains" "[J") ∈ gw_tbl := List.mem_filter.mpr ⟨kt_3 _ (List.mem_of_getElem? (i := 97) rfl), rfl⟩
theorem kw_3_98 : (Jvm.Cond.fieldLink "BoostForestsModel" (81 : Nat) "BoostForestsModel" "nodeOf" "[I") ∈ gw_tbl := List.mem_filter.mpr ⟨kt_3 _ (List.mem_of_getElem? (i := 98) rfl), rfl⟩
theorem kw_3_99 : (Jvm.Cond.fieldLink "BoostForestsModel" (84 : Nat) "BoostForestsModel" "tells" "[J") ∈ gw_tbl := List.mem_filter.mpr ⟨kt_3 _ (List.mem_of_getElem? (i := 99) rfl), rfl⟩

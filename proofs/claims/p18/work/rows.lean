section
def lw_okq (q : MethodName × Nat) : Prop := (q.1.cls ≠ "java/lang/invoke/MethodHandle" ∧ q.1.cls ≠ "java/lang/invoke/VarHandle") ∧ Cond.instantiable q.1.cls q.2 ∈ tables_1 ∧ Cond.privateMethod q.1 ∈ tables_1 ∧ Cond.instanceMethod q.1 ∈ tables_1
theorem lw_p0 : lw_okq (⟨"BoostForests", "keepAsked", "(IIII)V"⟩, 4) := ⟨⟨by decide +kernel, by decide +kernel⟩, List.mem_of_getElem? (i := 13) (by decide +kernel), List.mem_of_getElem? (i := 256) (by decide +kernel), List.mem_of_getElem? (i := 257) (by decide +kernel)⟩
theorem lw_p1 : lw_okq (⟨"BoostForests$Training", "begin", "()V"⟩, 10) := ⟨⟨by decide +kernel, by decide +kernel⟩, List.mem_of_getElem? (i := 68) (by decide +kernel), List.mem_of_getElem? (i := 304) (by decide +kernel), List.mem_of_getElem? (i := 305) (by decide +kernel)⟩
theorem lw_p2 : lw_okq (⟨"BoostForests$Training", "baseUnits", "()J"⟩, 10) := ⟨⟨by decide +kernel, by decide +kernel⟩, List.mem_of_getElem? (i := 68) (by decide +kernel), List.mem_of_getElem? (i := 308) (by decide +kernel), List.mem_of_getElem? (i := 309) (by decide +kernel)⟩
theorem lw_p3 : lw_okq (⟨"BoostForests$Training", "keepLosses", "()V"⟩, 10) := ⟨⟨by decide +kernel, by decide +kernel⟩, List.mem_of_getElem? (i := 68) (by decide +kernel), List.mem_of_getElem? (i := 313) (by decide +kernel), List.mem_of_getElem? (i := 314) (by decide +kernel)⟩
theorem lw_p4 : lw_okq (⟨"BoostForests$Grower", "drawRows", "(I[J)V"⟩, 12) := ⟨⟨by decide +kernel, by decide +kernel⟩, List.mem_of_getElem? (i := 74) (by decide +kernel), List.mem_of_getElem? (i := 326) (by decide +kernel), List.mem_of_getElem? (i := 327) (by decide +kernel)⟩
theorem lw_p5 : lw_okq (⟨"BoostForests$Grower", "drawn", "(I)I"⟩, 12) := ⟨⟨by decide +kernel, by decide +kernel⟩, List.mem_of_getElem? (i := 74) (by decide +kernel), List.mem_of_getElem? (i := 330) (by decide +kernel), List.mem_of_getElem? (i := 331) (by decide +kernel)⟩
theorem lw_p6 : lw_okq (⟨"BoostForests$Grower", "gatherNode", "(I)V"⟩, 12) := ⟨⟨by decide +kernel, by decide +kernel⟩, List.mem_of_getElem? (i := 74) (by decide +kernel), List.mem_of_getElem? (i := 341) (by decide +kernel), List.mem_of_getElem? (i := 342) (by decide +kernel)⟩
theorem lw_p7 : lw_okq (⟨"BoostForests$Grower", "findSplit", "(II)V"⟩, 12) := ⟨⟨by decide +kernel, by decide +kernel⟩, List.mem_of_getElem? (i := 74) (by decide +kernel), List.mem_of_getElem? (i := 365) (by decide +kernel), List.mem_of_getElem? (i := 366) (by decide +kernel)⟩
theorem lw_p8 : lw_okq (⟨"BoostForests$Grower", "tryColumn", "(II)V"⟩, 12) := ⟨⟨by decide +kernel, by decide +kernel⟩, List.mem_of_getElem? (i := 74) (by decide +kernel), List.mem_of_getElem? (i := 378) (by decide +kernel), List.mem_of_getElem? (i := 379) (by decide +kernel)⟩
theorem lw_p9 : lw_okq (⟨"BoostForests$Grower", "trySplit", "(III)V"⟩, 12) := ⟨⟨by decide +kernel, by decide +kernel⟩, List.mem_of_getElem? (i := 74) (by decide +kernel), List.mem_of_getElem? (i := 382) (by decide +kernel), List.mem_of_getElem? (i := 383) (by decide +kernel)⟩
theorem lw_p10 : lw_okq (⟨"BoostForests$Grower", "moveRows", "(LBoostForests$Tree;I)V"⟩, 12) := ⟨⟨by decide +kernel, by decide +kernel⟩, List.mem_of_getElem? (i := 74) (by decide +kernel), List.mem_of_getElem? (i := 408) (by decide +kernel), List.mem_of_getElem? (i := 409) (by decide +kernel)⟩
theorem lw_p11 : lw_okq (⟨"BoostForests$Training", "addTree", "(I)V"⟩, 10) := ⟨⟨by decide +kernel, by decide +kernel⟩, List.mem_of_getElem? (i := 68) (by decide +kernel), List.mem_of_getElem? (i := 416) (by decide +kernel), List.mem_of_getElem? (i := 417) (by decide +kernel)⟩
theorem lw_p12 : lw_okq (⟨"BoostForests$Training", "addOf", "(LBoostForests$Tree;[I)J"⟩, 10) := ⟨⟨by decide +kernel, by decide +kernel⟩, List.mem_of_getElem? (i := 68) (by decide +kernel), List.mem_of_getElem? (i := 420) (by decide +kernel), List.mem_of_getElem? (i := 421) (by decide +kernel)⟩
theorem lw_p13 : lw_okq (⟨"BoostForests$Training", "shrunk", "(J)J"⟩, 10) := ⟨⟨by decide +kernel, by decide +kernel⟩, List.mem_of_getElem? (i := 68) (by decide +kernel), List.mem_of_getElem? (i := 429) (by decide +kernel), List.mem_of_getElem? (i := 430) (by decide +kernel)⟩
theorem lw_p14 : lw_okq (⟨"BoostForests", "isNode", "(II)Z"⟩, 4) := ⟨⟨by decide +kernel, by decide +kernel⟩, List.mem_of_getElem? (i := 13) (by decide +kernel), List.mem_of_getElem? (i := 444) (by decide +kernel), List.mem_of_getElem? (i := 445) (by decide +kernel)⟩
theorem lw_p15 : lw_okq (⟨"BoostForests", "isTrainedRow", "(I)Z"⟩, 4) := ⟨⟨by decide +kernel, by decide +kernel⟩, List.mem_of_getElem? (i := 13) (by decide +kernel), List.mem_of_getElem? (i := 486) (by decide +kernel), List.mem_of_getElem? (i := 487) (by decide +kernel)⟩
def lw_privs_1 : List (MethodName × Nat) := [(⟨"BoostForests", "keepAsked", "(IIII)V"⟩, 4), (⟨"BoostForests$Training", "begin", "()V"⟩, 10), (⟨"BoostForests$Training", "baseUnits", "()J"⟩, 10), (⟨"BoostForests$Training", "keepLosses", "()V"⟩, 10), (⟨"BoostForests$Grower", "drawRows", "(I[J)V"⟩, 12), (⟨"BoostForests$Grower", "drawn", "(I)I"⟩, 12), (⟨"BoostForests$Grower", "gatherNode", "(I)V"⟩, 12), (⟨"BoostForests$Grower", "findSplit", "(II)V"⟩, 12), (⟨"BoostForests$Grower", "tryColumn", "(II)V"⟩, 12), (⟨"BoostForests$Grower", "trySplit", "(III)V"⟩, 12), (⟨"BoostForests$Grower", "moveRows", "(LBoostForests$Tree;I)V"⟩, 12), (⟨"BoostForests$Training", "addTree", "(I)V"⟩, 10), (⟨"BoostForests$Training", "addOf", "(LBoostForests$Tree;[I)J"⟩, 10), (⟨"BoostForests$Training", "shrunk", "(J)J"⟩, 10), (⟨"BoostForests", "isNode", "(II)Z"⟩, 4), (⟨"BoostForests", "isTrainedRow", "(I)Z"⟩, 4)]
theorem lw_r1 : ∀ q ∈ lw_privs_1, lw_okq q := List.forall_mem_cons.mpr ⟨lw_p0, List.forall_mem_cons.mpr ⟨lw_p1, List.forall_mem_cons.mpr ⟨lw_p2, List.forall_mem_cons.mpr ⟨lw_p3, List.forall_mem_cons.mpr ⟨lw_p4, List.forall_mem_cons.mpr ⟨lw_p5, List.forall_mem_cons.mpr ⟨lw_p6, List.forall_mem_cons.mpr ⟨lw_p7, List.forall_mem_cons.mpr ⟨lw_p8, List.forall_mem_cons.mpr ⟨lw_p9, List.forall_mem_cons.mpr ⟨lw_p10, List.forall_mem_cons.mpr ⟨lw_p11, List.forall_mem_cons.mpr ⟨lw_p12, List.forall_mem_cons.mpr ⟨lw_p13, List.forall_mem_cons.mpr ⟨lw_p14, List.forall_mem_cons.mpr ⟨lw_p15, fun _ h => absurd h List.not_mem_nil⟩⟩⟩⟩⟩⟩⟩⟩⟩⟩⟩⟩⟩⟩⟩⟩
theorem lw_p16 : lw_okq (⟨"BoostForests$Training", "tellTree", "(LBoostForests$Tree;I[I)J"⟩, 10) := ⟨⟨by decide +kernel, by decide +kernel⟩, List.mem_of_getElem? (i := 68) (by decide +kernel), List.mem_of_getElem? (i := 520) (by decide +kernel), List.mem_of_getElem? (i := 521) (by decide +kernel)⟩
theorem lw_p17 : lw_okq (⟨"BoostForests$Training", "tellBoth", "(LBoostForests$Tree;I)J"⟩, 10) := ⟨⟨by decide +kernel, by decide +kernel⟩, List.mem_of_getElem? (i := 68) (by decide +kernel), List.mem_of_getElem? (i := 525) (by decide +kernel), List.mem_of_getElem? (i := 526) (by decide +kernel)⟩
theorem lw_p18 : lw_okq (⟨"BoostForestsModel", "keepLosses", "()V"⟩, 32) := ⟨⟨by decide +kernel, by decide +kernel⟩, List.mem_of_getElem? (i := 546) (by decide +kernel), List.mem_of_getElem? (i := 683) (by decide +kernel), List.mem_of_getElem? (i := 684) (by decide +kernel)⟩
theorem lw_p19 : lw_okq (⟨"BoostForestsModel", "makeTree", "(I)V"⟩, 32) := ⟨⟨by decide +kernel, by decide +kernel⟩, List.mem_of_getElem? (i := 546) (by decide +kernel), List.mem_of_getElem? (i := 687) (by decide +kernel), List.mem_of_getElem? (i := 688) (by decide +kernel)⟩
theorem lw_p20 : lw_okq (⟨"BoostForestsModel", "drawn", "(I)I"⟩, 32) := ⟨⟨by decide +kernel, by decide +kernel⟩, List.mem_of_getElem? (i := 546) (by decide +kernel), List.mem_of_getElem? (i := 691) (by decide +kernel), List.mem_of_getElem? (i := 692) (by decide +kernel)⟩
theorem lw_p21 : lw_okq (⟨"BoostForestsModel", "layNode", "(III)V"⟩, 32) := ⟨⟨by decide +kernel, by decide +kernel⟩, List.mem_of_getElem? (i := 546) (by decide +kernel), List.mem_of_getElem? (i := 698) (by decide +kernel), List.mem_of_getElem? (i := 699) (by decide +kernel)⟩
theorem lw_p22 : lw_okq (⟨"BoostForestsModel", "sumUp", "(IIIIZ)V"⟩, 32) := ⟨⟨by decide +kernel, by decide +kernel⟩, List.mem_of_getElem? (i := 546) (by decide +kernel), List.mem_of_getElem? (i := 702) (by decide +kernel), List.mem_of_getElem? (i := 703) (by decide +kernel)⟩
theorem lw_p23 : lw_okq (⟨"BoostForestsModel", "split", "(II)V"⟩, 32) := ⟨⟨by decide +kernel, by decide +kernel⟩, List.mem_of_getElem? (i := 546) (by decide +kernel), List.mem_of_getElem? (i := 709) (by decide +kernel), List.mem_of_getElem? (i := 710) (by decide +kernel)⟩
theorem lw_p24 : lw_okq (⟨"BoostForestsModel", "isCut", "(III)Z"⟩, 32) := ⟨⟨by decide +kernel, by decide +kernel⟩, List.mem_of_getElem? (i := 546) (by decide +kernel), List.mem_of_getElem? (i := 714) (by decide +kernel), List.mem_of_getElem? (i := 715) (by decide +kernel)⟩
theorem lw_p25 : lw_okq (⟨"BoostForestsModel", "difference", "(IIIII)J"⟩, 32) := ⟨⟨by decide +kernel, by decide +kernel⟩, List.mem_of_getElem? (i := 546) (by decide +kernel), List.mem_of_getElem? (i := 718) (by decide +kernel), List.mem_of_getElem? (i := 719) (by decide +kernel)⟩
theorem lw_p26 : lw_okq (⟨"BoostForestsModel", "valueOf", "(JI)J"⟩, 32) := ⟨⟨by decide +kernel, by decide +kernel⟩, List.mem_of_getElem? (i := 546) (by decide +kernel), List.mem_of_getElem? (i := 723) (by decide +kernel), List.mem_of_getElem? (i := 724) (by decide +kernel)⟩
theorem lw_p27 : lw_okq (⟨"BoostForestsModel", "worthOf", "(JI)J"⟩, 32) := ⟨⟨by decide +kernel, by decide +kernel⟩, List.mem_of_getElem? (i := 546) (by decide +kernel), List.mem_of_getElem? (i := 727) (by decide +kernel), List.mem_of_getElem? (i := 728) (by decide +kernel)⟩
theorem lw_p28 : lw_okq (⟨"BoostForestsModel", "leafOf", "(IIIII)I"⟩, 32) := ⟨⟨by decide +kernel, by decide +kernel⟩, List.mem_of_getElem? (i := 546) (by decide +kernel), List.mem_of_getElem? (i := 731) (by decide +kernel), List.mem_of_getElem? (i := 732) (by decide +kernel)⟩
theorem lw_p29 : lw_okq (⟨"BoostForestsModel", "addOf", "(II)J"⟩, 32) := ⟨⟨by decide +kernel, by decide +kernel⟩, List.mem_of_getElem? (i := 546) (by decide +kernel), List.mem_of_getElem? (i := 735) (by decide +kernel), List.mem_of_getElem? (i := 736) (by decide +kernel)⟩
theorem lw_p30 : lw_okq (⟨"BoostForestsModel", "isNode", "(II)Z"⟩, 32) := ⟨⟨by decide +kernel, by decide +kernel⟩, List.mem_of_getElem? (i := 546) (by decide +kernel), List.mem_of_getElem? (i := 743) (by decide +kernel), List.mem_of_getElem? (i := 744) (by decide +kernel)⟩
theorem lw_p31 : lw_okq (⟨"BoostForestsModel", "isTree", "(I)Z"⟩, 32) := ⟨⟨by decide +kernel, by decide +kernel⟩, List.mem_of_getElem? (i := 546) (by decide +kernel), List.mem_of_getElem? (i := 747) (by decide +kernel), List.mem_of_getElem? (i := 748) (by decide +kernel)⟩
def lw_privs_2 : List (MethodName × Nat) := [(⟨"BoostForests$Training", "tellTree", "(LBoostForests$Tree;I[I)J"⟩, 10), (⟨"BoostForests$Training", "tellBoth", "(LBoostForests$Tree;I)J"⟩, 10), (⟨"BoostForestsModel", "keepLosses", "()V"⟩, 32), (⟨"BoostForestsModel", "makeTree", "(I)V"⟩, 32), (⟨"BoostForestsModel", "drawn", "(I)I"⟩, 32), (⟨"BoostForestsModel", "layNode", "(III)V"⟩, 32), (⟨"BoostForestsModel", "sumUp", "(IIIIZ)V"⟩, 32), (⟨"BoostForestsModel", "split", "(II)V"⟩, 32), (⟨"BoostForestsModel", "isCut", "(III)Z"⟩, 32), (⟨"BoostForestsModel", "difference", "(IIIII)J"⟩, 32), (⟨"BoostForestsModel", "valueOf", "(JI)J"⟩, 32), (⟨"BoostForestsModel", "worthOf", "(JI)J"⟩, 32), (⟨"BoostForestsModel", "leafOf", "(IIIII)I"⟩, 32), (⟨"BoostForestsModel", "addOf", "(II)J"⟩, 32), (⟨"BoostForestsModel", "isNode", "(II)Z"⟩, 32), (⟨"BoostForestsModel", "isTree", "(I)Z"⟩, 32)]
theorem lw_r2 : ∀ q ∈ lw_privs_2, lw_okq q := List.forall_mem_cons.mpr ⟨lw_p16, List.forall_mem_cons.mpr ⟨lw_p17, List.forall_mem_cons.mpr ⟨lw_p18, List.forall_mem_cons.mpr ⟨lw_p19, List.forall_mem_cons.mpr ⟨lw_p20, List.forall_mem_cons.mpr ⟨lw_p21, List.forall_mem_cons.mpr ⟨lw_p22, List.forall_mem_cons.mpr ⟨lw_p23, List.forall_mem_cons.mpr ⟨lw_p24, List.forall_mem_cons.mpr ⟨lw_p25, List.forall_mem_cons.mpr ⟨lw_p26, List.forall_mem_cons.mpr ⟨lw_p27, List.forall_mem_cons.mpr ⟨lw_p28, List.forall_mem_cons.mpr ⟨lw_p29, List.forall_mem_cons.mpr ⟨lw_p30, List.forall_mem_cons.mpr ⟨lw_p31, fun _ h => absurd h List.not_mem_nil⟩⟩⟩⟩⟩⟩⟩⟩⟩⟩⟩⟩⟩⟩⟩⟩
theorem lw_p32 : lw_okq (⟨"BoostForestsModel", "allTell", "(IIIII)J"⟩, 32) := ⟨⟨by decide +kernel, by decide +kernel⟩, List.mem_of_getElem? (i := 546) (by decide +kernel), List.mem_of_getElem? (i := 792) (by decide +kernel), List.mem_of_getElem? (i := 793) (by decide +kernel)⟩
theorem lw_p33 : lw_okq (⟨"BoostForestsModel", "tellOf", "(IIIIII)J"⟩, 32) := ⟨⟨by decide +kernel, by decide +kernel⟩, List.mem_of_getElem? (i := 546) (by decide +kernel), List.mem_of_getElem? (i := 796) (by decide +kernel), List.mem_of_getElem? (i := 797) (by decide +kernel)⟩
def lw_privs_3 : List (MethodName × Nat) := [(⟨"BoostForestsModel", "allTell", "(IIIII)J"⟩, 32), (⟨"BoostForestsModel", "tellOf", "(IIIIII)J"⟩, 32)]
theorem lw_r3 : ∀ q ∈ lw_privs_3, lw_okq q := List.forall_mem_cons.mpr ⟨lw_p32, List.forall_mem_cons.mpr ⟨lw_p33, fun _ h => absurd h List.not_mem_nil⟩⟩
def lw_privs : List (MethodName × Nat) := lw_privs_1 ++ (lw_privs_2 ++ (lw_privs_3))
def lw_tbl : List Cond := k2_sels lw_privs ++ tables_1
theorem lw_privs_ok : ∀ q ∈ lw_privs, lw_okq q := by
  show ∀ q ∈ lw_privs_1 ++ (lw_privs_2 ++ (lw_privs_3)), lw_okq q
  exact List.forall_mem_append.mpr ⟨lw_r1, List.forall_mem_append.mpr ⟨lw_r2, lw_r3⟩⟩
end
section
abbrev gw_tbl : List Cond := lw_tbl.filter goodWord
theorem gw_good : ∀ w ∈ gw_tbl, (w.onTables && w.keeps) = true ∨ ∃ ty, w = .arrayClass ty := fun w h => good_of_word (List.mem_filter.mp h).2
theorem gw_in : ∀ w ∈ gw_tbl, w ∈ lw_tbl := fun w h => (List.mem_filter.mp h).1
theorem kt_1 : ∀ w ∈ tables_1_1, w ∈ lw_tbl := fun _ h => List.mem_append_right _ (List.mem_append_left _ h)
theorem kt_2 : ∀ w ∈ tables_1_2, w ∈ lw_tbl := fun _ h => List.mem_append_right _ (List.mem_append_right _ (List.mem_append_left _ h))
theorem kt_3 : ∀ w ∈ tables_1_3, w ∈ lw_tbl := fun _ h => List.mem_append_right _ (List.mem_append_right _ (List.mem_append_right _ (List.mem_append_left _ h)))
def R_BF : String := "BoostForests"
def F_BF : u_T := fun k => match k with
  | 0 => ("BoostForests", "table", "LBoostForests$Table;", true)
  | 1 => ("BoostForests", "settings", "[I", true)
  | 2 => ("BoostForests", "training", "LBoostForests$Training;", true)
  | _ => ("BoostForests", "asked", "[I", true)
def t_BF : Nat → FieldType := fun k => match k with
  | 0 => .object "BoostForests$Table"
  | 1 => .array .int
  | 2 => .object "BoostForests$Training"
  | _ => .array .int
abbrev w_BF : List Cond := u_ws R_BF F_BF 4
theorem n_BF : ∀ a, a < 4 → ∀ b, b < 4 → a ≠ b → (F_BF a).2.1 ≠ (F_BF b).2.1 := by decide +kernel
theorem t_BF_ok : ∀ k, k < 4 → parseFieldDescriptor (F_BF k).2.2.1 = some (t_BF k) := by decide +kernel
theorem i_BF : ∀ w ∈ w_BF, w ∈ gw_tbl := by
  intro w hw
  obtain ⟨k, hk, rfl⟩ := List.mem_map.mp hw
  have hk := List.mem_range.mp hk
  match k, hk with
  | 0, _ => exact List.mem_filter.mpr ⟨kt_1 _ (List.mem_of_getElem? (i := 236) rfl), rfl⟩
  | 1, _ => exact List.mem_filter.mpr ⟨kt_1 _ (List.mem_of_getElem? (i := 238) rfl), rfl⟩
  | 2, _ => exact List.mem_filter.mpr ⟨kt_2 _ (List.mem_of_getElem? (i := 0) rfl), rfl⟩
  | 3, _ => exact List.mem_filter.mpr ⟨kt_2 _ (List.mem_of_getElem? (i := 2) rfl), rfl⟩
  | k + 4, hk => exact absurd hk (by omega)
def R_TB : String := "BoostForests$Table"
def F_TB : u_T := fun k => match k with
  | 0 => ("BoostForests$Table", "cells", "[[I", true)
  | 1 => ("BoostForests$Table", "aims", "[I", true)
  | 2 => ("BoostForests$Table", "weights", "[I", true)
  | 3 => ("BoostForests$Table", "held", "[Z", true)
  | _ => ("BoostForests$Table", "number", "I", false)
def t_TB : Nat → FieldType := fun k => match k with
  | 0 => .array (.array .int)
  | 1 => .array .int
  | 2 => .array .int
  | 3 => .array .boolean
  | _ => .int
abbrev w_TB : List Cond := u_ws R_TB F_TB 5
theorem n_TB : ∀ a, a < 5 → ∀ b, b < 5 → a ≠ b → (F_TB a).2.1 ≠ (F_TB b).2.1 := by decide +kernel
theorem t_TB_ok : ∀ k, k < 5 → parseFieldDescriptor (F_TB k).2.2.1 = some (t_TB k) := by decide +kernel
theorem i_TB : ∀ w ∈ w_TB, w ∈ gw_tbl := by
  intro w hw
  obtain ⟨k, hk, rfl⟩ := List.mem_map.mp hw
  have hk := List.mem_range.mp hk
  match k, hk with
  | 0, _ => exact List.mem_filter.mpr ⟨kt_1 _ (List.mem_of_getElem? (i := 45) rfl), rfl⟩
  | 1, _ => exact List.mem_filter.mpr ⟨kt_1 _ (List.mem_of_getElem? (i := 47) rfl), rfl⟩
  | 2, _ => exact List.mem_filter.mpr ⟨kt_1 _ (List.mem_of_getElem? (i := 49) rfl), rfl⟩
  | 3, _ => exact List.mem_filter.mpr ⟨kt_1 _ (List.mem_of_getElem? (i := 51) rfl), rfl⟩
  | 4, _ => exact List.mem_filter.mpr ⟨kt_1 _ (List.mem_of_getElem? (i := 53) rfl), rfl⟩
  | k + 5, hk => exact absurd hk (by omega)
def R_TG : String := "BoostForests$Training"
def F_TG : u_T := fun k => match k with
  | 0 => ("BoostForests$Training", "grower", "LBoostForests$Grower;", true)
  | 1 => ("BoostForests$Training", "rows", "LBoostForests$Table;", true)
  | 2 => ("BoostForests$Training", "chosen", "[I", true)
  | 3 => ("BoostForests$Training", "trees", "[LBoostForests$Tree;", true)
  | 4 => ("BoostForests$Training", "f", "[J", true)
  | 5 => ("BoostForests$Training", "tookPart", "[I", true)
  | 6 => ("BoostForests$Training", "losses", "[[J", true)
  | 7 => ("BoostForests$Training", "tells", "[J", true)
  | 8 => ("BoostForests$Training", "done", "Z", false)
  | _ => ("BoostForests$Training", "made", "I", false)
def t_TG : Nat → FieldType := fun k => match k with
  | 0 => .object "BoostForests$Grower"
  | 1 => .object "BoostForests$Table"
  | 2 => .array .int
  | 3 => .array (.object "BoostForests$Tree")
  | 4 => .array .long
  | 5 => .array .int
  | 6 => .array (.array .long)
  | 7 => .array .long
  | 8 => .boolean
  | _ => .int
abbrev w_TG : List Cond := u_ws R_TG F_TG 10
theorem n_TG : ∀ a, a < 10 → ∀ b, b < 10 → a ≠ b → (F_TG a).2.1 ≠ (F_TG b).2.1 := by decide +kernel
theorem t_TG_ok : ∀ k, k < 10 → parseFieldDescriptor (F_TG k).2.2.1 = some (t_TG k) := by decide +kernel
theorem i_TG : ∀ w ∈ w_TG, w ∈ gw_tbl := by
  intro w hw
  obtain ⟨k, hk, rfl⟩ := List.mem_map.mp hw
  have hk := List.mem_range.mp hk
  match k, hk with
  | 0, _ => exact List.mem_filter.mpr ⟨kt_1 _ (List.mem_of_getElem? (i := 211) rfl), rfl⟩
  | 1, _ => exact List.mem_filter.mpr ⟨kt_1 _ (List.mem_of_getElem? (i := 213) rfl), rfl⟩
  | 2, _ => exact List.mem_filter.mpr ⟨kt_1 _ (List.mem_of_getElem? (i := 215) rfl), rfl⟩
  | 3, _ => exact List.mem_filter.mpr ⟨kt_1 _ (List.mem_of_getElem? (i := 217) rfl), rfl⟩
  | 4, _ => exact List.mem_filter.mpr ⟨kt_1 _ (List.mem_of_getElem? (i := 219) rfl), rfl⟩
  | 5, _ => exact List.mem_filter.mpr ⟨kt_1 _ (List.mem_of_getElem? (i := 221) rfl), rfl⟩
  | 6, _ => exact List.mem_filter.mpr ⟨kt_1 _ (List.mem_of_getElem? (i := 223) rfl), rfl⟩
  | 7, _ => exact List.mem_filter.mpr ⟨kt_1 _ (List.mem_of_getElem? (i := 225) rfl), rfl⟩
  | 8, _ => exact List.mem_filter.mpr ⟨kt_1 _ (List.mem_of_getElem? (i := 227) rfl), rfl⟩
  | 9, _ => exact List.mem_filter.mpr ⟨kt_1 _ (List.mem_of_getElem? (i := 229) rfl), rfl⟩
  | k + 10, hk => exact absurd hk (by omega)
def R_GR : String := "BoostForests$Grower"
def F_GR : u_T := fun k => match k with
  | 0 => ("BoostForests$Grower", "rows", "LBoostForests$Table;", true)
  | 1 => ("BoostForests$Grower", "chosen", "[I", true)
  | 2 => ("BoostForests$Grower", "order", "[[I", true)
  | 3 => ("BoostForests$Grower", "nodeOf", "[I", true)
  | 4 => ("BoostForests$Grower", "slopes", "[J", true)
  | 5 => ("BoostForests$Grower", "whole", "LBoostForests$Sums;", true)
  | 6 => ("BoostForests$Grower", "missing", "LBoostForests$Sums;", true)
  | 7 => ("BoostForests$Grower", "below", "LBoostForests$Sums;", true)
  | 8 => ("BoostForests$Grower", "low", "LBoostForests$Sums;", true)
  | 9 => ("BoostForests$Grower", "high", "LBoostForests$Sums;", true)
  | 10 => ("BoostForests$Grower", "nothing", "LBoostForests$Sums;", true)
  | _ => ("BoostForests$Grower", "split", "LBoostForests$Split;", true)
def t_GR : Nat → FieldType := fun k => match k with
  | 0 => .object "BoostForests$Table"
  | 1 => .array .int
  | 2 => .array (.array .int)
  | 3 => .array .int
  | 4 => .array .long
  | 5 => .object "BoostForests$Sums"
  | 6 => .object "BoostForests$Sums"
  | 7 => .object "BoostForests$Sums"
  | 8 => .object "BoostForests$Sums"
  | 9 => .object "BoostForests$Sums"
  | 10 => .object "BoostForests$Sums"
  | _ => .object "BoostForests$Split"
abbrev w_GR : List Cond := u_ws R_GR F_GR 12
theorem n_GR : ∀ a, a < 12 → ∀ b, b < 12 → a ≠ b → (F_GR a).2.1 ≠ (F_GR b).2.1 := by decide +kernel
theorem t_GR_ok : ∀ k, k < 12 → parseFieldDescriptor (F_GR k).2.2.1 = some (t_GR k) := by decide +kernel
theorem i_GR : ∀ w ∈ w_GR, w ∈ gw_tbl := by
  intro w hw
  obtain ⟨k, hk, rfl⟩ := List.mem_map.mp hw
  have hk := List.mem_range.mp hk
  match k, hk with
  | 0, _ => exact List.mem_filter.mpr ⟨kt_1 _ (List.mem_of_getElem? (i := 142) rfl), rfl⟩
  | 1, _ => exact List.mem_filter.mpr ⟨kt_1 _ (List.mem_of_getElem? (i := 144) rfl), rfl⟩
  | 2, _ => exact List.mem_filter.mpr ⟨kt_1 _ (List.mem_of_getElem? (i := 146) rfl), rfl⟩
  | 3, _ => exact List.mem_filter.mpr ⟨kt_1 _ (List.mem_of_getElem? (i := 148) rfl), rfl⟩
  | 4, _ => exact List.mem_filter.mpr ⟨kt_1 _ (List.mem_of_getElem? (i := 150) rfl), rfl⟩
  | 5, _ => exact List.mem_filter.mpr ⟨kt_1 _ (List.mem_of_getElem? (i := 152) rfl), rfl⟩
  | 6, _ => exact List.mem_filter.mpr ⟨kt_1 _ (List.mem_of_getElem? (i := 154) rfl), rfl⟩
  | 7, _ => exact List.mem_filter.mpr ⟨kt_1 _ (List.mem_of_getElem? (i := 156) rfl), rfl⟩
  | 8, _ => exact List.mem_filter.mpr ⟨kt_1 _ (List.mem_of_getElem? (i := 158) rfl), rfl⟩
  | 9, _ => exact List.mem_filter.mpr ⟨kt_1 _ (List.mem_of_getElem? (i := 160) rfl), rfl⟩
  | 10, _ => exact List.mem_filter.mpr ⟨kt_1 _ (List.mem_of_getElem? (i := 162) rfl), rfl⟩
  | 11, _ => exact List.mem_filter.mpr ⟨kt_1 _ (List.mem_of_getElem? (i := 164) rfl), rfl⟩
  | k + 12, hk => exact absurd hk (by omega)
def R_SM : String := "BoostForests$Sums"
def F_SM : u_T := fun k => match k with
  | 0 => ("BoostForests$Sums", "rows", "I", false)
  | 1 => ("BoostForests$Sums", "h", "I", false)
  | _ => ("BoostForests$Sums", "g", "J", false)
def t_SM : Nat → FieldType := fun k => match k with
  | 0 => .int
  | 1 => .int
  | _ => .long
abbrev w_SM : List Cond := u_ws R_SM F_SM 3
theorem t_SM_ok : ∀ k, k < 3 → parseFieldDescriptor (F_SM k).2.2.1 = some (t_SM k) := by decide +kernel
theorem i_SM : ∀ w ∈ w_SM, w ∈ gw_tbl := by
  intro w hw
  obtain ⟨k, hk, rfl⟩ := List.mem_map.mp hw
  have hk := List.mem_range.mp hk
  match k, hk with
  | 0, _ => exact List.mem_filter.mpr ⟨kt_1 _ (List.mem_of_getElem? (i := 95) rfl), rfl⟩
  | 1, _ => exact List.mem_filter.mpr ⟨kt_1 _ (List.mem_of_getElem? (i := 97) rfl), rfl⟩
  | 2, _ => exact List.mem_filter.mpr ⟨kt_1 _ (List.mem_of_getElem? (i := 99) rfl), rfl⟩
  | k + 3, hk => exact absurd hk (by omega)
def R_SP : String := "BoostForests$Split"
def F_SP : u_T := fun k => match k with
  | 0 => ("BoostForests$Split", "column", "I", false)
  | 1 => ("BoostForests$Split", "cut", "I", false)
  | 2 => ("BoostForests$Split", "side", "I", false)
  | _ => ("BoostForests$Split", "difference", "J", false)
def t_SP : Nat → FieldType := fun k => match k with
  | 0 => .int
  | 1 => .int
  | 2 => .int
  | _ => .long
abbrev w_SP : List Cond := u_ws R_SP F_SP 4
theorem t_SP_ok : ∀ k, k < 4 → parseFieldDescriptor (F_SP k).2.2.1 = some (t_SP k) := by decide +kernel
theorem i_SP : ∀ w ∈ w_SP, w ∈ gw_tbl := by
  intro w hw
  obtain ⟨k, hk, rfl⟩ := List.mem_map.mp hw
  have hk := List.mem_range.mp hk
  match k, hk with
  | 0, _ => exact List.mem_filter.mpr ⟨kt_1 _ (List.mem_of_getElem? (i := 119) rfl), rfl⟩
  | 1, _ => exact List.mem_filter.mpr ⟨kt_1 _ (List.mem_of_getElem? (i := 121) rfl), rfl⟩
  | 2, _ => exact List.mem_filter.mpr ⟨kt_1 _ (List.mem_of_getElem? (i := 123) rfl), rfl⟩
  | 3, _ => exact List.mem_filter.mpr ⟨kt_1 _ (List.mem_of_getElem? (i := 125) rfl), rfl⟩
  | k + 4, hk => exact absurd hk (by omega)
def R_TR : String := "BoostForests$Tree"
def F_TR : u_T := fun k => match k with
  | 0 => ("BoostForests$Tree", "facts", "[[I", true)
  | 1 => ("BoostForests$Tree", "sums", "[[J", true)
  | _ => ("BoostForests$Tree", "nodes", "I", false)
def t_TR : Nat → FieldType := fun k => match k with
  | 0 => .array (.array .int)
  | 1 => .array (.array .long)
  | _ => .int
abbrev w_TR : List Cond := u_ws R_TR F_TR 3
theorem n_TR : ∀ a, a < 3 → ∀ b, b < 3 → a ≠ b → (F_TR a).2.1 ≠ (F_TR b).2.1 := by decide +kernel
theorem t_TR_ok : ∀ k, k < 3 → parseFieldDescriptor (F_TR k).2.2.1 = some (t_TR k) := by decide +kernel
theorem i_TR : ∀ w ∈ w_TR, w ∈ gw_tbl := by
  intro w hw
  obtain ⟨k, hk, rfl⟩ := List.mem_map.mp hw
  have hk := List.mem_range.mp hk
  match k, hk with
  | 0, _ => exact List.mem_filter.mpr ⟨kt_1 _ (List.mem_of_getElem? (i := 188) rfl), rfl⟩
  | 1, _ => exact List.mem_filter.mpr ⟨kt_1 _ (List.mem_of_getElem? (i := 190) rfl), rfl⟩
  | 2, _ => exact List.mem_filter.mpr ⟨kt_1 _ (List.mem_of_getElem? (i := 192) rfl), rfl⟩
  | k + 3, hk => exact absurd hk (by omega)
def R_MD : String := "BoostForestsModel"
def F_MD : u_T := fun k => match k with
  | 0 => ("BoostForestsModel", "rows", "I", false)
  | 1 => ("BoostForestsModel", "columns", "[I", true)
  | 2 => ("BoostForestsModel", "aims", "[I", true)
  | 3 => ("BoostForestsModel", "weights", "[I", true)
  | 4 => ("BoostForestsModel", "held", "[Z", true)
  | 5 => ("BoostForestsModel", "settings", "[I", true)
  | 6 => ("BoostForestsModel", "trained", "Z", false)
  | 7 => ("BoostForestsModel", "trainedRows", "I", false)
  | 8 => ("BoostForestsModel", "cols", "[I", true)
  | 9 => ("BoostForestsModel", "ys", "[I", true)
  | 10 => ("BoostForestsModel", "ws", "[I", true)
  | 11 => ("BoostForestsModel", "isHeld", "[Z", true)
  | 12 => ("BoostForestsModel", "then", "[I", true)
  | 13 => ("BoostForestsModel", "now", "[J", true)
  | 14 => ("BoostForestsModel", "trees", "I", false)
  | 15 => ("BoostForestsModel", "losses", "[J", true)
  | 16 => ("BoostForestsModel", "takesPart", "[Z", true)
  | 17 => ("BoostForestsModel", "sizes", "[I", true)
  | 18 => ("BoostForestsModel", "nodeColumns", "[I", true)
  | 19 => ("BoostForestsModel", "nodeCuts", "[I", true)
  | 20 => ("BoostForestsModel", "nodeSides", "[I", true)
  | 21 => ("BoostForestsModel", "nodeLefts", "[I", true)
  | 22 => ("BoostForestsModel", "nodeRows", "[I", true)
  | 23 => ("BoostForestsModel", "nodeWeights", "[I", true)
  | 24 => ("BoostForestsModel", "nodeDepths", "[I", true)
  | 25 => ("BoostForestsModel", "nodeSlopes", "[J", true)
  | 26 => ("BoostForestsModel", "nodeGains", "[J", true)
  | 27 => ("BoostForestsModel", "nodeOf", "[I", true)
  | 28 => ("BoostForestsModel", "tells", "[J", true)
  | 29 => ("BoostForestsModel", "slope", "J", false)
  | 30 => ("BoostForestsModel", "weight", "I", false)
  | _ => ("BoostForestsModel", "count", "I", false)
def t_MD : Nat → FieldType := fun k => match k with
  | 0 => .int
  | 1 => .array .int
  | 2 => .array .int
  | 3 => .array .int
  | 4 => .array .boolean
  | 5 => .array .int
  | 6 => .boolean
  | 7 => .int
  | 8 => .array .int
  | 9 => .array .int
  | 10 => .array .int
  | 11 => .array .boolean
  | 12 => .array .int
  | 13 => .array .long
  | 14 => .int
  | 15 => .array .long
  | 16 => .array .boolean
  | 17 => .array .int
  | 18 => .array .int
  | 19 => .array .int
  | 20 => .array .int
  | 21 => .array .int
  | 22 => .array .int
  | 23 => .array .int
  | 24 => .array .int
  | 25 => .array .long
  | 26 => .array .long
  | 27 => .array .int
  | 28 => .array .long
  | 29 => .long
  | 30 => .int
  | _ => .int
abbrev w_MD : List Cond := u_ws R_MD F_MD 32
theorem n_MD : ∀ a, a < 32 → ∀ b, b < 32 → a ≠ b → (F_MD a).2.1 ≠ (F_MD b).2.1 := by decide +kernel
theorem t_MD_ok : ∀ k, k < 32 → parseFieldDescriptor (F_MD k).2.2.1 = some (t_MD k) := by decide +kernel
theorem i_MD : ∀ w ∈ w_MD, w ∈ gw_tbl := by
  intro w hw
  obtain ⟨k, hk, rfl⟩ := List.mem_map.mp hw
  have hk := List.mem_range.mp hk
  match k, hk with
  | 0, _ => exact List.mem_filter.mpr ⟨kt_3 _ (List.mem_of_getElem? (i := 103) rfl), rfl⟩
  | 1, _ => exact List.mem_filter.mpr ⟨kt_3 _ (List.mem_of_getElem? (i := 105) rfl), rfl⟩
  | 2, _ => exact List.mem_filter.mpr ⟨kt_3 _ (List.mem_of_getElem? (i := 107) rfl), rfl⟩
  | 3, _ => exact List.mem_filter.mpr ⟨kt_3 _ (List.mem_of_getElem? (i := 109) rfl), rfl⟩
  | 4, _ => exact List.mem_filter.mpr ⟨kt_3 _ (List.mem_of_getElem? (i := 111) rfl), rfl⟩
  | 5, _ => exact List.mem_filter.mpr ⟨kt_3 _ (List.mem_of_getElem? (i := 113) rfl), rfl⟩
  | 6, _ => exact List.mem_filter.mpr ⟨kt_3 _ (List.mem_of_getElem? (i := 115) rfl), rfl⟩
  | 7, _ => exact List.mem_filter.mpr ⟨kt_3 _ (List.mem_of_getElem? (i := 117) rfl), rfl⟩
  | 8, _ => exact List.mem_filter.mpr ⟨kt_3 _ (List.mem_of_getElem? (i := 119) rfl), rfl⟩
  | 9, _ => exact List.mem_filter.mpr ⟨kt_3 _ (List.mem_of_getElem? (i := 121) rfl), rfl⟩
  | 10, _ => exact List.mem_filter.mpr ⟨kt_3 _ (List.mem_of_getElem? (i := 123) rfl), rfl⟩
  | 11, _ => exact List.mem_filter.mpr ⟨kt_3 _ (List.mem_of_getElem? (i := 125) rfl), rfl⟩
  | 12, _ => exact List.mem_filter.mpr ⟨kt_3 _ (List.mem_of_getElem? (i := 127) rfl), rfl⟩
  | 13, _ => exact List.mem_filter.mpr ⟨kt_3 _ (List.mem_of_getElem? (i := 129) rfl), rfl⟩
  | 14, _ => exact List.mem_filter.mpr ⟨kt_3 _ (List.mem_of_getElem? (i := 131) rfl), rfl⟩
  | 15, _ => exact List.mem_filter.mpr ⟨kt_3 _ (List.mem_of_getElem? (i := 133) rfl), rfl⟩
  | 16, _ => exact List.mem_filter.mpr ⟨kt_3 _ (List.mem_of_getElem? (i := 135) rfl), rfl⟩
  | 17, _ => exact List.mem_filter.mpr ⟨kt_3 _ (List.mem_of_getElem? (i := 137) rfl), rfl⟩
  | 18, _ => exact List.mem_filter.mpr ⟨kt_3 _ (List.mem_of_getElem? (i := 139) rfl), rfl⟩
  | 19, _ => exact List.mem_filter.mpr ⟨kt_3 _ (List.mem_of_getElem? (i := 141) rfl), rfl⟩
  | 20, _ => exact List.mem_filter.mpr ⟨kt_3 _ (List.mem_of_getElem? (i := 143) rfl), rfl⟩
  | 21, _ => exact List.mem_filter.mpr ⟨kt_3 _ (List.mem_of_getElem? (i := 145) rfl), rfl⟩
  | 22, _ => exact List.mem_filter.mpr ⟨kt_3 _ (List.mem_of_getElem? (i := 147) rfl), rfl⟩
  | 23, _ => exact List.mem_filter.mpr ⟨kt_3 _ (List.mem_of_getElem? (i := 149) rfl), rfl⟩
  | 24, _ => exact List.mem_filter.mpr ⟨kt_3 _ (List.mem_of_getElem? (i := 151) rfl), rfl⟩
  | 25, _ => exact List.mem_filter.mpr ⟨kt_3 _ (List.mem_of_getElem? (i := 153) rfl), rfl⟩
  | 26, _ => exact List.mem_filter.mpr ⟨kt_3 _ (List.mem_of_getElem? (i := 155) rfl), rfl⟩
  | 27, _ => exact List.mem_filter.mpr ⟨kt_3 _ (List.mem_of_getElem? (i := 157) rfl), rfl⟩
  | 28, _ => exact List.mem_filter.mpr ⟨kt_3 _ (List.mem_of_getElem? (i := 159) rfl), rfl⟩
  | 29, _ => exact List.mem_filter.mpr ⟨kt_3 _ (List.mem_of_getElem? (i := 161) rfl), rfl⟩
  | 30, _ => exact List.mem_filter.mpr ⟨kt_3 _ (List.mem_of_getElem? (i := 163) rfl), rfl⟩
  | 31, _ => exact List.mem_filter.mpr ⟨kt_3 _ (List.mem_of_getElem? (i := 165) rfl), rfl⟩
  | k + 32, hk => exact absurd hk (by omega)
abbrev vCl : List vw_C := [(R_BF, F_BF, 4), (R_TB, F_TB, 5), (R_TG, F_TG, 10), (R_GR, F_GR, 12), (R_SM, F_SM, 3), (R_SP, F_SP, 4), (R_TR, F_TR, 3), (R_MD, F_MD, 32)]
abbrev b_BF_init : ByteArray := prog_1_method_1_code
abbrev y_BF_init : MethodName := ⟨"BoostForests", "<init>", "()V"⟩
abbrev b_MD_init : ByteArray := prog_9_method_1_code
abbrev y_MD_init : MethodName := ⟨"BoostForestsModel", "<init>", "()V"⟩
abbrev b_GR_init : ByteArray := prog_2_method_1_code
abbrev y_GR_init : MethodName := ⟨"BoostForests$Grower", "<init>", "()V"⟩
abbrev b_SP_init : ByteArray := prog_3_method_1_code
abbrev y_SP_init : MethodName := ⟨"BoostForests$Split", "<init>", "()V"⟩
abbrev b_SM_init : ByteArray := prog_4_method_1_code
abbrev y_SM_init : MethodName := ⟨"BoostForests$Sums", "<init>", "()V"⟩
abbrev b_TB_init : ByteArray := prog_5_method_1_code
abbrev y_TB_init : MethodName := ⟨"BoostForests$Table", "<init>", "()V"⟩
abbrev b_TG_init : ByteArray := prog_6_method_1_code
abbrev y_TG_init : MethodName := ⟨"BoostForests$Training", "<init>", "()V"⟩
abbrev b_TR_init : ByteArray := prog_7_method_1_code
abbrev y_TR_init : MethodName := ⟨"BoostForests$Tree", "<init>", "()V"⟩
abbrev y_JO_init : MethodName := ⟨"java/lang/Object", "<init>", "()V"⟩
theorem kw_1_1 : (Jvm.Cond.initialized "BoostForests") ∈ gw_tbl := List.mem_filter.mpr ⟨kt_1 _ (List.mem_of_getElem? (i := 1) rfl), rfl⟩
theorem kw_1_2 : (Jvm.Cond.initialized "BoostForests$Table") ∈ gw_tbl := List.mem_filter.mpr ⟨kt_1 _ (List.mem_of_getElem? (i := 2) rfl), rfl⟩
theorem kw_1_3 : (Jvm.Cond.initialized "BoostForests$Training") ∈ gw_tbl := List.mem_filter.mpr ⟨kt_1 _ (List.mem_of_getElem? (i := 3) rfl), rfl⟩
theorem kw_1_4 : (Jvm.Cond.initialized "BoostForests$Grower") ∈ gw_tbl := List.mem_filter.mpr ⟨kt_1 _ (List.mem_of_getElem? (i := 4) rfl), rfl⟩
theorem kw_1_5 : (Jvm.Cond.initialized "BoostForests$Sums") ∈ gw_tbl := List.mem_filter.mpr ⟨kt_1 _ (List.mem_of_getElem? (i := 5) rfl), rfl⟩
theorem kw_1_6 : (Jvm.Cond.initialized "BoostForests$Split") ∈ gw_tbl := List.mem_filter.mpr ⟨kt_1 _ (List.mem_of_getElem? (i := 6) rfl), rfl⟩
theorem kw_1_7 : (Jvm.Cond.initialized "BoostForests$Tree") ∈ gw_tbl := List.mem_filter.mpr ⟨kt_1 _ (List.mem_of_getElem? (i := 7) rfl), rfl⟩
theorem kw_1_8 : (Jvm.Cond.initialized "BoostForestsModel") ∈ gw_tbl := List.mem_filter.mpr ⟨kt_1 _ (List.mem_of_getElem? (i := 8) rfl), rfl⟩
theorem kw_1_12 : (Jvm.Cond.classLink "BoostForestsLaw" (7 : Nat) "BoostForests") ∈ gw_tbl := List.mem_filter.mpr ⟨kt_1 _ (List.mem_of_getElem? (i := 12) rfl), rfl⟩
theorem kw_1_13 : (Jvm.Cond.instantiable "BoostForests" (4 : Nat)) ∈ gw_tbl := List.mem_filter.mpr ⟨kt_1 _ (List.mem_of_getElem? (i := 13) rfl), rfl⟩
theorem kw_1_14 : (Jvm.Cond.methodLink "BoostForestsLaw" (9 : Nat) ({ cls := "BoostForests", name := "<init>", desc := "()V" } : Jvm.MethodName)) ∈ gw_tbl := List.mem_filter.mpr ⟨kt_1 _ (List.mem_of_getElem? (i := 14) rfl), rfl⟩
theorem kw_1_15 : (Jvm.Cond.instanceMethod ({ cls := "BoostForests", name := "<init>", desc := "()V" } : Jvm.MethodName)) ∈ gw_tbl := List.mem_filter.mpr ⟨kt_1 _ (List.mem_of_getElem? (i := 15) rfl), rfl⟩
theorem kw_1_16 : (Jvm.Cond.code ({ cls := "BoostForests", name := "<init>", desc := "()V" } : Jvm.MethodName) prog_1_method_1_code (1 : Nat) (Option.none : Option Jvm.ClassFile.FieldType)) ∈ gw_tbl := List.mem_filter.mpr ⟨kt_1 _ (List.mem_of_getElem? (i := 16) rfl), rfl⟩
theorem kw_1_17 : (Jvm.Cond.methodLink "BoostForests" (1 : Nat) ({ cls := "java/lang/Object", name := "<init>", desc := "()V" } : Jvm.MethodName)) ∈ gw_tbl := List.mem_filter.mpr ⟨kt_1 _ (List.mem_of_getElem? (i := 17) rfl), rfl⟩
theorem kw_1_18 : (Jvm.Cond.instanceMethod ({ cls := "java/lang/Object", name := "<init>", desc := "()V" } : Jvm.MethodName)) ∈ gw_tbl := List.mem_filter.mpr ⟨kt_1 _ (List.mem_of_getElem? (i := 18) rfl), rfl⟩
theorem kw_1_19 : (Jvm.Cond.code ({ cls := "java/lang/Object", name := "<init>", desc := "()V" } : Jvm.MethodName) object_method_1_code (1 : Nat) (Option.none : Option Jvm.ClassFile.FieldType)) ∈ gw_tbl := List.mem_filter.mpr ⟨kt_1 _ (List.mem_of_getElem? (i := 19) rfl), rfl⟩
theorem kw_1_20 : (Jvm.Cond.classLink "BoostForests" (7 : Nat) "BoostForests$Table") ∈ gw_tbl := List.mem_filter.mpr ⟨kt_1 _ (List.mem_of_getElem? (i := 20) rfl), rfl⟩
theorem kw_1_21 : (Jvm.Cond.instantiable "BoostForests$Table" (5 : Nat)) ∈ gw_tbl := List.mem_filter.mpr ⟨kt_1 _ (List.mem_of_getElem? (i := 21) rfl), rfl⟩
theorem kl_1_22 : (Jvm.Cond.methodLinkNest "BoostForests" (9 : Nat) ({ cls := "BoostForests$Table", name := "<init>", desc := "()V" } : Jvm.MethodName) "BoostForests") ∈ lw_tbl := kt_1 _ (List.mem_of_getElem? (i := 22) rfl)
theorem kw_1_23 : (Jvm.Cond.instanceMethod ({ cls := "BoostForests$Table", name := "<init>", desc := "()V" } : Jvm.MethodName)) ∈ gw_tbl := List.mem_filter.mpr ⟨kt_1 _ (List.mem_of_getElem? (i := 23) rfl), rfl⟩
theorem kw_1_24 : (Jvm.Cond.code ({ cls := "BoostForests$Table", name := "<init>", desc := "()V" } : Jvm.MethodName) prog_5_method_1_code (1 : Nat) (Option.none : Option Jvm.ClassFile.FieldType)) ∈ gw_tbl := List.mem_filter.mpr ⟨kt_1 _ (List.mem_of_getElem? (i := 24) rfl), rfl⟩
theorem kw_1_25 : (Jvm.Cond.methodLink "BoostForests$Table" (3 : Nat) ({ cls := "java/lang/Object", name := "<init>", desc := "()V" } : Jvm.MethodName)) ∈ gw_tbl := List.mem_filter.mpr ⟨kt_1 _ (List.mem_of_getElem? (i := 25) rfl), rfl⟩
theorem kw_1_26 : (Jvm.Cond.classLink "BoostForests$Table" (9 : Nat) "[[I") ∈ gw_tbl := List.mem_filter.mpr ⟨kt_1 _ (List.mem_of_getElem? (i := 26) rfl), rfl⟩
theorem kl_1_27 : (Jvm.Cond.arrayOver (Jvm.ClassFile.FieldType.array Jvm.ClassFile.FieldType.int)) ∈ lw_tbl := kt_1 _ (List.mem_of_getElem? (i := 27) rfl)
theorem kw_1_28 : (Jvm.Cond.fieldLink "BoostForests$Table" (11 : Nat) "BoostForests$Table" "cells" "[[I") ∈ gw_tbl := List.mem_filter.mpr ⟨kt_1 _ (List.mem_of_getElem? (i := 28) rfl), rfl⟩
theorem kw_1_31 : (Jvm.Cond.fieldLink "BoostForests$Table" (16 : Nat) "BoostForests$Table" "aims" "[I") ∈ gw_tbl := List.mem_filter.mpr ⟨kt_1 _ (List.mem_of_getElem? (i := 31) rfl), rfl⟩
theorem kw_1_34 : (Jvm.Cond.fieldLink "BoostForests$Table" (20 : Nat) "BoostForests$Table" "weights" "[I") ∈ gw_tbl := List.mem_filter.mpr ⟨kt_1 _ (List.mem_of_getElem? (i := 34) rfl), rfl⟩
theorem kw_1_37 : (Jvm.Cond.fieldLink "BoostForests$Table" (23 : Nat) "BoostForests$Table" "held" "[Z") ∈ gw_tbl := List.mem_filter.mpr ⟨kt_1 _ (List.mem_of_getElem? (i := 37) rfl), rfl⟩
theorem kw_1_56 : (Jvm.Cond.arrayClass Jvm.ClassFile.FieldType.int) ∈ gw_tbl := List.mem_filter.mpr ⟨kt_1 _ (List.mem_of_getElem? (i := 56) rfl), rfl⟩
theorem kw_1_57 : (Jvm.Cond.arrayClass Jvm.ClassFile.FieldType.boolean) ∈ gw_tbl := List.mem_filter.mpr ⟨kt_1 _ (List.mem_of_getElem? (i := 57) rfl), rfl⟩
theorem kw_1_58 : (Jvm.Cond.fieldLink "BoostForests" (16 : Nat) "BoostForests" "AT_FIRST" "[I") ∈ gw_tbl := List.mem_filter.mpr ⟨kt_1 _ (List.mem_of_getElem? (i := 58) rfl), rfl⟩
theorem kl_1_59 : (Jvm.Cond.laysStatic "BoostForests" "AT_FIRST" "[I") ∈ lw_tbl := kt_1 _ (List.mem_of_getElem? (i := 59) rfl)
theorem kw_1_60 : (Jvm.Cond.methodLink "BoostForests" (20 : Nat) ({ cls := "[I", name := "clone", desc := "()Ljava/lang/Object;" } : Jvm.MethodName)) ∈ gw_tbl := List.mem_filter.mpr ⟨kt_1 _ (List.mem_of_getElem? (i := 60) rfl), rfl⟩
theorem kl_1_61 : (Jvm.Cond.sameMethod "[I" "java/lang/Object" "clone" "()Ljava/lang/Object;") ∈ lw_tbl := kt_1 _ (List.mem_of_getElem? (i := 61) rfl)
theorem kw_1_62 : (Jvm.Cond.native ({ cls := "java/lang/Object", name := "clone", desc := "()Ljava/lang/Object;" } : Jvm.MethodName)) ∈ gw_tbl := List.mem_filter.mpr ⟨kt_1 _ (List.mem_of_getElem? (i := 62) rfl), rfl⟩
theorem kw_1_63 : (Jvm.Cond.instanceMethod ({ cls := "java/lang/Object", name := "clone", desc := "()Ljava/lang/Object;" } : Jvm.MethodName)) ∈ gw_tbl := List.mem_filter.mpr ⟨kt_1 _ (List.mem_of_getElem? (i := 63) rfl), rfl⟩
theorem kw_1_66 : (Jvm.Cond.classLink "BoostForests" (21 : Nat) "[I") ∈ gw_tbl := List.mem_filter.mpr ⟨kt_1 _ (List.mem_of_getElem? (i := 66) rfl), rfl⟩
theorem kw_1_67 : (Jvm.Cond.classLink "BoostForests" (28 : Nat) "BoostForests$Training") ∈ gw_tbl := List.mem_filter.mpr ⟨kt_1 _ (List.mem_of_getElem? (i := 67) rfl), rfl⟩
theorem kw_1_68 : (Jvm.Cond.instantiable "BoostForests$Training" (10 : Nat)) ∈ gw_tbl := List.mem_filter.mpr ⟨kt_1 _ (List.mem_of_getElem? (i := 68) rfl), rfl⟩
theorem kw_1_69 : (Jvm.Cond.methodLink "BoostForests" (30 : Nat) ({ cls := "BoostForests$Training", name := "<init>", desc := "()V" } : Jvm.MethodName)) ∈ gw_tbl := List.mem_filter.mpr ⟨kt_1 _ (List.mem_of_getElem? (i := 69) rfl), rfl⟩
theorem kw_1_70 : (Jvm.Cond.instanceMethod ({ cls := "BoostForests$Training", name := "<init>", desc := "()V" } : Jvm.MethodName)) ∈ gw_tbl := List.mem_filter.mpr ⟨kt_1 _ (List.mem_of_getElem? (i := 70) rfl), rfl⟩
theorem kw_1_71 : (Jvm.Cond.code ({ cls := "BoostForests$Training", name := "<init>", desc := "()V" } : Jvm.MethodName) prog_6_method_1_code (2 : Nat) (Option.none : Option Jvm.ClassFile.FieldType)) ∈ gw_tbl := List.mem_filter.mpr ⟨kt_1 _ (List.mem_of_getElem? (i := 71) rfl), rfl⟩
theorem kw_1_72 : (Jvm.Cond.methodLink "BoostForests$Training" (3 : Nat) ({ cls := "java/lang/Object", name := "<init>", desc := "()V" } : Jvm.MethodName)) ∈ gw_tbl := List.mem_filter.mpr ⟨kt_1 _ (List.mem_of_getElem? (i := 72) rfl), rfl⟩
theorem kw_1_73 : (Jvm.Cond.classLink "BoostForests$Training" (9 : Nat) "BoostForests$Grower") ∈ gw_tbl := List.mem_filter.mpr ⟨kt_1 _ (List.mem_of_getElem? (i := 73) rfl), rfl⟩
theorem kw_1_74 : (Jvm.Cond.instantiable "BoostForests$Grower" (12 : Nat)) ∈ gw_tbl := List.mem_filter.mpr ⟨kt_1 _ (List.mem_of_getElem? (i := 74) rfl), rfl⟩
theorem kl_1_75 : (Jvm.Cond.methodLinkNest "BoostForests$Training" (11 : Nat) ({ cls := "BoostForests$Grower", name := "<init>", desc := "()V" } : Jvm.MethodName) "BoostForests") ∈ lw_tbl := kt_1 _ (List.mem_of_getElem? (i := 75) rfl)
theorem kw_1_76 : (Jvm.Cond.instanceMethod ({ cls := "BoostForests$Grower", name := "<init>", desc := "()V" } : Jvm.MethodName)) ∈ gw_tbl := List.mem_filter.mpr ⟨kt_1 _ (List.mem_of_getElem? (i := 76) rfl), rfl⟩
theorem kw_1_77 : (Jvm.Cond.code ({ cls := "BoostForests$Grower", name := "<init>", desc := "()V" } : Jvm.MethodName) prog_2_method_1_code (1 : Nat) (Option.none : Option Jvm.ClassFile.FieldType)) ∈ gw_tbl := List.mem_filter.mpr ⟨kt_1 _ (List.mem_of_getElem? (i := 77) rfl), rfl⟩
theorem kw_1_78 : (Jvm.Cond.methodLink "BoostForests$Grower" (3 : Nat) ({ cls := "java/lang/Object", name := "<init>", desc := "()V" } : Jvm.MethodName)) ∈ gw_tbl := List.mem_filter.mpr ⟨kt_1 _ (List.mem_of_getElem? (i := 78) rfl), rfl⟩
theorem kw_1_79 : (Jvm.Cond.classLink "BoostForests$Grower" (9 : Nat) "BoostForests$Table") ∈ gw_tbl := List.mem_filter.mpr ⟨kt_1 _ (List.mem_of_getElem? (i := 79) rfl), rfl⟩
theorem kl_1_80 : (Jvm.Cond.methodLinkNest "BoostForests$Grower" (11 : Nat) ({ cls := "BoostForests$Table", name := "<init>", desc := "()V" } : Jvm.MethodName) "BoostForests") ∈ lw_tbl := kt_1 _ (List.mem_of_getElem? (i := 80) rfl)
theorem kw_1_81 : (Jvm.Cond.classLink "BoostForests$Grower" (22 : Nat) "[[I") ∈ gw_tbl := List.mem_filter.mpr ⟨kt_1 _ (List.mem_of_getElem? (i := 81) rfl), rfl⟩
theorem kw_1_82 : (Jvm.Cond.classLink "BoostForests$Grower" (34 : Nat) "BoostForests$Sums") ∈ gw_tbl := List.mem_filter.mpr ⟨kt_1 _ (List.mem_of_getElem? (i := 82) rfl), rfl⟩
theorem kw_1_83 : (Jvm.Cond.instantiable "BoostForests$Sums" (3 : Nat)) ∈ gw_tbl := List.mem_filter.mpr ⟨kt_1 _ (List.mem_of_getElem? (i := 83) rfl), rfl⟩
theorem kl_1_84 : (Jvm.Cond.methodLinkNest "BoostForests$Grower" (36 : Nat) ({ cls := "BoostForests$Sums", name := "<init>", desc := "()V" } : Jvm.MethodName) "BoostForests") ∈ lw_tbl := kt_1 _ (List.mem_of_getElem? (i := 84) rfl)
theorem kw_1_85 : (Jvm.Cond.instanceMethod ({ cls := "BoostForests$Sums", name := "<init>", desc := "()V" } : Jvm.MethodName)) ∈ gw_tbl := List.mem_filter.mpr ⟨kt_1 _ (List.mem_of_getElem? (i := 85) rfl), rfl⟩
theorem kw_1_86 : (Jvm.Cond.code ({ cls := "BoostForests$Sums", name := "<init>", desc := "()V" } : Jvm.MethodName) prog_4_method_1_code (1 : Nat) (Option.none : Option Jvm.ClassFile.FieldType)) ∈ gw_tbl := List.mem_filter.mpr ⟨kt_1 _ (List.mem_of_getElem? (i := 86) rfl), rfl⟩
theorem kw_1_87 : (Jvm.Cond.methodLink "BoostForests$Sums" (1 : Nat) ({ cls := "java/lang/Object", name := "<init>", desc := "()V" } : Jvm.MethodName)) ∈ gw_tbl := List.mem_filter.mpr ⟨kt_1 _ (List.mem_of_getElem? (i := 87) rfl), rfl⟩
theorem kw_1_102 : (Jvm.Cond.arrayClass Jvm.ClassFile.FieldType.long) ∈ gw_tbl := List.mem_filter.mpr ⟨kt_1 _ (List.mem_of_getElem? (i := 102) rfl), rfl⟩
theorem kw_1_103 : (Jvm.Cond.classLink "BoostForests$Grower" (56 : Nat) "BoostForests$Split") ∈ gw_tbl := List.mem_filter.mpr ⟨kt_1 _ (List.mem_of_getElem? (i := 103) rfl), rfl⟩
theorem kw_1_104 : (Jvm.Cond.instantiable "BoostForests$Split" (4 : Nat)) ∈ gw_tbl := List.mem_filter.mpr ⟨kt_1 _ (List.mem_of_getElem? (i := 104) rfl), rfl⟩
theorem kl_1_105 : (Jvm.Cond.methodLinkNest "BoostForests$Grower" (58 : Nat) ({ cls := "BoostForests$Split", name := "<init>", desc := "()V" } : Jvm.MethodName) "BoostForests") ∈ lw_tbl := kt_1 _ (List.mem_of_getElem? (i := 105) rfl)
theorem kw_1_106 : (Jvm.Cond.instanceMethod ({ cls := "BoostForests$Split", name := "<init>", desc := "()V" } : Jvm.MethodName)) ∈ gw_tbl := List.mem_filter.mpr ⟨kt_1 _ (List.mem_of_getElem? (i := 106) rfl), rfl⟩
theorem kw_1_107 : (Jvm.Cond.code ({ cls := "BoostForests$Split", name := "<init>", desc := "()V" } : Jvm.MethodName) prog_3_method_1_code (1 : Nat) (Option.none : Option Jvm.ClassFile.FieldType)) ∈ gw_tbl := List.mem_filter.mpr ⟨kt_1 _ (List.mem_of_getElem? (i := 107) rfl), rfl⟩
theorem kw_1_108 : (Jvm.Cond.methodLink "BoostForests$Split" (3 : Nat) ({ cls := "java/lang/Object", name := "<init>", desc := "()V" } : Jvm.MethodName)) ∈ gw_tbl := List.mem_filter.mpr ⟨kt_1 _ (List.mem_of_getElem? (i := 108) rfl), rfl⟩
theorem kw_1_128 : (Jvm.Cond.fieldLink "BoostForests$Grower" (12 : Nat) "BoostForests$Grower" "rows" "LBoostForests$Table;") ∈ gw_tbl := List.mem_filter.mpr ⟨kt_1 _ (List.mem_of_getElem? (i := 128) rfl), rfl⟩
theorem kw_1_129 : (Jvm.Cond.fieldLink "BoostForests$Training" (18 : Nat) "BoostForests$Grower" "rows" "LBoostForests$Table;") ∈ gw_tbl := List.mem_filter.mpr ⟨kt_1 _ (List.mem_of_getElem? (i := 129) rfl), rfl⟩
theorem kw_1_130 : (Jvm.Cond.fieldLink "BoostForests$Grower" (18 : Nat) "BoostForests$Grower" "chosen" "[I") ∈ gw_tbl := List.mem_filter.mpr ⟨kt_1 _ (List.mem_of_getElem? (i := 130) rfl), rfl⟩
theorem kw_1_131 : (Jvm.Cond.fieldLink "BoostForests$Training" (23 : Nat) "BoostForests$Grower" "chosen" "[I") ∈ gw_tbl := List.mem_filter.mpr ⟨kt_1 _ (List.mem_of_getElem? (i := 131) rfl), rfl⟩
theorem kw_1_132 : (Jvm.Cond.fieldLink "BoostForests$Grower" (24 : Nat) "BoostForests$Grower" "order" "[[I") ∈ gw_tbl := List.mem_filter.mpr ⟨kt_1 _ (List.mem_of_getElem? (i := 132) rfl), rfl⟩
theorem kw_1_133 : (Jvm.Cond.fieldLink "BoostForests$Grower" (27 : Nat) "BoostForests$Grower" "nodeOf" "[I") ∈ gw_tbl := List.mem_filter.mpr ⟨kt_1 _ (List.mem_of_getElem? (i := 133) rfl), rfl⟩
theorem kw_1_134 : (Jvm.Cond.fieldLink "BoostForests$Grower" (30 : Nat) "BoostForests$Grower" "slopes" "[J") ∈ gw_tbl := List.mem_filter.mpr ⟨kt_1 _ (List.mem_of_getElem? (i := 134) rfl), rfl⟩
theorem kw_1_135 : (Jvm.Cond.fieldLink "BoostForests$Grower" (37 : Nat) "BoostForests$Grower" "whole" "LBoostForests$Sums;") ∈ gw_tbl := List.mem_filter.mpr ⟨kt_1 _ (List.mem_of_getElem? (i := 135) rfl), rfl⟩
theorem kw_1_136 : (Jvm.Cond.fieldLink "BoostForests$Grower" (41 : Nat) "BoostForests$Grower" "missing" "LBoostForests$Sums;") ∈ gw_tbl := List.mem_filter.mpr ⟨kt_1 _ (List.mem_of_getElem? (i := 136) rfl), rfl⟩
theorem kw_1_137 : (Jvm.Cond.fieldLink "BoostForests$Grower" (44 : Nat) "BoostForests$Grower" "below" "LBoostForests$Sums;") ∈ gw_tbl := List.mem_filter.mpr ⟨kt_1 _ (List.mem_of_getElem? (i := 137) rfl), rfl⟩
theorem kw_1_138 : (Jvm.Cond.fieldLink "BoostForests$Grower" (47 : Nat) "BoostForests$Grower" "low" "LBoostForests$Sums;") ∈ gw_tbl := List.mem_filter.mpr ⟨kt_1 _ (List.mem_of_getElem? (i := 138) rfl), rfl⟩
theorem kw_1_139 : (Jvm.Cond.fieldLink "BoostForests$Grower" (50 : Nat) "BoostForests$Grower" "high" "LBoostForests$Sums;") ∈ gw_tbl := List.mem_filter.mpr ⟨kt_1 _ (List.mem_of_getElem? (i := 139) rfl), rfl⟩
theorem kw_1_140 : (Jvm.Cond.fieldLink "BoostForests$Grower" (53 : Nat) "BoostForests$Grower" "nothing" "LBoostForests$Sums;") ∈ gw_tbl := List.mem_filter.mpr ⟨kt_1 _ (List.mem_of_getElem? (i := 140) rfl), rfl⟩
theorem kw_1_141 : (Jvm.Cond.fieldLink "BoostForests$Grower" (59 : Nat) "BoostForests$Grower" "split" "LBoostForests$Split;") ∈ gw_tbl := List.mem_filter.mpr ⟨kt_1 _ (List.mem_of_getElem? (i := 141) rfl), rfl⟩
theorem kw_1_167 : (Jvm.Cond.classLink "BoostForests$Training" (28 : Nat) "BoostForests$Tree") ∈ gw_tbl := List.mem_filter.mpr ⟨kt_1 _ (List.mem_of_getElem? (i := 167) rfl), rfl⟩
theorem kl_1_168 : (Jvm.Cond.arrayOver (Jvm.ClassFile.FieldType.object "BoostForests$Tree")) ∈ lw_tbl := kt_1 _ (List.mem_of_getElem? (i := 168) rfl)
theorem kw_1_169 : (Jvm.Cond.classLink "BoostForests$Training" (41 : Nat) "[[J") ∈ gw_tbl := List.mem_filter.mpr ⟨kt_1 _ (List.mem_of_getElem? (i := 169) rfl), rfl⟩
theorem kl_1_170 : (Jvm.Cond.arrayOver (Jvm.ClassFile.FieldType.array Jvm.ClassFile.FieldType.long)) ∈ lw_tbl := kt_1 _ (List.mem_of_getElem? (i := 170) rfl)
theorem kw_1_171 : (Jvm.Cond.instantiable "BoostForests$Tree" (3 : Nat)) ∈ gw_tbl := List.mem_filter.mpr ⟨kt_1 _ (List.mem_of_getElem? (i := 171) rfl), rfl⟩
theorem kl_1_172 : (Jvm.Cond.methodLinkNest "BoostForests$Training" (49 : Nat) ({ cls := "BoostForests$Tree", name := "<init>", desc := "()V" } : Jvm.MethodName) "BoostForests") ∈ lw_tbl := kt_1 _ (List.mem_of_getElem? (i := 172) rfl)
theorem kw_1_173 : (Jvm.Cond.instanceMethod ({ cls := "BoostForests$Tree", name := "<init>", desc := "()V" } : Jvm.MethodName)) ∈ gw_tbl := List.mem_filter.mpr ⟨kt_1 _ (List.mem_of_getElem? (i := 173) rfl), rfl⟩
theorem kw_1_174 : (Jvm.Cond.code ({ cls := "BoostForests$Tree", name := "<init>", desc := "()V" } : Jvm.MethodName) prog_7_method_1_code (1 : Nat) (Option.none : Option Jvm.ClassFile.FieldType)) ∈ gw_tbl := List.mem_filter.mpr ⟨kt_1 _ (List.mem_of_getElem? (i := 174) rfl), rfl⟩
theorem kw_1_175 : (Jvm.Cond.methodLink "BoostForests$Tree" (3 : Nat) ({ cls := "java/lang/Object", name := "<init>", desc := "()V" } : Jvm.MethodName)) ∈ gw_tbl := List.mem_filter.mpr ⟨kt_1 _ (List.mem_of_getElem? (i := 175) rfl), rfl⟩
theorem kw_1_176 : (Jvm.Cond.classLink "BoostForests$Tree" (9 : Nat) "[[I") ∈ gw_tbl := List.mem_filter.mpr ⟨kt_1 _ (List.mem_of_getElem? (i := 176) rfl), rfl⟩
theorem kw_1_177 : (Jvm.Cond.classLink "BoostForests$Tree" (16 : Nat) "[[J") ∈ gw_tbl := List.mem_filter.mpr ⟨kt_1 _ (List.mem_of_getElem? (i := 177) rfl), rfl⟩
theorem kw_1_178 : (Jvm.Cond.fieldLink "BoostForests$Tree" (11 : Nat) "BoostForests$Tree" "facts" "[[I") ∈ gw_tbl := List.mem_filter.mpr ⟨kt_1 _ (List.mem_of_getElem? (i := 178) rfl), rfl⟩
theorem kw_1_181 : (Jvm.Cond.fieldLink "BoostForests$Tree" (18 : Nat) "BoostForests$Tree" "sums" "[[J") ∈ gw_tbl := List.mem_filter.mpr ⟨kt_1 _ (List.mem_of_getElem? (i := 181) rfl), rfl⟩
theorem kw_1_195 : (Jvm.Cond.fieldLink "BoostForests$Training" (12 : Nat) "BoostForests$Training" "grower" "LBoostForests$Grower;") ∈ gw_tbl := List.mem_filter.mpr ⟨kt_1 _ (List.mem_of_getElem? (i := 195) rfl), rfl⟩
theorem kw_1_196 : (Jvm.Cond.fieldLink "BoostForests$Training" (22 : Nat) "BoostForests$Training" "rows" "LBoostForests$Table;") ∈ gw_tbl := List.mem_filter.mpr ⟨kt_1 _ (List.mem_of_getElem? (i := 196) rfl), rfl⟩
theorem kw_1_198 : (Jvm.Cond.fieldLink "BoostForests$Training" (27 : Nat) "BoostForests$Training" "chosen" "[I") ∈ gw_tbl := List.mem_filter.mpr ⟨kt_1 _ (List.mem_of_getElem? (i := 198) rfl), rfl⟩
theorem kw_1_199 : (Jvm.Cond.fieldLink "BoostForests$Training" (30 : Nat) "BoostForests$Training" "trees" "[LBoostForests$Tree;") ∈ gw_tbl := List.mem_filter.mpr ⟨kt_1 _ (List.mem_of_getElem? (i := 199) rfl), rfl⟩
theorem kw_1_201 : (Jvm.Cond.fieldLink "BoostForests$Training" (34 : Nat) "BoostForests$Training" "f" "[J") ∈ gw_tbl := List.mem_filter.mpr ⟨kt_1 _ (List.mem_of_getElem? (i := 201) rfl), rfl⟩
theorem kw_1_202 : (Jvm.Cond.fieldLink "BoostForests$Training" (38 : Nat) "BoostForests$Training" "tookPart" "[I") ∈ gw_tbl := List.mem_filter.mpr ⟨kt_1 _ (List.mem_of_getElem? (i := 202) rfl), rfl⟩
theorem kw_1_204 : (Jvm.Cond.fieldLink "BoostForests$Training" (43 : Nat) "BoostForests$Training" "losses" "[[J") ∈ gw_tbl := List.mem_filter.mpr ⟨kt_1 _ (List.mem_of_getElem? (i := 204) rfl), rfl⟩
theorem kw_1_206 : (Jvm.Cond.fieldLink "BoostForests$Training" (46 : Nat) "BoostForests$Training" "tells" "[J") ∈ gw_tbl := List.mem_filter.mpr ⟨kt_1 _ (List.mem_of_getElem? (i := 206) rfl), rfl⟩
theorem kw_1_232 : (Jvm.Cond.fieldLink "BoostForests" (10 : Nat) "BoostForests" "table" "LBoostForests$Table;") ∈ gw_tbl := List.mem_filter.mpr ⟨kt_1 _ (List.mem_of_getElem? (i := 232) rfl), rfl⟩
theorem kw_1_233 : (Jvm.Cond.fieldLink "BoostForests" (25 : Nat) "BoostForests" "settings" "[I") ∈ gw_tbl := List.mem_filter.mpr ⟨kt_1 _ (List.mem_of_getElem? (i := 233) rfl), rfl⟩
theorem kw_1_234 : (Jvm.Cond.fieldLink "BoostForests" (31 : Nat) "BoostForests" "training" "LBoostForests$Training;") ∈ gw_tbl := List.mem_filter.mpr ⟨kt_1 _ (List.mem_of_getElem? (i := 234) rfl), rfl⟩
theorem kw_1_235 : (Jvm.Cond.fieldLink "BoostForests" (35 : Nat) "BoostForests" "asked" "[I") ∈ gw_tbl := List.mem_filter.mpr ⟨kt_1 _ (List.mem_of_getElem? (i := 235) rfl), rfl⟩
theorem kw_3_65 : (Jvm.Cond.classLink "BoostForestsLaw" (10 : Nat) "BoostForestsModel") ∈ gw_tbl := List.mem_filter.mpr ⟨kt_3 _ (List.mem_of_getElem? (i := 65) rfl), rfl⟩
theorem kw_3_66 : (Jvm.Cond.instantiable "BoostForestsModel" (32 : Nat)) ∈ gw_tbl := List.mem_filter.mpr ⟨kt_3 _ (List.mem_of_getElem? (i := 66) rfl), rfl⟩
theorem kw_3_67 : (Jvm.Cond.methodLink "BoostForestsLaw" (12 : Nat) ({ cls := "BoostForestsModel", name := "<init>", desc := "()V" } : Jvm.MethodName)) ∈ gw_tbl := List.mem_filter.mpr ⟨kt_3 _ (List.mem_of_getElem? (i := 67) rfl), rfl⟩
theorem kw_3_68 : (Jvm.Cond.instanceMethod ({ cls := "BoostForestsModel", name := "<init>", desc := "()V" } : Jvm.MethodName)) ∈ gw_tbl := List.mem_filter.mpr ⟨kt_3 _ (List.mem_of_getElem? (i := 68) rfl), rfl⟩
theorem kw_3_69 : (Jvm.Cond.code ({ cls := "BoostForestsModel", name := "<init>", desc := "()V" } : Jvm.MethodName) prog_9_method_1_code (1 : Nat) (Option.none : Option Jvm.ClassFile.FieldType)) ∈ gw_tbl := List.mem_filter.mpr ⟨kt_3 _ (List.mem_of_getElem? (i := 69) rfl), rfl⟩
theorem kw_3_70 : (Jvm.Cond.methodLink "BoostForestsModel" (1 : Nat) ({ cls := "java/lang/Object", name := "<init>", desc := "()V" } : Jvm.MethodName)) ∈ gw_tbl := List.mem_filter.mpr ⟨kt_3 _ (List.mem_of_getElem? (i := 70) rfl), rfl⟩
theorem kw_3_72 : (Jvm.Cond.fieldLink "BoostForestsModel" (7 : Nat) "BoostForestsModel" "columns" "[I") ∈ gw_tbl := List.mem_filter.mpr ⟨kt_3 _ (List.mem_of_getElem? (i := 72) rfl), rfl⟩
theorem kw_3_73 : (Jvm.Cond.fieldLink "BoostForestsModel" (13 : Nat) "BoostForestsModel" "aims" "[I") ∈ gw_tbl := List.mem_filter.mpr ⟨kt_3 _ (List.mem_of_getElem? (i := 73) rfl), rfl⟩
theorem kw_3_74 : (Jvm.Cond.fieldLink "BoostForestsModel" (16 : Nat) "BoostForestsModel" "weights" "[I") ∈ gw_tbl := List.mem_filter.mpr ⟨kt_3 _ (List.mem_of_getElem? (i := 74) rfl), rfl⟩
theorem kw_3_75 : (Jvm.Cond.fieldLink "BoostForestsModel" (19 : Nat) "BoostForestsModel" "held" "[Z") ∈ gw_tbl := List.mem_filter.mpr ⟨kt_3 _ (List.mem_of_getElem? (i := 75) rfl), rfl⟩
theorem kw_3_76 : (Jvm.Cond.fieldLink "BoostForestsModel" (23 : Nat) "BoostForestsModel" "settings" "[I") ∈ gw_tbl := List.mem_filter.mpr ⟨kt_3 _ (List.mem_of_getElem? (i := 76) rfl), rfl⟩
theorem kw_3_79 : (Jvm.Cond.fieldLink "BoostForestsModel" (26 : Nat) "BoostForestsModel" "cols" "[I") ∈ gw_tbl := List.mem_filter.mpr ⟨kt_3 _ (List.mem_of_getElem? (i := 79) rfl), rfl⟩
theorem kw_3_80 : (Jvm.Cond.fieldLink "BoostForestsModel" (29 : Nat) "BoostForestsModel" "ys" "[I") ∈ gw_tbl := List.mem_filter.mpr ⟨kt_3 _ (List.mem_of_getElem? (i := 80) rfl), rfl⟩
theorem kw_3_81 : (Jvm.Cond.fieldLink "BoostForestsModel" (32 : Nat) "BoostForestsModel" "ws" "[I") ∈ gw_tbl := List.mem_filter.mpr ⟨kt_3 _ (List.mem_of_getElem? (i := 81) rfl), rfl⟩
theorem kw_3_82 : (Jvm.Cond.fieldLink "BoostForestsModel" (35 : Nat) "BoostForestsModel" "isHeld" "[Z") ∈ gw_tbl := List.mem_filter.mpr ⟨kt_3 _ (List.mem_of_getElem? (i := 82) rfl), rfl⟩
theorem kw_3_83 : (Jvm.Cond.fieldLink "BoostForestsModel" (38 : Nat) "BoostForestsModel" "then" "[I") ∈ gw_tbl := List.mem_filter.mpr ⟨kt_3 _ (List.mem_of_getElem? (i := 83) rfl), rfl⟩
theorem kw_3_84 : (Jvm.Cond.fieldLink "BoostForestsModel" (41 : Nat) "BoostForestsModel" "now" "[J") ∈ gw_tbl := List.mem_filter.mpr ⟨kt_3 _ (List.mem_of_getElem? (i := 84) rfl), rfl⟩
theorem kw_3_86 : (Jvm.Cond.fieldLink "BoostForestsModel" (45 : Nat) "BoostForestsModel" "losses" "[J") ∈ gw_tbl := List.mem_filter.mpr ⟨kt_3 _ (List.mem_of_getElem? (i := 86) rfl), rfl⟩
theorem kw_3_87 : (Jvm.Cond.fieldLink "BoostForestsModel" (48 : Nat) "BoostForestsModel" "takesPart" "[Z") ∈ gw_tbl := List.mem_filter.mpr ⟨kt_3 _ (List.mem_of_getElem? (i := 87) rfl), rfl⟩
theorem kw_3_88 : (Jvm.Cond.fieldLink "BoostForestsModel" (51 : Nat) "BoostForestsModel" "sizes" "[I") ∈ gw_tbl := List.mem_filter.mpr ⟨kt_3 _ (List.mem_of_getElem? (i := 88) rfl), rfl⟩
theorem kw_3_89 : (Jvm.Cond.fieldLink "BoostForestsModel" (54 : Nat) "BoostForestsModel" "nodeColumns" "[I") ∈ gw_tbl := List.mem_filter.mpr ⟨kt_3 _ (List.mem_of_getElem? (i := 89) rfl), rfl⟩
theorem kw_3_90 : (Jvm.Cond.fieldLink "BoostForestsModel" (57 : Nat) "BoostForestsModel" "nodeCuts" "[I") ∈ gw_tbl := List.mem_filter.mpr ⟨kt_3 _ (List.mem_of_getElem? (i := 90) rfl), rfl⟩
theorem kw_3_91 : (Jvm.Cond.fieldLink "BoostForestsModel" (60 : Nat) "BoostForestsModel" "nodeSides" "[I") ∈ gw_tbl := List.mem_filter.mpr ⟨kt_3 _ (List.mem_of_getElem? (i := 91) rfl), rfl⟩
theorem kw_3_92 : (Jvm.Cond.fieldLink "BoostForestsModel" (63 : Nat) "BoostForestsModel" "nodeLefts" "[I") ∈ gw_tbl := List.mem_filter.mpr ⟨kt_3 _ (List.mem_of_getElem? (i := 92) rfl), rfl⟩
theorem kw_3_93 : (Jvm.Cond.fieldLink "BoostForestsModel" (66 : Nat) "BoostForestsModel" "nodeRows" "[I") ∈ gw_tbl := List.mem_filter.mpr ⟨kt_3 _ (List.mem_of_getElem? (i := 93) rfl), rfl⟩
theorem kw_3_94 : (Jvm.Cond.fieldLink "BoostForestsModel" (69 : Nat) "BoostForestsModel" "nodeWeights" "[I") ∈ gw_tbl := List.mem_filter.mpr ⟨kt_3 _ (List.mem_of_getElem? (i := 94) rfl), rfl⟩
theorem kw_3_95 : (Jvm.Cond.fieldLink "BoostForestsModel" (72 : Nat) "BoostForestsModel" "nodeDepths" "[I") ∈ gw_tbl := List.mem_filter.mpr ⟨kt_3 _ (List.mem_of_getElem? (i := 95) rfl), rfl⟩
theorem kw_3_96 : (Jvm.Cond.fieldLink "BoostForestsModel" (75 : Nat) "BoostForestsModel" "nodeSlopes" "[J") ∈ gw_tbl := List.mem_filter.mpr ⟨kt_3 _ (List.mem_of_getElem? (i := 96) rfl), rfl⟩
theorem kw_3_97 : (Jvm.Cond.fieldLink "BoostForestsModel" (78 : Nat) "BoostForestsModel" "nodeGains" "[J") ∈ gw_tbl := List.mem_filter.mpr ⟨kt_3 _ (List.mem_of_getElem? (i := 97) rfl), rfl⟩
theorem kw_3_98 : (Jvm.Cond.fieldLink "BoostForestsModel" (81 : Nat) "BoostForestsModel" "nodeOf" "[I") ∈ gw_tbl := List.mem_filter.mpr ⟨kt_3 _ (List.mem_of_getElem? (i := 98) rfl), rfl⟩
theorem kw_3_99 : (Jvm.Cond.fieldLink "BoostForestsModel" (84 : Nat) "BoostForestsModel" "tells" "[J") ∈ gw_tbl := List.mem_filter.mpr ⟨kt_3 _ (List.mem_of_getElem? (i := 99) rfl), rfl⟩
end
section
theorem d_BF_init_0 : decode b_BF_init 0 = .ok (.aload_n 0, 1) := by decide +kernel
theorem d_BF_init_1 : decode b_BF_init 1 = .ok (.invokespecial 1, 3) := by decide +kernel
theorem d_BF_init_4 : decode b_BF_init 4 = .ok (.aload_n 0, 1) := by decide +kernel
theorem d_BF_init_5 : decode b_BF_init 5 = .ok (.new 7, 3) := by decide +kernel
theorem d_BF_init_8 : decode b_BF_init 8 = .ok (.dup, 1) := by decide +kernel
theorem d_BF_init_9 : decode b_BF_init 9 = .ok (.invokespecial 9, 3) := by decide +kernel
theorem d_BF_init_12 : decode b_BF_init 12 = .ok (.putfield 10, 3) := by decide +kernel
theorem d_BF_init_15 : decode b_BF_init 15 = .ok (.aload_n 0, 1) := by decide +kernel
theorem d_BF_init_16 : decode b_BF_init 16 = .ok (.getstatic 16, 3) := by decide +kernel
theorem d_BF_init_19 : decode b_BF_init 19 = .ok (.invokevirtual 20, 3) := by decide +kernel
theorem d_BF_init_22 : decode b_BF_init 22 = .ok (.checkcast 21, 3) := by decide +kernel
theorem d_BF_init_25 : decode b_BF_init 25 = .ok (.putfield 25, 3) := by decide +kernel
theorem d_BF_init_28 : decode b_BF_init 28 = .ok (.aload_n 0, 1) := by decide +kernel
theorem d_BF_init_29 : decode b_BF_init 29 = .ok (.new 28, 3) := by decide +kernel
theorem d_BF_init_32 : decode b_BF_init 32 = .ok (.dup, 1) := by decide +kernel
theorem d_BF_init_33 : decode b_BF_init 33 = .ok (.invokespecial 30, 3) := by decide +kernel
theorem d_BF_init_36 : decode b_BF_init 36 = .ok (.putfield 31, 3) := by decide +kernel
theorem d_BF_init_39 : decode b_BF_init 39 = .ok (.aload_n 0, 1) := by decide +kernel
theorem d_BF_init_40 : decode b_BF_init 40 = .ok (.iconst 4, 1) := by decide +kernel
theorem d_BF_init_41 : decode b_BF_init 41 = .ok (.newarray .int, 2) := by decide +kernel
theorem d_BF_init_43 : decode b_BF_init 43 = .ok (.putfield 35, 3) := by decide +kernel
theorem d_BF_init_46 : decode b_BF_init 46 = .ok (.return_, 1) := by decide +kernel
theorem d_SP_init_0 : decode b_SP_init 0 = .ok (.aload_n 0, 1) := by decide +kernel
theorem d_SP_init_1 : decode b_SP_init 1 = .ok (.invokespecial 3, 3) := by decide +kernel
theorem d_SP_init_4 : decode b_SP_init 4 = .ok (.return_, 1) := by decide +kernel
theorem d_SM_init_0 : decode b_SM_init 0 = .ok (.aload_n 0, 1) := by decide +kernel
theorem d_SM_init_1 : decode b_SM_init 1 = .ok (.invokespecial 1, 3) := by decide +kernel
theorem d_SM_init_4 : decode b_SM_init 4 = .ok (.return_, 1) := by decide +kernel
theorem d_TB_init_0 : decode b_TB_init 0 = .ok (.aload_n 0, 1) := by decide +kernel
theorem d_TB_init_1 : decode b_TB_init 1 = .ok (.invokespecial 3, 3) := by decide +kernel
theorem d_TB_init_4 : decode b_TB_init 4 = .ok (.aload_n 0, 1) := by decide +kernel
theorem d_TB_init_5 : decode b_TB_init 5 = .ok (.bipush 40, 2) := by decide +kernel
theorem d_TB_init_7 : decode b_TB_init 7 = .ok (.iconst 4, 1) := by decide +kernel
theorem d_TB_init_8 : decode b_TB_init 8 = .ok (.multianewarray 9 2, 4) := by decide +kernel
theorem d_TB_init_12 : decode b_TB_init 12 = .ok (.putfield 11, 3) := by decide +kernel
theorem d_TB_init_15 : decode b_TB_init 15 = .ok (.aload_n 0, 1) := by decide +kernel
theorem d_TB_init_16 : decode b_TB_init 16 = .ok (.bipush 40, 2) := by decide +kernel
theorem d_TB_init_18 : decode b_TB_init 18 = .ok (.newarray .int, 2) := by decide +kernel
theorem d_TB_init_20 : decode b_TB_init 20 = .ok (.putfield 16, 3) := by decide +kernel
theorem d_TB_init_23 : decode b_TB_init 23 = .ok (.aload_n 0, 1) := by decide +kernel
theorem d_TB_init_24 : decode b_TB_init 24 = .ok (.bipush 40, 2) := by decide +kernel
theorem d_TB_init_26 : decode b_TB_init 26 = .ok (.newarray .int, 2) := by decide +kernel
theorem d_TB_init_28 : decode b_TB_init 28 = .ok (.putfield 20, 3) := by decide +kernel
theorem d_TB_init_31 : decode b_TB_init 31 = .ok (.aload_n 0, 1) := by decide +kernel
theorem d_TB_init_32 : decode b_TB_init 32 = .ok (.bipush 40, 2) := by decide +kernel
theorem d_TB_init_34 : decode b_TB_init 34 = .ok (.newarray .boolean, 2) := by decide +kernel
theorem d_TB_init_36 : decode b_TB_init 36 = .ok (.putfield 23, 3) := by decide +kernel
theorem d_TB_init_39 : decode b_TB_init 39 = .ok (.return_, 1) := by decide +kernel
end
section
theorem d_GR_init_0 : decode b_GR_init 0 = .ok (.aload_n 0, 1) := by decide +kernel
theorem d_GR_init_1 : decode b_GR_init 1 = .ok (.invokespecial 3, 3) := by decide +kernel
theorem d_GR_init_4 : decode b_GR_init 4 = .ok (.aload_n 0, 1) := by decide +kernel
theorem d_GR_init_5 : decode b_GR_init 5 = .ok (.new 9, 3) := by decide +kernel
theorem d_GR_init_8 : decode b_GR_init 8 = .ok (.dup, 1) := by decide +kernel
theorem d_GR_init_9 : decode b_GR_init 9 = .ok (.invokespecial 11, 3) := by decide +kernel
theorem d_GR_init_12 : decode b_GR_init 12 = .ok (.putfield 12, 3) := by decide +kernel
theorem d_GR_init_15 : decode b_GR_init 15 = .ok (.aload_n 0, 1) := by decide +kernel
theorem d_GR_init_16 : decode b_GR_init 16 = .ok (.bipush 15, 2) := by decide +kernel
theorem d_GR_init_18 : decode b_GR_init 18 = .ok (.newarray .int, 2) := by decide +kernel
theorem d_GR_init_20 : decode b_GR_init 20 = .ok (.putfield 18, 3) := by decide +kernel
theorem d_GR_init_23 : decode b_GR_init 23 = .ok (.aload_n 0, 1) := by decide +kernel
theorem d_GR_init_24 : decode b_GR_init 24 = .ok (.iconst 4, 1) := by decide +kernel
theorem d_GR_init_25 : decode b_GR_init 25 = .ok (.bipush 40, 2) := by decide +kernel
theorem d_GR_init_27 : decode b_GR_init 27 = .ok (.multianewarray 22 2, 4) := by decide +kernel
theorem d_GR_init_31 : decode b_GR_init 31 = .ok (.putfield 24, 3) := by decide +kernel
theorem d_GR_init_34 : decode b_GR_init 34 = .ok (.aload_n 0, 1) := by decide +kernel
theorem d_GR_init_35 : decode b_GR_init 35 = .ok (.bipush 40, 2) := by decide +kernel
theorem d_GR_init_37 : decode b_GR_init 37 = .ok (.newarray .int, 2) := by decide +kernel
theorem d_GR_init_39 : decode b_GR_init 39 = .ok (.putfield 27, 3) := by decide +kernel
theorem d_GR_init_42 : decode b_GR_init 42 = .ok (.aload_n 0, 1) := by decide +kernel
theorem d_GR_init_43 : decode b_GR_init 43 = .ok (.bipush 40, 2) := by decide +kernel
theorem d_GR_init_45 : decode b_GR_init 45 = .ok (.newarray .long, 2) := by decide +kernel
theorem d_GR_init_47 : decode b_GR_init 47 = .ok (.putfield 30, 3) := by decide +kernel
theorem d_GR_init_50 : decode b_GR_init 50 = .ok (.aload_n 0, 1) := by decide +kernel
theorem d_GR_init_51 : decode b_GR_init 51 = .ok (.new 34, 3) := by decide +kernel
theorem d_GR_init_54 : decode b_GR_init 54 = .ok (.dup, 1) := by decide +kernel
theorem d_GR_init_55 : decode b_GR_init 55 = .ok (.invokespecial 36, 3) := by decide +kernel
theorem d_GR_init_58 : decode b_GR_init 58 = .ok (.putfield 37, 3) := by decide +kernel
theorem d_GR_init_61 : decode b_GR_init 61 = .ok (.aload_n 0, 1) := by decide +kernel
theorem d_GR_init_62 : decode b_GR_init 62 = .ok (.new 34, 3) := by decide +kernel
theorem d_GR_init_65 : decode b_GR_init 65 = .ok (.dup, 1) := by decide +kernel
theorem d_GR_init_66 : decode b_GR_init 66 = .ok (.invokespecial 36, 3) := by decide +kernel
theorem d_GR_init_69 : decode b_GR_init 69 = .ok (.putfield 41, 3) := by decide +kernel
theorem d_GR_init_72 : decode b_GR_init 72 = .ok (.aload_n 0, 1) := by decide +kernel
theorem d_GR_init_73 : decode b_GR_init 73 = .ok (.new 34, 3) := by decide +kernel
theorem d_GR_init_76 : decode b_GR_init 76 = .ok (.dup, 1) := by decide +kernel
theorem d_GR_init_77 : decode b_GR_init 77 = .ok (.invokespecial 36, 3) := by decide +kernel
theorem d_GR_init_80 : decode b_GR_init 80 = .ok (.putfield 44, 3) := by decide +kernel
theorem d_GR_init_83 : decode b_GR_init 83 = .ok (.aload_n 0, 1) := by decide +kernel
theorem d_GR_init_84 : decode b_GR_init 84 = .ok (.new 34, 3) := by decide +kernel
theorem d_GR_init_87 : decode b_GR_init 87 = .ok (.dup, 1) := by decide +kernel
theorem d_GR_init_88 : decode b_GR_init 88 = .ok (.invokespecial 36, 3) := by decide +kernel
theorem d_GR_init_91 : decode b_GR_init 91 = .ok (.putfield 47, 3) := by decide +kernel
theorem d_GR_init_94 : decode b_GR_init 94 = .ok (.aload_n 0, 1) := by decide +kernel
theorem d_GR_init_95 : decode b_GR_init 95 = .ok (.new 34, 3) := by decide +kernel
theorem d_GR_init_98 : decode b_GR_init 98 = .ok (.dup, 1) := by decide +kernel
theorem d_GR_init_99 : decode b_GR_init 99 = .ok (.invokespecial 36, 3) := by decide +kernel
theorem d_GR_init_102 : decode b_GR_init 102 = .ok (.putfield 50, 3) := by decide +kernel
theorem d_GR_init_105 : decode b_GR_init 105 = .ok (.aload_n 0, 1) := by decide +kernel
theorem d_GR_init_106 : decode b_GR_init 106 = .ok (.new 34, 3) := by decide +kernel
theorem d_GR_init_109 : decode b_GR_init 109 = .ok (.dup, 1) := by decide +kernel
theorem d_GR_init_110 : decode b_GR_init 110 = .ok (.invokespecial 36, 3) := by decide +kernel
theorem d_GR_init_113 : decode b_GR_init 113 = .ok (.putfield 53, 3) := by decide +kernel
theorem d_GR_init_116 : decode b_GR_init 116 = .ok (.aload_n 0, 1) := by decide +kernel
theorem d_GR_init_117 : decode b_GR_init 117 = .ok (.new 56, 3) := by decide +kernel
theorem d_GR_init_120 : decode b_GR_init 120 = .ok (.dup, 1) := by decide +kernel
theorem d_GR_init_121 : decode b_GR_init 121 = .ok (.invokespecial 58, 3) := by decide +kernel
theorem d_GR_init_124 : decode b_GR_init 124 = .ok (.putfield 59, 3) := by decide +kernel
theorem d_GR_init_127 : decode b_GR_init 127 = .ok (.return_, 1) := by decide +kernel
theorem d_TG_init_0 : decode b_TG_init 0 = .ok (.aload_n 0, 1) := by decide +kernel
theorem d_TG_init_1 : decode b_TG_init 1 = .ok (.invokespecial 3, 3) := by decide +kernel
theorem d_TG_init_4 : decode b_TG_init 4 = .ok (.aload_n 0, 1) := by decide +kernel
theorem d_TG_init_5 : decode b_TG_init 5 = .ok (.new 9, 3) := by decide +kernel
theorem d_TG_init_8 : decode b_TG_init 8 = .ok (.dup, 1) := by decide +kernel
theorem d_TG_init_9 : decode b_TG_init 9 = .ok (.invokespecial 11, 3) := by decide +kernel
theorem d_TG_init_12 : decode b_TG_init 12 = .ok (.putfield 12, 3) := by decide +kernel
theorem d_TG_init_15 : decode b_TG_init 15 = .ok (.aload_n 0, 1) := by decide +kernel
theorem d_TG_init_16 : decode b_TG_init 16 = .ok (.aload_n 0, 1) := by decide +kernel
theorem d_TG_init_17 : decode b_TG_init 17 = .ok (.getfield 12, 3) := by decide +kernel
theorem d_TG_init_20 : decode b_TG_init 20 = .ok (.getfield 18, 3) := by decide +kernel
theorem d_TG_init_23 : decode b_TG_init 23 = .ok (.putfield 22, 3) := by decide +kernel
theorem d_TG_init_26 : decode b_TG_init 26 = .ok (.aload_n 0, 1) := by decide +kernel
theorem d_TG_init_27 : decode b_TG_init 27 = .ok (.aload_n 0, 1) := by decide +kernel
theorem d_TG_init_28 : decode b_TG_init 28 = .ok (.getfield 12, 3) := by decide +kernel
theorem d_TG_init_31 : decode b_TG_init 31 = .ok (.getfield 23, 3) := by decide +kernel
theorem d_TG_init_34 : decode b_TG_init 34 = .ok (.putfield 27, 3) := by decide +kernel
theorem d_TG_init_37 : decode b_TG_init 37 = .ok (.aload_n 0, 1) := by decide +kernel
theorem d_TG_init_38 : decode b_TG_init 38 = .ok (.bipush 12, 2) := by decide +kernel
theorem d_TG_init_40 : decode b_TG_init 40 = .ok (.anewarray 28, 3) := by decide +kernel
theorem d_TG_init_43 : decode b_TG_init 43 = .ok (.putfield 30, 3) := by decide +kernel
theorem d_TG_init_46 : decode b_TG_init 46 = .ok (.aload_n 0, 1) := by decide +kernel
theorem d_TG_init_47 : decode b_TG_init 47 = .ok (.bipush 40, 2) := by decide +kernel
theorem d_TG_init_49 : decode b_TG_init 49 = .ok (.newarray .long, 2) := by decide +kernel
theorem d_TG_init_51 : decode b_TG_init 51 = .ok (.putfield 34, 3) := by decide +kernel
theorem d_TG_init_54 : decode b_TG_init 54 = .ok (.aload_n 0, 1) := by decide +kernel
theorem d_TG_init_55 : decode b_TG_init 55 = .ok (.bipush 40, 2) := by decide +kernel
theorem d_TG_init_57 : decode b_TG_init 57 = .ok (.newarray .int, 2) := by decide +kernel
theorem d_TG_init_59 : decode b_TG_init 59 = .ok (.putfield 38, 3) := by decide +kernel
theorem d_TG_init_62 : decode b_TG_init 62 = .ok (.aload_n 0, 1) := by decide +kernel
theorem d_TG_init_63 : decode b_TG_init 63 = .ok (.iconst 2, 1) := by decide +kernel
theorem d_TG_init_64 : decode b_TG_init 64 = .ok (.bipush 13, 2) := by decide +kernel
theorem d_TG_init_66 : decode b_TG_init 66 = .ok (.multianewarray 41 2, 4) := by decide +kernel
theorem d_TG_init_70 : decode b_TG_init 70 = .ok (.putfield 43, 3) := by decide +kernel
theorem d_TG_init_73 : decode b_TG_init 73 = .ok (.aload_n 0, 1) := by decide +kernel
theorem d_TG_init_74 : decode b_TG_init 74 = .ok (.bipush 31, 2) := by decide +kernel
theorem d_TG_init_76 : decode b_TG_init 76 = .ok (.newarray .long, 2) := by decide +kernel
theorem d_TG_init_78 : decode b_TG_init 78 = .ok (.putfield 46, 3) := by decide +kernel
theorem d_TG_init_81 : decode b_TG_init 81 = .ok (.iconst 0, 1) := by decide +kernel
theorem d_TG_init_82 : decode b_TG_init 82 = .ok (.istore_n 1, 1) := by decide +kernel
theorem d_TG_init_83 : decode b_TG_init 83 = .ok (.iload_n 1, 1) := by decide +kernel
theorem d_TG_init_84 : decode b_TG_init 84 = .ok (.bipush 12, 2) := by decide +kernel
theorem d_TG_init_86 : decode b_TG_init 86 = .ok (.if_icmp .ge 22, 3) := by decide +kernel
theorem d_TG_init_89 : decode b_TG_init 89 = .ok (.aload_n 0, 1) := by decide +kernel
theorem d_TG_init_90 : decode b_TG_init 90 = .ok (.getfield 30, 3) := by decide +kernel
theorem d_TG_init_93 : decode b_TG_init 93 = .ok (.iload_n 1, 1) := by decide +kernel
theorem d_TG_init_94 : decode b_TG_init 94 = .ok (.new 28, 3) := by decide +kernel
theorem d_TG_init_97 : decode b_TG_init 97 = .ok (.dup, 1) := by decide +kernel
theorem d_TG_init_98 : decode b_TG_init 98 = .ok (.invokespecial 49, 3) := by decide +kernel
theorem d_TG_init_101 : decode b_TG_init 101 = .ok (.aastore, 1) := by decide +kernel
theorem d_TG_init_102 : decode b_TG_init 102 = .ok (.iinc 1 1, 3) := by decide +kernel
theorem d_TG_init_105 : decode b_TG_init 105 = .ok (.goto (-22), 3) := by decide +kernel
theorem d_TG_init_108 : decode b_TG_init 108 = .ok (.return_, 1) := by decide +kernel
theorem d_TR_init_0 : decode b_TR_init 0 = .ok (.aload_n 0, 1) := by decide +kernel
theorem d_TR_init_1 : decode b_TR_init 1 = .ok (.invokespecial 3, 3) := by decide +kernel
theorem d_TR_init_4 : decode b_TR_init 4 = .ok (.aload_n 0, 1) := by decide +kernel
theorem d_TR_init_5 : decode b_TR_init 5 = .ok (.bipush 7, 2) := by decide +kernel
theorem d_TR_init_7 : decode b_TR_init 7 = .ok (.bipush 31, 2) := by decide +kernel
theorem d_TR_init_9 : decode b_TR_init 9 = .ok (.multianewarray 9 2, 4) := by decide +kernel
theorem d_TR_init_13 : decode b_TR_init 13 = .ok (.putfield 11, 3) := by decide +kernel
theorem d_TR_init_16 : decode b_TR_init 16 = .ok (.aload_n 0, 1) := by decide +kernel
theorem d_TR_init_17 : decode b_TR_init 17 = .ok (.iconst 3, 1) := by decide +kernel
theorem d_TR_init_18 : decode b_TR_init 18 = .ok (.bipush 31, 2) := by decide +kernel
theorem d_TR_init_20 : decode b_TR_init 20 = .ok (.multianewarray 16 2, 4) := by decide +kernel
theorem d_TR_init_24 : decode b_TR_init 24 = .ok (.putfield 18, 3) := by decide +kernel
theorem d_TR_init_27 : decode b_TR_init 27 = .ok (.return_, 1) := by decide +kernel
end
section
theorem d_MD_init_0 : decode b_MD_init 0 = .ok (.aload_n 0, 1) := by decide +kernel
theorem d_MD_init_1 : decode b_MD_init 1 = .ok (.invokespecial 1, 3) := by decide +kernel
theorem d_MD_init_4 : decode b_MD_init 4 = .ok (.aload_n 0, 1) := by decide +kernel
theorem d_MD_init_5 : decode b_MD_init 5 = .ok (.sipush 160, 3) := by decide +kernel
theorem d_MD_init_8 : decode b_MD_init 8 = .ok (.newarray .int, 2) := by decide +kernel
theorem d_MD_init_10 : decode b_MD_init 10 = .ok (.putfield 7, 3) := by decide +kernel
theorem d_MD_init_13 : decode b_MD_init 13 = .ok (.aload_n 0, 1) := by decide +kernel
theorem d_MD_init_14 : decode b_MD_init 14 = .ok (.bipush 40, 2) := by decide +kernel
theorem d_MD_init_16 : decode b_MD_init 16 = .ok (.newarray .int, 2) := by decide +kernel
theorem d_MD_init_18 : decode b_MD_init 18 = .ok (.putfield 13, 3) := by decide +kernel
theorem d_MD_init_21 : decode b_MD_init 21 = .ok (.aload_n 0, 1) := by decide +kernel
theorem d_MD_init_22 : decode b_MD_init 22 = .ok (.bipush 40, 2) := by decide +kernel
theorem d_MD_init_24 : decode b_MD_init 24 = .ok (.newarray .int, 2) := by decide +kernel
theorem d_MD_init_26 : decode b_MD_init 26 = .ok (.putfield 16, 3) := by decide +kernel
theorem d_MD_init_29 : decode b_MD_init 29 = .ok (.aload_n 0, 1) := by decide +kernel
theorem d_MD_init_30 : decode b_MD_init 30 = .ok (.bipush 40, 2) := by decide +kernel
theorem d_MD_init_32 : decode b_MD_init 32 = .ok (.newarray .boolean, 2) := by decide +kernel
theorem d_MD_init_34 : decode b_MD_init 34 = .ok (.putfield 19, 3) := by decide +kernel
theorem d_MD_init_37 : decode b_MD_init 37 = .ok (.aload_n 0, 1) := by decide +kernel
theorem d_MD_init_38 : decode b_MD_init 38 = .ok (.bipush 15, 2) := by decide +kernel
theorem d_MD_init_40 : decode b_MD_init 40 = .ok (.newarray .int, 2) := by decide +kernel
theorem d_MD_init_42 : decode b_MD_init 42 = .ok (.putfield 23, 3) := by decide +kernel
theorem d_MD_init_45 : decode b_MD_init 45 = .ok (.aload_n 0, 1) := by decide +kernel
theorem d_MD_init_46 : decode b_MD_init 46 = .ok (.sipush 160, 3) := by decide +kernel
theorem d_MD_init_49 : decode b_MD_init 49 = .ok (.newarray .int, 2) := by decide +kernel
theorem d_MD_init_51 : decode b_MD_init 51 = .ok (.putfield 26, 3) := by decide +kernel
theorem d_MD_init_54 : decode b_MD_init 54 = .ok (.aload_n 0, 1) := by decide +kernel
theorem d_MD_init_55 : decode b_MD_init 55 = .ok (.bipush 40, 2) := by decide +kernel
theorem d_MD_init_57 : decode b_MD_init 57 = .ok (.newarray .int, 2) := by decide +kernel
theorem d_MD_init_59 : decode b_MD_init 59 = .ok (.putfield 29, 3) := by decide +kernel
theorem d_MD_init_62 : decode b_MD_init 62 = .ok (.aload_n 0, 1) := by decide +kernel
theorem d_MD_init_63 : decode b_MD_init 63 = .ok (.bipush 40, 2) := by decide +kernel
theorem d_MD_init_65 : decode b_MD_init 65 = .ok (.newarray .int, 2) := by decide +kernel
theorem d_MD_init_67 : decode b_MD_init 67 = .ok (.putfield 32, 3) := by decide +kernel
theorem d_MD_init_70 : decode b_MD_init 70 = .ok (.aload_n 0, 1) := by decide +kernel
theorem d_MD_init_71 : decode b_MD_init 71 = .ok (.bipush 40, 2) := by decide +kernel
theorem d_MD_init_73 : decode b_MD_init 73 = .ok (.newarray .boolean, 2) := by decide +kernel
theorem d_MD_init_75 : decode b_MD_init 75 = .ok (.putfield 35, 3) := by decide +kernel
theorem d_MD_init_78 : decode b_MD_init 78 = .ok (.aload_n 0, 1) := by decide +kernel
theorem d_MD_init_79 : decode b_MD_init 79 = .ok (.bipush 15, 2) := by decide +kernel
theorem d_MD_init_81 : decode b_MD_init 81 = .ok (.newarray .int, 2) := by decide +kernel
theorem d_MD_init_83 : decode b_MD_init 83 = .ok (.putfield 38, 3) := by decide +kernel
theorem d_MD_init_86 : decode b_MD_init 86 = .ok (.aload_n 0, 1) := by decide +kernel
theorem d_MD_init_87 : decode b_MD_init 87 = .ok (.bipush 40, 2) := by decide +kernel
theorem d_MD_init_89 : decode b_MD_init 89 = .ok (.newarray .long, 2) := by decide +kernel
theorem d_MD_init_91 : decode b_MD_init 91 = .ok (.putfield 41, 3) := by decide +kernel
theorem d_MD_init_94 : decode b_MD_init 94 = .ok (.aload_n 0, 1) := by decide +kernel
theorem d_MD_init_95 : decode b_MD_init 95 = .ok (.bipush 26, 2) := by decide +kernel
theorem d_MD_init_97 : decode b_MD_init 97 = .ok (.newarray .long, 2) := by decide +kernel
theorem d_MD_init_99 : decode b_MD_init 99 = .ok (.putfield 45, 3) := by decide +kernel
theorem d_MD_init_102 : decode b_MD_init 102 = .ok (.aload_n 0, 1) := by decide +kernel
theorem d_MD_init_103 : decode b_MD_init 103 = .ok (.sipush 480, 3) := by decide +kernel
theorem d_MD_init_106 : decode b_MD_init 106 = .ok (.newarray .boolean, 2) := by decide +kernel
theorem d_MD_init_108 : decode b_MD_init 108 = .ok (.putfield 48, 3) := by decide +kernel
theorem d_MD_init_111 : decode b_MD_init 111 = .ok (.aload_n 0, 1) := by decide +kernel
theorem d_MD_init_112 : decode b_MD_init 112 = .ok (.bipush 12, 2) := by decide +kernel
theorem d_MD_init_114 : decode b_MD_init 114 = .ok (.newarray .int, 2) := by decide +kernel
theorem d_MD_init_116 : decode b_MD_init 116 = .ok (.putfield 51, 3) := by decide +kernel
theorem d_MD_init_119 : decode b_MD_init 119 = .ok (.aload_n 0, 1) := by decide +kernel
theorem d_MD_init_120 : decode b_MD_init 120 = .ok (.sipush 384, 3) := by decide +kernel
theorem d_MD_init_123 : decode b_MD_init 123 = .ok (.newarray .int, 2) := by decide +kernel
theorem d_MD_init_125 : decode b_MD_init 125 = .ok (.putfield 54, 3) := by decide +kernel
theorem d_MD_init_128 : decode b_MD_init 128 = .ok (.aload_n 0, 1) := by decide +kernel
theorem d_MD_init_129 : decode b_MD_init 129 = .ok (.sipush 384, 3) := by decide +kernel
theorem d_MD_init_132 : decode b_MD_init 132 = .ok (.newarray .int, 2) := by decide +kernel
theorem d_MD_init_134 : decode b_MD_init 134 = .ok (.putfield 57, 3) := by decide +kernel
theorem d_MD_init_137 : decode b_MD_init 137 = .ok (.aload_n 0, 1) := by decide +kernel
theorem d_MD_init_138 : decode b_MD_init 138 = .ok (.sipush 384, 3) := by decide +kernel
theorem d_MD_init_141 : decode b_MD_init 141 = .ok (.newarray .int, 2) := by decide +kernel
theorem d_MD_init_143 : decode b_MD_init 143 = .ok (.putfield 60, 3) := by decide +kernel
theorem d_MD_init_146 : decode b_MD_init 146 = .ok (.aload_n 0, 1) := by decide +kernel
theorem d_MD_init_147 : decode b_MD_init 147 = .ok (.sipush 384, 3) := by decide +kernel
theorem d_MD_init_150 : decode b_MD_init 150 = .ok (.newarray .int, 2) := by decide +kernel
theorem d_MD_init_152 : decode b_MD_init 152 = .ok (.putfield 63, 3) := by decide +kernel
theorem d_MD_init_155 : decode b_MD_init 155 = .ok (.aload_n 0, 1) := by decide +kernel
theorem d_MD_init_156 : decode b_MD_init 156 = .ok (.sipush 384, 3) := by decide +kernel
theorem d_MD_init_159 : decode b_MD_init 159 = .ok (.newarray .int, 2) := by decide +kernel
theorem d_MD_init_161 : decode b_MD_init 161 = .ok (.putfield 66, 3) := by decide +kernel
theorem d_MD_init_164 : decode b_MD_init 164 = .ok (.aload_n 0, 1) := by decide +kernel
theorem d_MD_init_165 : decode b_MD_init 165 = .ok (.sipush 384, 3) := by decide +kernel
theorem d_MD_init_168 : decode b_MD_init 168 = .ok (.newarray .int, 2) := by decide +kernel
theorem d_MD_init_170 : decode b_MD_init 170 = .ok (.putfield 69, 3) := by decide +kernel
theorem d_MD_init_173 : decode b_MD_init 173 = .ok (.aload_n 0, 1) := by decide +kernel
theorem d_MD_init_174 : decode b_MD_init 174 = .ok (.sipush 384, 3) := by decide +kernel
theorem d_MD_init_177 : decode b_MD_init 177 = .ok (.newarray .int, 2) := by decide +kernel
theorem d_MD_init_179 : decode b_MD_init 179 = .ok (.putfield 72, 3) := by decide +kernel
theorem d_MD_init_182 : decode b_MD_init 182 = .ok (.aload_n 0, 1) := by decide +kernel
theorem d_MD_init_183 : decode b_MD_init 183 = .ok (.sipush 384, 3) := by decide +kernel
theorem d_MD_init_186 : decode b_MD_init 186 = .ok (.newarray .long, 2) := by decide +kernel
theorem d_MD_init_188 : decode b_MD_init 188 = .ok (.putfield 75, 3) := by decide +kernel
theorem d_MD_init_191 : decode b_MD_init 191 = .ok (.aload_n 0, 1) := by decide +kernel
theorem d_MD_init_192 : decode b_MD_init 192 = .ok (.sipush 384, 3) := by decide +kernel
theorem d_MD_init_195 : decode b_MD_init 195 = .ok (.newarray .long, 2) := by decide +kernel
theorem d_MD_init_197 : decode b_MD_init 197 = .ok (.putfield 78, 3) := by decide +kernel
theorem d_MD_init_200 : decode b_MD_init 200 = .ok (.aload_n 0, 1) := by decide +kernel
theorem d_MD_init_201 : decode b_MD_init 201 = .ok (.bipush 40, 2) := by decide +kernel
theorem d_MD_init_203 : decode b_MD_init 203 = .ok (.newarray .int, 2) := by decide +kernel
theorem d_MD_init_205 : decode b_MD_init 205 = .ok (.putfield 81, 3) := by decide +kernel
theorem d_MD_init_208 : decode b_MD_init 208 = .ok (.aload_n 0, 1) := by decide +kernel
theorem d_MD_init_209 : decode b_MD_init 209 = .ok (.bipush 32, 2) := by decide +kernel
theorem d_MD_init_211 : decode b_MD_init 211 = .ok (.newarray .long, 2) := by decide +kernel
theorem d_MD_init_213 : decode b_MD_init 213 = .ok (.putfield 84, 3) := by decide +kernel
theorem d_MD_init_216 : decode b_MD_init 216 = .ok (.aload_n 0, 1) := by decide +kernel
theorem d_MD_init_217 : decode b_MD_init 217 = .ok (.getfield 23, 3) := by decide +kernel
theorem d_MD_init_220 : decode b_MD_init 220 = .ok (.iconst 0, 1) := by decide +kernel
theorem d_MD_init_221 : decode b_MD_init 221 = .ok (.iconst 3, 1) := by decide +kernel
theorem d_MD_init_222 : decode b_MD_init 222 = .ok (.iastore, 1) := by decide +kernel
theorem d_MD_init_223 : decode b_MD_init 223 = .ok (.aload_n 0, 1) := by decide +kernel
theorem d_MD_init_224 : decode b_MD_init 224 = .ok (.getfield 23, 3) := by decide +kernel
theorem d_MD_init_227 : decode b_MD_init 227 = .ok (.iconst 1, 1) := by decide +kernel
theorem d_MD_init_228 : decode b_MD_init 228 = .ok (.iconst 1, 1) := by decide +kernel
theorem d_MD_init_229 : decode b_MD_init 229 = .ok (.iastore, 1) := by decide +kernel
theorem d_MD_init_230 : decode b_MD_init 230 = .ok (.aload_n 0, 1) := by decide +kernel
theorem d_MD_init_231 : decode b_MD_init 231 = .ok (.getfield 23, 3) := by decide +kernel
theorem d_MD_init_234 : decode b_MD_init 234 = .ok (.iconst 2, 1) := by decide +kernel
theorem d_MD_init_235 : decode b_MD_init 235 = .ok (.iconst 1, 1) := by decide +kernel
theorem d_MD_init_236 : decode b_MD_init 236 = .ok (.iastore, 1) := by decide +kernel
theorem d_MD_init_237 : decode b_MD_init 237 = .ok (.aload_n 0, 1) := by decide +kernel
theorem d_MD_init_238 : decode b_MD_init 238 = .ok (.getfield 23, 3) := by decide +kernel
theorem d_MD_init_241 : decode b_MD_init 241 = .ok (.iconst 3, 1) := by decide +kernel
theorem d_MD_init_242 : decode b_MD_init 242 = .ok (.sipush 256, 3) := by decide +kernel
theorem d_MD_init_245 : decode b_MD_init 245 = .ok (.iastore, 1) := by decide +kernel
theorem d_MD_init_246 : decode b_MD_init 246 = .ok (.aload_n 0, 1) := by decide +kernel
theorem d_MD_init_247 : decode b_MD_init 247 = .ok (.getfield 23, 3) := by decide +kernel
theorem d_MD_init_250 : decode b_MD_init 250 = .ok (.iconst 4, 1) := by decide +kernel
theorem d_MD_init_251 : decode b_MD_init 251 = .ok (.iconst 4, 1) := by decide +kernel
theorem d_MD_init_252 : decode b_MD_init 252 = .ok (.iastore, 1) := by decide +kernel
theorem d_MD_init_253 : decode b_MD_init 253 = .ok (.aload_n 0, 1) := by decide +kernel
theorem d_MD_init_254 : decode b_MD_init 254 = .ok (.getfield 23, 3) := by decide +kernel
theorem d_MD_init_257 : decode b_MD_init 257 = .ok (.bipush 6, 2) := by decide +kernel
theorem d_MD_init_259 : decode b_MD_init 259 = .ok (.sipush 256, 3) := by decide +kernel
theorem d_MD_init_262 : decode b_MD_init 262 = .ok (.iastore, 1) := by decide +kernel
theorem d_MD_init_263 : decode b_MD_init 263 = .ok (.aload_n 0, 1) := by decide +kernel
theorem d_MD_init_264 : decode b_MD_init 264 = .ok (.getfield 23, 3) := by decide +kernel
theorem d_MD_init_267 : decode b_MD_init 267 = .ok (.bipush 7, 2) := by decide +kernel
theorem d_MD_init_269 : decode b_MD_init 269 = .ok (.sipush 256, 3) := by decide +kernel
theorem d_MD_init_272 : decode b_MD_init 272 = .ok (.iastore, 1) := by decide +kernel
theorem d_MD_init_273 : decode b_MD_init 273 = .ok (.return_, 1) := by decide +kernel
end
section
theorem d_LW_law_0 : decode code 0 = .ok (.new 7, 3) := by decide +kernel
theorem d_LW_law_3 : decode code 3 = .ok (.dup, 1) := by decide +kernel
theorem d_LW_law_4 : decode code 4 = .ok (.invokespecial 9, 3) := by decide +kernel
theorem d_LW_law_7 : decode code 7 = .ok (.astore_n 1, 1) := by decide +kernel
theorem d_LW_law_8 : decode code 8 = .ok (.new 10, 3) := by decide +kernel
theorem d_LW_law_11 : decode code 11 = .ok (.dup, 1) := by decide +kernel
theorem d_LW_law_12 : decode code 12 = .ok (.invokespecial 12, 3) := by decide +kernel
theorem d_LW_law_15 : decode code 15 = .ok (.astore_n 2, 1) := by decide +kernel
theorem d_LW_law_16 : decode code 16 = .ok (.iconst 0, 1) := by decide +kernel
theorem d_LW_law_17 : decode code 17 = .ok (.istore_n 3, 1) := by decide +kernel
theorem d_LW_law_18 : decode code 18 = .ok (.iload_n 3, 1) := by decide +kernel
theorem d_LW_law_19 : decode code 19 = .ok (.aload_n 0, 1) := by decide +kernel
theorem d_LW_law_20 : decode code 20 = .ok (.arraylength, 1) := by decide +kernel
theorem d_LW_law_21 : decode code 21 = .ok (.bipush 7, 2) := by decide +kernel
theorem d_LW_law_23 : decode code 23 = .ok (.isub, 1) := by decide +kernel
theorem d_LW_law_24 : decode code 24 = .ok (.if_icmp .gt 769, 3) := by decide +kernel
theorem d_LW_law_793 : decode code 793 = .ok (.iconst 1, 1) := by decide +kernel
theorem d_LW_law_794 : decode code 794 = .ok (.ireturn, 1) := by decide +kernel
end
section
abbrev gL : Type := (Nat × Nat × Nat × Nat) ⊕ (Nat × List (Nat × Nat))
def layTB (b o : Nat) : gL := if o = 0 then .inr (1, [(0, b + 1), (0, b + 42), (0, b + 43), (0, b + 44), (1, 4)]) else if o = 1 then .inl (4, 40, b + 2, 1) else if o < 42 then .inl (0, 4, 0, 0) else if o < 44 then .inl (0, 40, 0, 0) else .inl (2, 40, 0, 0)
def layTR (b o : Nat) : gL := if o = 0 then .inr (6, [(0, b + 1), (0, b + 9), (1, 2)]) else if o = 1 then .inl (4, 7, b + 2, 1) else if o < 9 then .inl (0, 31, 0, 0) else if o = 9 then .inl (5, 3, b + 10, 1) else .inl (1, 31, 0, 0)
def layMD (k : Nat) : gL := if k = 274 then .inl (0, 160, 0, 0) else if k = 275 then .inl (0, 40, 0, 0) else if k = 276 then .inl (0, 40, 0, 0) else if k = 277 then .inl (2, 40, 0, 0) else if k = 278 then .inl (0, 15, 0, 0) else if k = 279 then .inl (0, 160, 0, 0) else if k = 280 then .inl (0, 40, 0, 0) else if k = 281 then .inl (0, 40, 0, 0) else if k = 282 then .inl (2, 40, 0, 0) else if k = 283 then .inl (0, 15, 0, 0) else if k = 284 then .inl (1, 40, 0, 0) else if k = 285 then .inl (1, 26, 0, 0) else if k = 286 then .inl (2, 480, 0, 0) else if k = 287 then .inl (0, 12, 0, 0) else if k = 288 then .inl (0, 384, 0, 0) else if k = 289 then .inl (0, 384, 0, 0) else if k = 290 then .inl (0, 384, 0, 0) else if k = 291 then .inl (0, 384, 0, 0) else if k = 292 then .inl (0, 384, 0, 0) else if k = 293 then .inl (0, 384, 0, 0) else if k = 294 then .inl (0, 384, 0, 0) else if k = 295 then .inl (1, 384, 0, 0) else if k = 296 then .inl (1, 384, 0, 0) else if k = 297 then .inl (0, 40, 0, 0) else if k = 298 then .inl (1, 32, 0, 0) else .inr (99, [])
def lay (k : Nat) : gL := if k < 116 then (if k < 46 then (if k = 0 then .inr (0, [(0, 1), (0, 46), (0, 47), (0, 272)]) else layTB 1 (k - 1)) else if k < 49 then (if k = 46 then .inl (0, 15, 0, 0) else if k = 47 then .inr (2, [(0, 48), (0, 49), (0, 94), (0, 109), (0, 110), (0, 111), (0, 112), (0, 115), (1, 8), (1, 9)]) else .inr (3, [(0, 49), (0, 94), (0, 95), (0, 100), (0, 101), (0, 102), (0, 103), (0, 104), (0, 105), (0, 106), (0, 107), (0, 108)])) else if k < 94 then layTB 49 (k - 49) else if k < 102 then (if k = 94 then .inl (0, 15, 0, 0) else if k = 95 then .inl (4, 4, 96, 1) else if k < 100 then .inl (0, 40, 0, 0) else if k = 100 then .inl (0, 40, 0, 0) else .inl (1, 40, 0, 0)) else if k < 108 then .inr (4, [(1, 0), (1, 1), (2, 2)]) else if k = 108 then .inr (5, [(1, 0), (1, 1), (1, 2), (2, 3)]) else if k = 109 then .inl (3, 12, 116, 13) else if k = 110 then .inl (1, 40, 0, 0) else if k = 111 then .inl (0, 40, 0, 0) else if k = 112 then .inl (5, 2, 113, 1) else if k < 115 then .inl (1, 13, 0, 0) else .inl (1, 31, 0, 0)) else if k < 272 then layTR (116 + 13 * ((k - 116) / 13)) ((k - 116) % 13) else if k = 272 then .inl (0, 4, 0, 0) else if k = 273 then .inr (7, [(1, 0), (0, 274), (0, 275), (0, 276), (0, 277), (0, 278), (1, 6), (1, 7), (0, 279), (0, 280), (0, 281), (0, 282), (0, 283), (0, 284), (1, 14), (0, 285), (0, 286), (0, 287), (0, 288), (0, 289), (0, 290), (0, 291), (0, 292), (0, 293), (0, 294), (0, 295), (0, 296), (0, 297), (0, 298), (2, 29), (1, 30), (1, 31)]) else layMD k
theorem lay_0 : lay 0 = .inr (0, [(0, 1), (0, 46), (0, 47), (0, 272)]) := rfl
theorem lay_272 : lay 272 = .inl (0, 4, 0, 0) := rfl
theorem lay_47 : lay 47 = .inr (2, [(0, 48), (0, 49), (0, 94), (0, 109), (0, 110), (0, 111), (0, 112), (0, 115), (1, 8), (1, 9)]) := rfl
theorem lay_48 : lay 48 = .inr (3, [(0, 49), (0, 94), (0, 95), (0, 100), (0, 101), (0, 102), (0, 103), (0, 104), (0, 105), (0, 106), (0, 107), (0, 108)]) := rfl
theorem lay_94 : lay 94 = .inl (0, 15, 0, 0) := rfl
theorem lay_95 : lay 95 = .inl (4, 4, 96, 1) := rfl
theorem lay_100 : lay 100 = .inl (0, 40, 0, 0) := rfl
theorem lay_101 : lay 101 = .inl (1, 40, 0, 0) := rfl
theorem lay_108 : lay 108 = .inr (5, [(1, 0), (1, 1), (1, 2), (2, 3)]) := rfl
theorem lay_109 : lay 109 = .inl (3, 12, 116, 13) := rfl
theorem lay_110 : lay 110 = .inl (1, 40, 0, 0) := rfl
theorem lay_111 : lay 111 = .inl (0, 40, 0, 0) := rfl
theorem lay_112 : lay 112 = .inl (5, 2, 113, 1) := rfl
theorem lay_115 : lay 115 = .inl (1, 31, 0, 0) := rfl
theorem lay_273 : lay 273 = .inr (7, [(1, 0), (0, 274), (0, 275), (0, 276), (0, 277), (0, 278), (1, 6), (1, 7), (0, 279), (0, 280), (0, 281), (0, 282), (0, 283), (0, 284), (1, 14), (0, 285), (0, 286), (0, 287), (0, 288), (0, 289), (0, 290), (0, 291), (0, 292), (0, 293), (0, 294), (0, 295), (0, 296), (0, 297), (0, 298), (2, 29), (1, 30), (1, 31)]) := rfl
theorem lay_274 : lay 274 = .inl (0, 160, 0, 0) := rfl
theorem lay_275 : lay 275 = .inl (0, 40, 0, 0) := rfl
theorem lay_276 : lay 276 = .inl (0, 40, 0, 0) := rfl
theorem lay_277 : lay 277 = .inl (2, 40, 0, 0) := rfl
theorem lay_278 : lay 278 = .inl (0, 15, 0, 0) := rfl
theorem lay_279 : lay 279 = .inl (0, 160, 0, 0) := rfl
theorem lay_280 : lay 280 = .inl (0, 40, 0, 0) := rfl
theorem lay_281 : lay 281 = .inl (0, 40, 0, 0) := rfl
theorem lay_282 : lay 282 = .inl (2, 40, 0, 0) := rfl
theorem lay_283 : lay 283 = .inl (0, 15, 0, 0) := rfl
theorem lay_284 : lay 284 = .inl (1, 40, 0, 0) := rfl
theorem lay_285 : lay 285 = .inl (1, 26, 0, 0) := rfl
theorem lay_286 : lay 286 = .inl (2, 480, 0, 0) := rfl
theorem lay_287 : lay 287 = .inl (0, 12, 0, 0) := rfl
theorem lay_288 : lay 288 = .inl (0, 384, 0, 0) := rfl
theorem lay_289 : lay 289 = .inl (0, 384, 0, 0) := rfl
theorem lay_290 : lay 290 = .inl (0, 384, 0, 0) := rfl
theorem lay_291 : lay 291 = .inl (0, 384, 0, 0) := rfl
theorem lay_292 : lay 292 = .inl (0, 384, 0, 0) := rfl
theorem lay_293 : lay 293 = .inl (0, 384, 0, 0) := rfl
theorem lay_294 : lay 294 = .inl (0, 384, 0, 0) := rfl
theorem lay_295 : lay 295 = .inl (1, 384, 0, 0) := rfl
theorem lay_296 : lay 296 = .inl (1, 384, 0, 0) := rfl
theorem lay_297 : lay 297 = .inl (0, 40, 0, 0) := rfl
theorem lay_298 : lay 298 = .inl (1, 32, 0, 0) := rfl
def isSM (k : Nat) : Prop := lay k = .inr (4, [(1, 0), (1, 1), (2, 2)])
def isTB (b : Nat) : Prop := lay b = .inr (1, [(0, b + 1), (0, b + 42), (0, b + 43), (0, b + 44), (1, 4)]) ∧ lay (b + 1) = .inl (4, 40, b + 2, 1) ∧ (∀ i, i < 40 → lay (b + 2 + i) = .inl (0, 4, 0, 0)) ∧ lay (b + 42) = .inl (0, 40, 0, 0) ∧ lay (b + 43) = .inl (0, 40, 0, 0) ∧ lay (b + 44) = .inl (2, 40, 0, 0)
def isTR (b : Nat) : Prop := lay b = .inr (6, [(0, b + 1), (0, b + 9), (1, 2)]) ∧ lay (b + 1) = .inl (4, 7, b + 2, 1) ∧ (∀ i, i < 7 → lay (b + 2 + i) = .inl (0, 31, 0, 0)) ∧ lay (b + 9) = .inl (5, 3, b + 10, 1) ∧ (∀ i, i < 3 → lay (b + 10 + i) = .inl (1, 31, 0, 0))
theorem isTB_1 : isTB 1 := ⟨rfl, rfl, by decide, rfl, rfl, rfl⟩
theorem isTB_49 : isTB 49 := ⟨rfl, rfl, by decide, rfl, rfl, rfl⟩
theorem isSM_102 : isSM 102 := rfl
theorem isSM_103 : isSM 103 := rfl
theorem isSM_104 : isSM 104 := rfl
theorem isSM_105 : isSM 105 := rfl
theorem isSM_106 : isSM 106 := rfl
theorem isSM_107 : isSM 107 := rfl
theorem isTR_at : ∀ t, t < 12 → isTR (116 + 13 * t) := by
  intro t ht
  have h : t = 0 ∨ t = 1 ∨ t = 2 ∨ t = 3 ∨ t = 4 ∨ t = 5 ∨ t = 6 ∨ t = 7 ∨ t = 8 ∨ t = 9 ∨ t = 10 ∨ t = 11 := by omega
  rcases h with rfl | rfl | rfl | rfl | rfl | rfl | rfl | rfl | rfl | rfl | rfl | rfl <;> exact ⟨rfl, rfl, by decide, rfl, by decide⟩
theorem lay_order : ∀ i, i < 4 → lay (96 + i) = .inl (0, 40, 0, 0) := by decide
theorem lay_losses : ∀ i, i < 2 → lay (113 + i) = .inl (1, 13, 0, 0) := by decide
abbrev gM : Type := (Nat → Nat → Int32) × (Nat → Nat → Int64)
def gF (ad : Nat → Nat) (M : gM) (k : Nat) (q : Nat × Nat) : Value := match q.1 with
  | 0 => .ref (ad q.2)
  | 1 => .int (M.1 k q.2)
  | _ => .long (M.2 k q.2)
def gC (cy : Nat → ClassId) (ad : Nat → Nat) (M : gM) (k : Nat) (L : gL) : va_E := match L with
  | .inl (0, n, _, _) => .inl (cy 0, n, .inl (M.1 k))
  | .inl (1, n, _, _) => .inl (cy 1, n, .inr (.inl (M.2 k)))
  | .inl (2, n, _, _) => .inl (cy 2, n, .inl (M.1 k))
  | .inl (t + 3, n, a, d) => .inl (cy (t + 3), n, .inr (.inr (.inr (.inr (fun j => if j < n then some (ad (a + d * j)) else none)))))
  | .inr (c, fs) => .inr (c, fs.map (gF ad M k))
def gT (cy : Nat → ClassId) : List (ClassId × FieldType) := [(cy 0, .int), (cy 1, .long), (cy 2, .boolean), (cy 3, .object "BoostForests$Tree"), (cy 4, .array .int), (cy 5, .array .long)]
theorem vi_lit (i : Int32) (n : Nat) (h : decide (¬ (i < 0 ∨ n ≤ i.toNatClampNeg)) = true) : vp_in i n := of_decide_eq_true (p := ¬ (i < 0 ∨ n ≤ i.toNatClampNeg)) h
section GW
variable {p : Program} {l : Launch} {e : Env} {R : Room} {s : State} {m : MethodId} {args : Array Value} {below : List Frame} {meth : Method} {c : Code} {H : Heap} {locs : List Loc} {cells slots : Nat} {Q : State → Prop}
variable {cc : ByteArray} {pc nL : Nat} {ls : Array Slot} {rest : List Value} {D : va_G} {cy : Nat → ClassId} {ad : Nat → Nat} {M : gM} {ret : Option FieldType} {own : String}
theorem gGood {w : Cond} (h : w ∈ gw_tbl) : GoodIn gw_tbl (w :: gw_tbl) := fun v hv => by
  rcases List.mem_cons.mp hv with rfl | hv
  · exact ⟨h, gw_good _ h⟩
  · exact ⟨hv, gw_good _ hv⟩
end GW
section GW2
variable {p : Program} {l : Launch} {e : Env} {R : Room} {s : State} {m : MethodId} {args : Array Value} {below : List Frame} {meth : Method} {c : Code} {H : Heap} {locs : List Loc} {cells slots : Nat} {Q : State → Prop}
variable {cc : ByteArray} {pc nL : Nat} {ls : Array Slot} {rest : List Value} {D : va_G} {cy : Nat → ClassId} {ad : Nat → Nat} {M : gM} {ret : Option FieldType} {own : String}
end GW2
section GW3
variable {p : Program} {l : Launch} {e : Env} {R : Room} {s : State} {m : MethodId} {args : Array Value} {below : List Frame} {meth : Method} {c : Code} {H : Heap} {locs : List Loc} {cells slots : Nat} {Q : State → Prop}
variable {cc : ByteArray} {pc nL : Nat} {ls : Array Slot} {rest : List Value} {D : va_G} {cy : Nat → ClassId} {ad : Nat → Nat} {M : gM} {ret : Option FieldType} {own : String}
end GW3
end
section
def R_law : String := "BoostForestsLaw"
def lw_At (p : Program) (s : State) (m : MethodId) (meth : Method) (c : Code) (b L : Nat) (xs : Nat → Int32) : Prop :=
  p.tables.exec = Jvm.exec ∧ c.code = code ∧ meth.sig.returnType = ret ∧ c.maxLocals = 4 ∧ s.vm.findClass R_law = some m.cls ∧ (∀ w ∈ lw_tbl, w.before #[Value.ref b] s = true) ∧ va_X b L xs s s.heap ∧ b < s.heap.size ∧ meth.locks = false ∧ (Jvm.Cond.and given_1 narrow_1).before #[Value.ref b] s = true
end
section
def upF (f : Nat → va_E) (k : Nat) (e : va_E) : Nat → va_E := fun j => if j = k then e else f j
theorem upF_s {f : Nat → va_E} {k : Nat} {e : va_E} : upF f k e k = e := if_pos rfl
theorem upF_n {f : Nat → va_E} {k j : Nat} {e : va_E} (h : j ≠ k) : upF f k e j = f j := if_neg h
theorem upF_up {f : Nat → va_E} {k : Nat} {e e2 : va_E} : upF (upF f k e) k e2 = upF f k e2 := by
  funext j
  unfold upF
  by_cases h : j = k
  · rw [if_pos h, if_pos h]
  · rw [if_neg h, if_neg h, if_neg h]
theorem upF_id {f : Nat → va_E} {k : Nat} {e : va_E} (h : f k = e) : upF f k e = f := by
  funext j
  unfold upF
  by_cases hj : j = k
  · rw [if_pos hj, hj, h]
  · rw [if_neg hj]
def c_FIRST : Nat → Int32 := fun k => ([3, 1, 1, 256, 4, 0, 256, 256, 0, 0, 0, 0, 0, 0, 0] : List Int32).getD k 0
def M0 : gM := (fun k j => if k = 46 ∨ k = 278 then c_FIRST j else 0, fun _ _ => 0)
def cF (cy : Nat → ClassId) (a0 k : Nat) : va_E := gC cy (fun k => a0 + k) M0 k (lay k)
theorem M0_z {k : Nat} (h1 : k ≠ 46) (h2 : k ≠ 278) : M0.1 k = fun _ => 0 := by
  funext j
  show (if k = 46 ∨ k = 278 then c_FIRST j else 0) = 0
  rw [if_neg (fun h => h.elim h1 h2)]
theorem M0_278 (j : Nat) : M0.1 278 j = c_FIRST j := by
  show (if (278 : Nat) = 46 ∨ (278 : Nat) = 278 then c_FIRST j else 0) = _
  exact if_pos (Or.inr rfl)
section CF
variable {cy : Nat → ClassId} {a0 k n a d t : Nat}
theorem cF_i (h : lay k = .inl (0, n, a, d)) (h1 : k ≠ 46) (h2 : k ≠ 278) : cF cy a0 k = .inl (cy 0, n, .inl (fun _ => 0)) := by
  unfold cF
  rw [h]
  show Sum.inl (cy 0, n, Sum.inl (M0.1 k)) = _
  rw [M0_z h1 h2]
theorem cF_l (h : lay k = .inl (1, n, a, d)) : cF cy a0 k = .inl (cy 1, n, .inr (.inl (fun _ => 0))) := by
  unfold cF
  rw [h]
  rfl
theorem cF_b (h : lay k = .inl (2, n, a, d)) (h1 : k ≠ 46) (h2 : k ≠ 278) : cF cy a0 k = .inl (cy 2, n, .inl (fun _ => 0)) := by
  unfold cF
  rw [h]
  show Sum.inl (cy 2, n, Sum.inl (M0.1 k)) = _
  rw [M0_z h1 h2]
theorem cF_g (h : lay k = .inl (t + 3, n, a, d)) : cF cy a0 k = .inl (cy (t + 3), n, .inr (.inr (.inr (.inr (fun j => if j < n then some (a0 + (a + d * j)) else none))))) := by
  unfold cF
  rw [h]
  rfl
theorem cF_o {ci : Nat} {fs : List (Nat × Nat)} (h : lay k = .inr (ci, fs)) : cF cy a0 k = .inr (ci, fs.map (gF (fun k => a0 + k) M0 k)) := by
  unfold cF
  rw [h]
  rfl
end CF
def cAA (t : FieldType) (U : State) : Prop := (Cond.arrayOver (.array t)).before #[] U = true
theorem cAA.use {t : FieldType} {A : Array Value} {U : State} (h : cAA t U) : (Cond.arrayOver (.array t)).before A U = true := h
theorem cAA.of {t : FieldType} {A : Array Value} {U : State} (h : (Cond.arrayOver (.array t)).before A U = true) : cAA t U := h
theorem cAA.moved {t : FieldType} {u U : State} (hvm : u.vm.Alike U.vm) (h : cAA t u) : cAA t U := by
  obtain ⟨comp, c, k, h1, h2, h3, h4, h5⟩ := arrayOverA_spec h
  obtain ⟨k', hk', he⟩ := hvm.2.2 _ _ h3
  have hi := (va_idx_bare U.vm comp).symm.trans ((congrArg (fun v : Vm => v.classes.findIdx? fun (x : Class) => match x.kind with | .array component _ => component == comp | _ => false) (by first | exact hvm.bare_eq | exact hvm.bare_eq.symm : U.vm.bare = u.vm.bare)).trans ((va_idx_bare u.vm comp).trans h2))
  have hkind : k'.kind = .array comp (.array t) := by rw [he]; exact h4
  have f1 : U.vm.findClass (FieldType.array t).toString = some comp := by rw [hvm.findClass]; exact h1
  have f2 : U.vm.findClass ("[" ++ (FieldType.array t).toString) = some c := by rw [hvm.findClass]; exact h5
  unfold cAA Cond.before Cond.holds
  simp only [Cond.value]
  rw [f1, Option.bind_some]
  refine (congrArg (fun o : Option Nat => (o.bind (fun c => (U.vm.classes[c]?).map fun (k : Class) => match k.kind with | .array _ ty => decide (ty = FieldType.array t) && decide (U.vm.findClass ("[" ++ (FieldType.array t).toString) = some c) | _ => false) == some true)) hi).trans ?_
  simp [hk', hkind, f2]
def cE (U : State) : Prop := va_Nw (.methodLinkNest "BoostForests" 9 y_TB_init "BoostForests") U ∧ va_Nw (.methodLinkNest "BoostForests$Training" 11 y_GR_init "BoostForests") U ∧ va_Nw (.methodLinkNest "BoostForests$Grower" 11 y_TB_init "BoostForests") U ∧ va_Nw (.methodLinkNest "BoostForests$Grower" 36 y_SM_init "BoostForests") U ∧ va_Nw (.methodLinkNest "BoostForests$Grower" 58 y_SP_init "BoostForests") U ∧ va_Nw (.methodLinkNest "BoostForests$Training" 49 y_TR_init "BoostForests") U ∧ va_AO "BoostForests$Tree" U ∧ cAA .int U ∧ cAA .long U
theorem cE_warm {s U : State} (hW : s.WarmedH U.vm) (h : cE s) : cE U := ⟨va_Nw.warmM hW h.1, va_Nw.warmM hW h.2.1, va_Nw.warmM hW h.2.2.1, va_Nw.warmM hW h.2.2.2.1, va_Nw.warmM hW h.2.2.2.2.1, va_Nw.warmM hW h.2.2.2.2.2.1, va_AO.moved hW.alike h.2.2.2.2.2.2.1, cAA.moved hW.alike h.2.2.2.2.2.2.2.1, cAA.moved hW.alike h.2.2.2.2.2.2.2.2⟩
theorem cE_call {U : State} {g : JFrame} {mk : MethodId} {a : Array Value} (h : cE U) : cE (U.calling g mk a) := ⟨va_Nw.same rfl rfl h.1, va_Nw.same rfl rfl h.2.1, va_Nw.same rfl rfl h.2.2.1, va_Nw.same rfl rfl h.2.2.2.1, va_Nw.same rfl rfl h.2.2.2.2.1, va_Nw.same rfl rfl h.2.2.2.2.2.1, va_AO.moved (u := U) (U := U.calling g mk a) (Vm.Alike.refl U.vm) h.2.2.2.2.2.2.1, cAA.moved (u := U) (U := U.calling g mk a) (Vm.Alike.refl U.vm) h.2.2.2.2.2.2.2.1, cAA.moved (u := U) (U := U.calling g mk a) (Vm.Alike.refl U.vm) h.2.2.2.2.2.2.2.2⟩
def Cz (p : Program) (s : State) (m : MethodId) (args : Array Value) (c : Code) (cc : ByteArray) (nL : Nat) (own : String) (D : va_G) (cy : Nat → ClassId) : Prop :=
  p.tables.exec = Jvm.exec ∧ c.code = cc ∧ c.maxLocals = nL ∧ s.vm.findClass own = some m.cls ∧ (∀ w ∈ gw_tbl, w.before args s = true) ∧ va_K D vCl (gT cy) s ∧ cE s
def cI (D : va_G) (a0 : Nat) (s : State) (f : Nat → va_E) (lo hi : Nat) (H : Heap) (locs : List Loc) : Prop := H.size = a0 + hi ∧ (∀ k, lo ≤ k → k < hi → va_at D vCl (a0 + k, f k) H) ∧ va_S (fun q => a0 + lo ≤ q) s.heap H locs
section CI0
variable {D : va_G} {a0 lo hi : Nat} {s : State} {f g : Nat → va_E} {H H1 : Heap} {locs : List Loc}
theorem cI_eq (hI : cI D a0 s f lo hi H locs) (h : ∀ k, lo ≤ k → k < hi → g k = f k) : cI D a0 s g lo hi H locs := ⟨hI.1, fun k a b => by rw [h k a b]; exact hI.2.1 k a b, hI.2.2⟩
theorem cI_id {k0 : Nat} {e : va_E} (hI : cI D a0 s (upF f k0 e) lo hi H locs) (h : f k0 = e) : cI D a0 s f lo hi H locs := by
  rw [upF_id h] at hI
  exact hI
theorem cI_set (hI : cI D a0 s f lo hi H locs) {k0 j : Nat} (h0 : lo ≤ k0) {e : va_E} (he : va_at D vCl (a0 + k0, e) H1) (z : H1.size = H.size) (oq : ∀ q : Nat, q ≠ a0 + k0 → H1[q]? = H[q]?) : cI D a0 s (upF f k0 e) lo hi H1 (locs ++ [⟨a0 + k0, j⟩]) := by
  refine ⟨z.trans hI.1, fun k g0 g1 => ?_, hI.2.2.put z oq (Nat.add_le_add_left h0 _)⟩
  by_cases hk : k = k0
  · subst hk
    rw [upF_s]
    exact he
  · rw [upF_n hk]
    exact (hI.2.1 k g0 g1).kept (oq _ (by show a0 + k ≠ a0 + k0; omega))
theorem cI_push (hI : cI D a0 s f lo hi H locs) {hi2 : Nat} (h2 : hi + 1 = hi2) (z : H1.size = a0 + hi + 1) (oq : ∀ q : Nat, q < a0 + hi → H1[q]? = H[q]?) (he : va_at D vCl (a0 + hi, f hi) H1) : cI D a0 s f lo hi2 H1 locs := by
  subst h2
  have h0 := hI.2.2.1
  rw [hI.1] at h0
  refine ⟨by omega, fun k g0 g1 => ?_, ⟨by omega, fun q q1 q2 => ?_, hI.2.2.2.2⟩⟩
  · by_cases hk : k = hi
    · subst hk
      exact he
    · exact (hI.2.1 k g0 (by omega)).kept (oq _ (by show a0 + k < _; omega))
  · rw [oq q (by omega)]
    exact hI.2.2.2.1 q q1 q2
end CI0
theorem cz_outer (c : ClassId) (N h0 : Nat) : ∀ i : Nat, Jvm.Free.Multi.outerC c N h0 i = arrV c N (fun j => va_rf (if j < i then some (h0 + 1 + j) else none))
  | 0 => by
    show ({ cls := c, slots := Array.replicate N .null, vm := .none } : Cell) = _
    rw [arrV_new]
    refine congrArg (arrV c N) (funext fun j => ?_)
    simp [va_rf]
  | i + 1 => by
    show (Jvm.Free.Multi.outerC c N h0 i).setSlot i (.ref (h0 + 1 + i)) = _
    rw [cz_outer c N h0 i, arrV_store]
    refine congrArg (arrV c N) (funext fun j => ?_)
    by_cases e : j = i
    · subst e
      simp [updV, va_rf]
    · by_cases h : j < i
      · simp [updV, e, h, Nat.lt_succ_of_lt h]
      · simp [updV, e, h, show ¬ j < i + 1 by omega]
section CZ
variable {p : Program} {l : Launch} {e : Env} {R : Room} {s : State} {m : MethodId} {args : Array Value} {below : List Frame} {meth : Method} {c : Code} {H : Heap} {locs : List Loc} {cells slots : Nat} {Q : State → Prop}
variable {cc : ByteArray} {pc nL : Nat} {ls : Array Slot} {rest : List Value} {D : va_G} {cy : Nat → ClassId} {own : String} {a0 lo hi : Nat} {f : Nat → va_E}
theorem cz_new (C : Cz p s m args c cc nL own D cy) (hI : cI D a0 s f lo hi H locs) {Cn : String} {T : u_T} {N ci index : Nat} (hin : ∀ w ∈ u_ws Cn T N, w ∈ gw_tbl) (hc : vCl[ci]? = some (Cn, T, N)) {ty : Nat → FieldType} (hty : ∀ k, k < N → parseFieldDescriptor (T k).2.2.1 = some (ty k)) (h1 : Cond.classLink own index Cn ∈ gw_tbl) (h2 : Cond.instantiable Cn N ∈ gw_tbl) (h3 : Cond.initialized Cn ∈ gw_tbl) (fs : List Value) (hfs : ∀ j, j < N → defaultValue (ty j) = vp_V fs j) {hi2 : Nat} (hh : hi + 1 = hi2) (hcells : cells + 1 ≤ R.cells) (hslots : slots + N ≤ R.slots) (hdg : decode cc pc = .ok (.new index, 3))
    (kk : ∀ H1 : Heap, cI D a0 s (upF f hi (.inr (ci, fs))) lo hi2 H1 locs → W p l e R s m args below meth c H1 locs (cells + 1) (slots + N) Q (F0 m (pc + 3) ls (.ref (a0 + hi) :: rest))) : W p l e R s m args below meth c H locs cells slots Q (F0 m pc ls rest) := by
  obtain ⟨hx, hb, hml, hown, hts, hK, hE⟩ := C
  have hKn := hK.1 ci _ hc
  refine W.newcK hx hb hown (hts _ h1) (hts _ h2) (hts _ h3) rfl hdg hcells hslots hKn.2.1 hI.1 fun H1 kC hkC e1 z1 o1 => ?_
  exact kk H1 (cI_push (cI_eq hI (fun k _ g1 => upF_n (Nat.ne_of_lt g1))) hh z1 o1 (by rw [upF_s]; exact ⟨_, hc, (u_born ty hts hin hKn hkC e1 hty).to hfs⟩))
theorem cz_arr (C : Cz p s m args c cc nL own D cy) (hI : cI D a0 s f lo hi H locs) (t : Nat) {atype : ArrayType} {ty : FieldType} (hty : newarray.typeOf atype = ty) (harr : Cond.arrayClass ty ∈ gw_tbl) (ht : (gT cy)[t]? = some (cy t, ty)) {n : Int32} {N' : Nat} {z : vp_A} (hz : ∀ cA : ClassId, vp_cell cA z = arrV cA N' (fun _ => defaultValue ty)) (he : f hi = .inl (cy t, z)) (hn : ¬ n < 0) (hN : n.toNatClampNeg = N') (hbytes : N' * componentBytes ty ≤ 536870912) {hi2 : Nat} (hh : hi + 1 = hi2) (hcells : cells + 1 ≤ R.cells) (hslots : slots + N' ≤ R.slots) (hdg : decode cc pc = .ok (.newarray atype, 2))
    (kk : ∀ H1 : Heap, cI D a0 s f lo hi2 H1 locs → W p l e R s m args below meth c H1 locs (cells + 1) (slots + N') Q (F0 m (pc + 2) ls (.ref (a0 + hi) :: rest))) : W p l e R s m args below meth c H locs cells slots Q (F0 m pc ls (.int n :: rest)) := by
  obtain ⟨hx, hb, hml, hown, hts, hK, hE⟩ := C
  subst hty
  refine va_newaK hx hb (hts _ harr) rfl hdg rfl hn hN hbytes hcells hslots hI.1 fun H1 cA e1 z1 o1 hAr hNm => ?_
  have h2 := (hK.2 t _ ht).2
  have h3 : s.vm.findClass ("[" ++ (newarray.typeOf atype).toString) = some (cy t) := by cases atype <;> exact h2
  have h4 : cA = cy t := Option.some.inj (hNm.symm.trans h3)
  subst h4
  exact kk H1 (cI_push hI hh z1 o1 (by rw [he]; show H1[a0 + hi]? = some (vp_cell (cy t) z); rw [hz]; exact e1))
theorem cz_int (C : Cz p s m args c cc nL own D cy) (hI : cI D a0 s f lo hi H locs) {n : Int32} {N' : Nat} (he : f hi = .inl (cy 0, N', .inl (fun _ => 0))) (hn : ¬ n < 0) (hN : n.toNatClampNeg = N') (hbytes : N' * componentBytes .int ≤ 536870912) {hi2 : Nat} (hh : hi + 1 = hi2) (hcells : cells + 1 ≤ R.cells) (hslots : slots + N' ≤ R.slots) (hdg : decode cc pc = .ok (.newarray .int, 2))
    (kk : ∀ H1 : Heap, cI D a0 s f lo hi2 H1 locs → W p l e R s m args below meth c H1 locs (cells + 1) (slots + N') Q (F0 m (pc + 2) ls (.ref (a0 + hi) :: rest))) : W p l e R s m args below meth c H locs cells slots Q (F0 m pc ls (.int n :: rest)) :=
  cz_arr C hI 0 (atype := .int) rfl kw_1_56 rfl (fun _ => rfl) he hn hN hbytes hh hcells hslots hdg kk
theorem cz_long (C : Cz p s m args c cc nL own D cy) (hI : cI D a0 s f lo hi H locs) {n : Int32} {N' : Nat} (he : f hi = .inl (cy 1, N', .inr (.inl (fun _ => 0)))) (hn : ¬ n < 0) (hN : n.toNatClampNeg = N') (hbytes : N' * componentBytes .long ≤ 536870912) {hi2 : Nat} (hh : hi + 1 = hi2) (hcells : cells + 1 ≤ R.cells) (hslots : slots + N' ≤ R.slots) (hdg : decode cc pc = .ok (.newarray .long, 2))
    (kk : ∀ H1 : Heap, cI D a0 s f lo hi2 H1 locs → W p l e R s m args below meth c H1 locs (cells + 1) (slots + N') Q (F0 m (pc + 2) ls (.ref (a0 + hi) :: rest))) : W p l e R s m args below meth c H locs cells slots Q (F0 m pc ls (.int n :: rest)) :=
  cz_arr C hI 1 (atype := .long) rfl kw_1_102 rfl (fun _ => rfl) he hn hN hbytes hh hcells hslots hdg kk
theorem cz_bool (C : Cz p s m args c cc nL own D cy) (hI : cI D a0 s f lo hi H locs) {n : Int32} {N' : Nat} (he : f hi = .inl (cy 2, N', .inl (fun _ => 0))) (hn : ¬ n < 0) (hN : n.toNatClampNeg = N') (hbytes : N' * componentBytes .boolean ≤ 536870912) {hi2 : Nat} (hh : hi + 1 = hi2) (hcells : cells + 1 ≤ R.cells) (hslots : slots + N' ≤ R.slots) (hdg : decode cc pc = .ok (.newarray .boolean, 2))
    (kk : ∀ H1 : Heap, cI D a0 s f lo hi2 H1 locs → W p l e R s m args below meth c H1 locs (cells + 1) (slots + N') Q (F0 m (pc + 2) ls (.ref (a0 + hi) :: rest))) : W p l e R s m args below meth c H locs cells slots Q (F0 m pc ls (.int n :: rest)) :=
  cz_arr C hI 2 (atype := .boolean) rfl kw_1_57 rfl (fun _ => rfl) he hn hN hbytes hh hcells hslots hdg kk
theorem cz_grid (C : Cz p s m args c cc nL own D cy) (hI : cI D a0 s f lo hi H locs) (t u : Nat) {ty : FieldType} (hu : (gT cy)[u]? = some (cy u, ty)) (ht : (gT cy)[t]? = some (cy t, .array ty)) (hcy : s.vm.findClass (FieldType.array ty).toString = some (cy u)) {index : Nat} (h1 : Cond.classLink own index ("[" ++ (FieldType.array ty).toString) ∈ gw_tbl) (harr : Cond.arrayClass ty ∈ gw_tbl) (hover : cAA ty s) {n k : Int32} {N' K' : Nat} {z : vp_A}
    (he : f hi = .inl (cy t, N', .inr (.inr (.inr (.inr (fun j => if j < N' then some (a0 + (hi + 1 + 1 * j)) else none)))))) (hrw : ∀ j, j < N' → f (hi + 1 + j) = .inl (cy u, z)) (hn : ¬ n < 0) (hk : ¬ k < 0) (hN : n.toNatClampNeg = N') (hM : k.toNatClampNeg = K') (hb1 : N' * 4 ≤ 536870912) (hb2 : K' * componentBytes ty ≤ 536870912) (hb3 : K' ≤ 536870912) (hdf : fits ty (defaultValue ty) = true) (hdd : (defaultValue ty).isDefault = true)
    {hi2 : Nat} (hh : hi + 1 + N' = hi2) (hcells : cells + (1 + N') ≤ R.cells) (hslots : slots + (N' + N' * K') ≤ R.slots) (hz : ∀ c : ClassId, Jvm.Free.Multi.innerC c K' (defaultValue ty) = vp_cell c z) (hdg : decode cc pc = .ok (.multianewarray index 2, 4))
    (kk : ∀ H1 : Heap, cI D a0 s f lo hi2 H1 locs → W p l e R s m args below meth c H1 locs (cells + 1 + N') (slots + N' + N' * K') Q (F0 m (pc + 4) ls (.ref (a0 + hi) :: rest))) : W p l e R s m args below meth c H locs cells slots Q (F0 m pc ls (.int k :: .int n :: rest)) := by
  obtain ⟨hx, hb, hml, hown, hts, hK, hE⟩ := C
  subst hN
  subst hM
  subst hh
  intro T hT Xs
  obtain ⟨vm₁, cA, comp, -, fA, fC, hO, -, X', step⟩ := Xs.multianewarray2F hx hown (hts _ h1) (cAA.use hover) (hts _ harr) (g := F0 m pc ls (.int k :: .int n :: rest)) rfl (by rw [hb]; exact hdg) rfl hn hk hb1 hb2 hb3 hdf hdd hcells hslots
  have ec : comp = cy u := Option.some.inj (fC.symm.trans hcy)
  subst ec
  have eA : cA = cy t := Option.some.inj (fA.symm.trans (hK.2 t _ ht).2)
  subst eA
  generalize hF : Jvm.Free.Multi.fill (T.setVm vm₁) (cy t) (cy u) n.toNatClampNeg k.toNatClampNeg (defaultValue ty) n.toNatClampNeg = F at X' step
  have hTh : (T.setVm vm₁).heap = H := hT
  obtain ⟨f1, f2, -, -⟩ := Jvm.Free.Multi.fill_facts (T.setVm vm₁) (cy t) (cy u) n.toNatClampNeg k.toNatClampNeg (defaultValue ty) n.toNatClampNeg
  rw [hF, hTh] at f1 f2
  have hold : ∀ x : Nat, x < H.size → F.heap[x]? = H[x]? := fun x hx => by
    have := Jvm.Free.Multi.fill_old (T.setVm vm₁) (cy t) (cy u) n.toNatClampNeg k.toNatClampNeg (defaultValue ty) (a := x) (by rw [hTh]; exact hx) n.toNatClampNeg
    rw [hF, hTh] at this
    exact this
  have hrow : ∀ j : Nat, j < n.toNatClampNeg → F.heap[H.size + 1 + j]? = some (vp_cell (cy u) z) := fun j hj => by
    have := Jvm.Free.Multi.fill_inner (T.setVm vm₁) (cy t) (cy u) n.toNatClampNeg k.toNatClampNeg (defaultValue ty) n.toNatClampNeg j hj
    rw [hF, hTh, hz] at this
    exact this
  have hout : Jvm.Free.Multi.outerC (cy t) n.toNatClampNeg H.size n.toNatClampNeg = vp_cell (cy t) (n.toNatClampNeg, .inr (.inr (.inr (.inr (fun j => if j < n.toNatClampNeg then some (a0 + (hi + 1 + 1 * j)) else none))))) := by
    rw [vp_cell_q, cz_outer]
    refine congrArg (arrV (cy t) n.toNatClampNeg) (funext fun j => ?_)
    by_cases hj : j < n.toNatClampNeg
    · rw [if_pos hj, if_pos hj, hI.1, show a0 + hi + 1 + j = a0 + (hi + 1 + 1 * j) by omega]
    · rw [if_neg hj, if_neg hj]
  rw [hout] at f2
  have hsz := hI.1
  have h0 := hI.2.2.1
  have hIn : cI D a0 s f lo (hi + 1 + n.toNatClampNeg) F.heap locs := by
    refine ⟨by rw [f1]; omega, fun k9 g0 g1 => ?_, ⟨by rw [f1]; omega, fun x h1 h2 => (hold x (Nat.lt_of_lt_of_le h1 h0)).trans (hI.2.2.2.1 x h1 h2), hI.2.2.2.2⟩⟩
    by_cases c1 : k9 < hi
    · exact (hI.2.1 k9 g0 c1).kept (hold _ (by show a0 + k9 < _; omega))
    · by_cases c2 : k9 = hi
      · subst c2
        rw [he]
        show F.heap[a0 + k9]? = _
        rw [← hsz]
        exact f2
      · obtain ⟨j, rfl⟩ : ∃ j, k9 = hi + 1 + j := ⟨k9 - (hi + 1), by omega⟩
        rw [hrw j (by omega)]
        show F.heap[a0 + (hi + 1 + j)]? = _
        rw [show a0 + (hi + 1 + j) = H.size + 1 + j by omega]
        exact hrow j (by omega)
  obtain ⟨t9, a1, b1⟩ := kk F.heap hIn F rfl X'
  refine ⟨t9, step t9 ?_, b1⟩
  have e9 : T.heap.size = a0 + hi := by rw [hT]; exact hsz
  rw [e9]
  exact a1
theorem cz_gridI (C : Cz p s m args c cc nL own D cy) (hI : cI D a0 s f lo hi H locs) {index : Nat} (h1 : Cond.classLink own index "[[I" ∈ gw_tbl) {n k : Int32} {N' K' : Nat}
    (he : f hi = .inl (cy 4, N', .inr (.inr (.inr (.inr (fun j => if j < N' then some (a0 + (hi + 1 + 1 * j)) else none)))))) (hrw : ∀ j, j < N' → f (hi + 1 + j) = .inl (cy 0, K', .inl (fun _ => 0))) (hn : ¬ n < 0) (hk : ¬ k < 0) (hN : n.toNatClampNeg = N') (hM : k.toNatClampNeg = K') (hb1 : N' * 4 ≤ 536870912) (hb2 : K' * componentBytes .int ≤ 536870912) (hb3 : K' ≤ 536870912)
    {hi2 : Nat} (hh : hi + 1 + N' = hi2) (hcells : cells + (1 + N') ≤ R.cells) (hslots : slots + (N' + N' * K') ≤ R.slots) (hdg : decode cc pc = .ok (.multianewarray index 2, 4))
    (kk : ∀ H1 : Heap, cI D a0 s f lo hi2 H1 locs → W p l e R s m args below meth c H1 locs (cells + 1 + N') (slots + N' + N' * K') Q (F0 m (pc + 4) ls (.ref (a0 + hi) :: rest))) : W p l e R s m args below meth c H locs cells slots Q (F0 m pc ls (.int k :: .int n :: rest)) := by
  have e1 : "[" ++ (FieldType.array .int).toString = "[[I" := by decide +kernel
  have e2 : (FieldType.array .int).toString = "[I" := by decide +kernel
  refine cz_grid C hI 4 0 rfl rfl (by rw [e2]; exact va_nm_int (C.2.2.2.2.2.1.2 0 _ rfl).2) (by rw [e1]; exact h1) kw_1_56 C.2.2.2.2.2.2.2.2.2.2.2.2.2.1 he hrw hn hk hN hM hb1 hb2 hb3 rfl rfl hh hcells hslots (fun c => arrV_new c _ _) hdg kk
theorem cz_gridL (C : Cz p s m args c cc nL own D cy) (hI : cI D a0 s f lo hi H locs) {index : Nat} (h1 : Cond.classLink own index "[[J" ∈ gw_tbl) {n k : Int32} {N' K' : Nat}
    (he : f hi = .inl (cy 5, N', .inr (.inr (.inr (.inr (fun j => if j < N' then some (a0 + (hi + 1 + 1 * j)) else none)))))) (hrw : ∀ j, j < N' → f (hi + 1 + j) = .inl (cy 1, K', .inr (.inl (fun _ => 0)))) (hn : ¬ n < 0) (hk : ¬ k < 0) (hN : n.toNatClampNeg = N') (hM : k.toNatClampNeg = K') (hb1 : N' * 4 ≤ 536870912) (hb2 : K' * componentBytes .long ≤ 536870912) (hb3 : K' ≤ 536870912)
    {hi2 : Nat} (hh : hi + 1 + N' = hi2) (hcells : cells + (1 + N') ≤ R.cells) (hslots : slots + (N' + N' * K') ≤ R.slots) (hdg : decode cc pc = .ok (.multianewarray index 2, 4))
    (kk : ∀ H1 : Heap, cI D a0 s f lo hi2 H1 locs → W p l e R s m args below meth c H1 locs (cells + 1 + N') (slots + N' + N' * K') Q (F0 m (pc + 4) ls (.ref (a0 + hi) :: rest))) : W p l e R s m args below meth c H locs cells slots Q (F0 m pc ls (.int k :: .int n :: rest)) := by
  have e1 : "[" ++ (FieldType.array .long).toString = "[[J" := by decide +kernel
  have e2 : (FieldType.array .long).toString = "[J" := by decide +kernel
  refine cz_grid C hI 5 1 rfl rfl (by rw [e2]; exact va_nm_long (C.2.2.2.2.2.1.2 1 _ rfl).2) (by rw [e1]; exact h1) kw_1_102 C.2.2.2.2.2.2.2.2.2.2.2.2.2.2 he hrw hn hk hN hM hb1 hb2 hb3 rfl rfl hh hcells hslots (fun c => arrV_new c _ _) hdg kk
theorem cz_anew (C : Cz p s m args c cc nL own D cy) (hI : cI D a0 s f lo hi H locs) {index : Nat} (h1 : Cond.classLink own index "BoostForests$Tree" ∈ gw_tbl) {n : Int32} {N' : Nat} (he : f hi = .inl (cy 3, N', .inr (.inr (.inr (.inr (fun _ => none)))))) (hn : ¬ n < 0) (hN : n.toNatClampNeg = N') (hbytes : N' * 4 ≤ 536870912) {hi2 : Nat} (hh : hi + 1 = hi2) (hcells : cells + 1 ≤ R.cells) (hslots : slots + N' ≤ R.slots) (hdg : decode cc pc = .ok (.anewarray index, 3))
    (kk : ∀ H1 : Heap, cI D a0 s f lo hi2 H1 locs → W p l e R s m args below meth c H1 locs (cells + 1) (slots + N') Q (F0 m (pc + 3) ls (.ref (a0 + hi) :: rest))) : W p l e R s m args below meth c H locs cells slots Q (F0 m pc ls (.int n :: rest)) := by
  obtain ⟨hx, hb, hml, hown, hts, hK, hE⟩ := C
  subst hN
  refine W.anew hx hb hown (hts _ h1) (va_AO.use hE.2.2.2.2.2.2.1) rfl hdg rfl hn hbytes hcells hslots fun cA kA comp f1 f2 f3 f4 => ?_
  obtain ⟨kA2, comp2, g1, g2, g3, g4⟩ : va_RA s (cy 3) (.object "BoostForests$Tree") := (hK.2 3 _ rfl).2
  have h4 : cA = cy 3 := Option.some.inj (f1.symm.trans g4)
  subst h4
  generalize hH1 : H.push ({ cls := cy 3, slots := Array.replicate n.toNatClampNeg .null, vm := .none } : Cell) = H1
  have z1 : H1.size = a0 + hi + 1 := by rw [← hH1, Array.size_push, hI.1]
  have e1 : H1[a0 + hi]? = some (arrV (cy 3) n.toNatClampNeg (fun _ => .null)) := by rw [← hH1, ← hI.1, Array.getElem?_push_size, ← arrV_new]
  have o1 : ∀ q : Nat, q < a0 + hi → H1[q]? = H[q]? := fun q hq => by rw [← hH1, Array.getElem?_push, if_neg (Nat.ne_of_lt (by rw [hI.1]; exact hq))]
  have k9 := kk H1 (cI_push hI hh z1 o1 (by rw [he]; show H1[a0 + hi]? = some (vp_cell _ _); rw [vp_cell_q]; exact e1))
  rw [hI.1]
  exact k9
theorem cz_put (C : Cz p s m args c cc nL own D cy) (hnm0 : meth.name = "<init>") (hI : cI D a0 s f lo hi H locs) {k0 : Nat} (h0 : lo ≤ k0) (h1 : k0 < hi) {ci : Nat} {fs : List Value} (he : f k0 = .inr (ci, fs)) {Cn : String} {T : u_T} {N : Nat} (hin : ∀ w ∈ u_ws Cn T N, w ∈ gw_tbl) (hc : vCl[ci]? = some (Cn, T, N)) {ty0 : Nat → FieldType} (hty : ∀ k, k < N → parseFieldDescriptor (T k).2.2.1 = some (ty0 k)) (hnm : ∀ a, a < N → ∀ b, b < N → a ≠ b → (T a).2.1 ≠ (T b).2.1) (k : Nat) (hk : k < N) {index : Nat} (hlink : Cond.fieldLink own index (T k).1 (T k).2.1 (T k).2.2.1 ∈ gw_tbl) (hdecl : (T k).1 = own) {v : Value} (hn : narrow (ty0 k) v = v) (hfit : fits (ty0 k) v = true) (hl : k < fs.length) (hdg : decode cc pc = .ok (.putfield index, 3))
    (kk : ∀ (H1 : Heap) (locs1 : List Loc), cI D a0 s (upF f k0 (.inr (ci, fs.set k v))) lo hi H1 locs1 → W p l e R s m args below meth c H1 locs1 cells slots Q (F0 m (pc + 3) ls rest)) : W p l e R s m args below meth c H locs cells slots Q (F0 m pc ls (v :: .ref (a0 + k0) :: rest)) := by
  obtain ⟨hx, hb, hml, hown, hts, hK, hE⟩ := C
  have hap := va_apart (own := own) hts hin ty0 hty hnm hK hc
  have hat := hI.2.1 k0 h0 h1
  rw [he] at hat
  obtain ⟨r, hr0, cell, q1, q2, q3, q4⟩ := hat
  have hr : r = (Cn, T, N) := Option.some.inj (hr0.symm.trans hc)
  subst hr
  obtain ⟨hS, hfc, kC, hkC, hkind⟩ := hK.1 ci _ hc
  obtain ⟨cf, kf, fi, fd, hi', hsl⟩ := hS k hk
  have hlay := hts _ (hin _ (u_in_lay hk))
  unfold u_lay at hlay
  have hst := (u_facts hfc hkC (u_lays hts hin hk) hi').1
  have fin : ∀ H' : Heap, H'[a0 + k0]? = some (cell.setSlot fd.slot v) → H'.size = H.size → (∀ q, q ≠ a0 + k0 → H'[q]? = H[q]?) → W p l e R s m args below meth c H' (locs ++ [⟨a0 + k0, fd.slot⟩]) cells slots Q (F0 m (pc + 3) ls rest) := fun H' e1 e2 e3 => by
    rw [hsl] at e1 ⊢
    exact kk H' _ (cI_set hI h0 ⟨_, hc, t_OB.to (V := updV (vp_V fs) k v) ⟨_, e1, q2, q3, t_set q4 hap hk v⟩ (fun j _ => vp_updV_set hl v j)⟩ e2 e3)
  by_cases hfin : (T k).2.2.2 = true
  · rw [if_pos hfin] at hlay
    have hcf : m.cls = cf := by
      obtain ⟨_, _, c', _, _, _, -, -, hf', -, -, -, hown2, -⟩ := Cond.laysFinal_spec hlay
      have e1 : c' = cf := by have := hi'.symm.trans hf'; simp at this; exact this.1.symm
      rw [hdecl] at hown2
      rw [← e1]; exact Option.some.inj (hown.symm.trans hown2)
    have h6 := u_fits hfc hkC hkind (Or.inr hlay) hi' (hty k hk) hn hfit
    exact W.putFinK hx hb hown (hts _ hlink) hi' hst hcf hnm0 (by rw [q2]; exact h6) q1 q3 (by rw [hsl]; exact k2_hasslot (q4 k hk)) rfl rfl hdg fin
  · rw [if_neg hfin] at hlay
    have h6 := u_store hfc hkC hkind hlay hi' (hty k hk) hn hfit
    exact W.putK hx hb (f := fd) ⟨hown, hts _ hlink, ⟨_, _, _, hi'⟩, hst⟩ (by rw [q2]; exact h6) q1 q3 (by rw [hsl]; exact k2_hasslot (q4 k hk)) rfl rfl hdg fin
theorem cz_putT (C : Cz p s m args c cc nL own D cy) (hnm0 : meth.name = "<init>") {ci : Nat} {fs : List Value} (hI : cI D a0 s (upF f lo (.inr (ci, fs))) lo hi H locs) (h1 : lo < hi) {Cn : String} {T : u_T} {N : Nat} (hin : ∀ w ∈ u_ws Cn T N, w ∈ gw_tbl) (hc : vCl[ci]? = some (Cn, T, N)) {ty0 : Nat → FieldType} (hty : ∀ k, k < N → parseFieldDescriptor (T k).2.2.1 = some (ty0 k)) (hnm : ∀ a, a < N → ∀ b, b < N → a ≠ b → (T a).2.1 ≠ (T b).2.1) (k : Nat) (hk : k < N) {index : Nat} (hlink : Cond.fieldLink own index (T k).1 (T k).2.1 (T k).2.2.1 ∈ gw_tbl) (hdecl : (T k).1 = own) {v : Value} (hn : narrow (ty0 k) v = v) (hfit : fits (ty0 k) v = true) (hl : k < fs.length) (fs2 : List Value) (hs : fs.set k v = fs2) (hdg : decode cc pc = .ok (.putfield index, 3))
    (kk : ∀ (H1 : Heap) (locs1 : List Loc), cI D a0 s (upF f lo (.inr (ci, fs2))) lo hi H1 locs1 → W p l e R s m args below meth c H1 locs1 cells slots Q (F0 m (pc + 3) ls rest)) : W p l e R s m args below meth c H locs cells slots Q (F0 m pc ls (v :: .ref (a0 + lo) :: rest)) :=
  cz_put C hnm0 hI (Nat.le_refl _) h1 upF_s hin hc hty hnm k hk hlink hdecl hn hfit hl hdg (fun H1 locs1 h => kk H1 locs1 (by rw [upF_up, hs] at h; exact h))
theorem cz_one {k0 : Nat} (hI : cI D a0 s f lo hi H locs) (h0 : lo ≤ k0) (h1 : k0 < hi) {e1 : va_E} (he : f k0 = e1) : va_P D vCl [(a0 + k0, e1)] H := by
  intro k q hk
  have hz : k < 1 := (List.getElem?_eq_some_iff.mp hk).1
  rw [show k = 0 by omega] at hk
  cases hk
  rw [← he]
  exact hI.2.1 k0 h0 h1
theorem cz_get (C : Cz p s m args c cc nL own D cy) (hI : cI D a0 s f lo hi H locs) {k0 : Nat} (h0 : lo ≤ k0) (h1 : k0 < hi) {ci : Nat} {fs : List Value} (he : f k0 = .inr (ci, fs)) {Cn : String} {T : u_T} {N : Nat} (hin : ∀ w ∈ u_ws Cn T N, w ∈ gw_tbl) (hc : vCl[ci]? = some (Cn, T, N)) (k : Nat) (hk : k < N) {index : Nat} (hlink : Cond.fieldLink own index (T k).1 (T k).2.1 (T k).2.2.1 ∈ gw_tbl) {v : Value} (hv : fs[k]? = some v) (hdg : decode cc pc = .ok (.getfield index, 3))
    (kk : W p l e R s m args below meth c H locs cells slots Q (F0 m (pc + 3) ls (v :: rest))) : W p l e R s m args below meth c H locs cells slots Q (F0 m pc ls (.ref (a0 + k0) :: rest)) := by
  obtain ⟨hx, hb, hml, hown, hts, hK, hE⟩ := C
  exact va_get hx hb hts hin hown hK (cz_one hI h0 h1 he) 0 rfl hc k hk (hts _ hlink) (fun _ h => h) hv hdg kk
theorem cz_iast (C : Cz p s m args c cc nL own D cy) (hI : cI D a0 s f lo hi H locs) {k0 : Nat} (h0 : lo ≤ k0) (h1 : k0 < hi) {n : Nat} {g : Nat → Int32} (he : f k0 = .inl (cy 0, n, .inl g)) {i x : Int32} {j : Nat} (hj : i.toNatClampNeg = j) (hin : vp_in i n) (hdg : decode cc pc = .ok (.iastore, 1))
    (kk : ∀ (H1 : Heap) (locs1 : List Loc), cI D a0 s (upF f k0 (.inl (cy 0, n, .inl (upd g j x)))) lo hi H1 locs1 → W p l e R s m args below meth c H1 locs1 cells slots Q (F0 m (pc + 1) ls rest)) : W p l e R s m args below meth c H locs cells slots Q (F0 m pc ls (.int x :: .int i :: .ref (a0 + k0) :: rest)) := by
  obtain ⟨hx, hb, hml, hown, hts, hK, hE⟩ := C
  subst hj
  have hat := hI.2.1 k0 h0 h1
  rw [he] at hat
  have hat : H[a0 + k0]? = some (vp_cell (cy 0) (n, .inl g)) := hat
  refine W.iast hx hb hat ((hK.2 0 _ rfl).1 n (fun j => .int (g j))) (fun q => by cases q) (by show ¬ (i < 0 ∨ (arrV _ _ _).slots.size ≤ _); rw [arrV_size]; exact hin) rfl rfl hdg fun H1 e1 z oq => ?_
  refine kk H1 _ (cI_set hI h0 ?_ z oq)
  show H1[a0 + k0]? = some (vp_cell _ _)
  rw [e1]
  rw [vp_cell_i, vp_cell_i, arrV_store]
  congr 2
  funext q
  by_cases hq : q = i.toNatClampNeg
  · subst hq
    simp [updV, upd]
  · simp [updV, upd, hq]
theorem cz_aast (C : Cz p s m args c cc nL own D cy) (hI : cI D a0 s f lo hi H locs) {k0 k1 : Nat} (h0 : lo ≤ k0) (h1 : k0 < hi) (g0 : lo ≤ k1) (g1 : k1 < hi) {n : Nat} {g : Nat → Option Nat} (he : f k0 = .inl (cy 3, n, .inr (.inr (.inr (.inr g))))) {vs : List Value} (hv : f k1 = .inr (6, vs)) {i : Int32} {j : Nat} (hj : i.toNatClampNeg = j) (hin : vp_in i n) (hdg : decode cc pc = .ok (.aastore, 1))
    (kk : ∀ (H1 : Heap) (locs1 : List Loc), cI D a0 s (upF f k0 (.inl (cy 3, n, .inr (.inr (.inr (.inr (va_up g j (some (a0 + k1)))))))) ) lo hi H1 locs1 → W p l e R s m args below meth c H1 locs1 cells slots Q (F0 m (pc + 1) ls rest)) : W p l e R s m args below meth c H locs cells slots Q (F0 m pc ls (.ref (a0 + k1) :: .int i :: .ref (a0 + k0) :: rest)) := by
  obtain ⟨hx, hb, hml, hown, hts, hK, hE⟩ := C
  subst hj
  have hlt : i.toNatClampNeg < n := Nat.not_le.mp fun q => hin (Or.inr q)
  have hn0 : ¬ i < 0 := fun q => hin (Or.inl q)
  have hat := hI.2.1 k0 h0 h1
  rw [he] at hat
  have hat : H[a0 + k0]? = some (vp_cell (cy 3) (n, .inr (.inr (.inr (.inr g))))) := hat
  have hav := hI.2.1 k1 g0 g1
  rw [hv] at hav
  obtain ⟨r', hr', cellV, q1, q2, q3, -⟩ := hav
  have hcls := (hK.1 6 _ rfl).2
  obtain ⟨kA, comp, k1', k2, k3, -⟩ : va_RA s (cy 3) (.object "BoostForests$Tree") := (hK.2 3 _ rfl).2
  have hcomp : comp = D.1 6 := Option.some.inj (k3.symm.trans hcls.1)
  subst hcomp
  have hasg := va_assign hcls
  obtain ⟨kC, hkC, -⟩ := hcls.2
  refine W.aast hx hb hat (fun q h => by cases h) (fun h => by cases h) k1' k2 rfl hkC ⟨hn0, by show _ < (arrV _ _ _).slots.size; rw [arrV_size]; exact hlt⟩ q1 (fun q h => by rw [q3] at h; cases h) (by rw [q2]; exact hkC) (by rw [q2]; exact hasg) rfl rfl hdg fun H1 e1 z oq => ?_
  refine kk H1 _ (cI_set hI h0 ?_ z oq)
  show H1[a0 + k0]? = some (vp_cell _ _)
  rw [e1]
  rw [vp_cell_q, vp_cell_q, arrV_store]
  congr 2
  funext q
  by_cases hq : q = i.toNatClampNeg
  · subst hq
    simp [updV, va_up, va_rf]
  · simp [updV, va_up, hq]
end CZ
def CI (l : Launch) (y : MethodName) (b : ByteArray) (maxL : Nat) (rm : Room) (D : va_G) (cy : Nat → ClassId) (a0 : Nat) (F : Nat → va_E) (E : State → Prop) (e0 : va_E) (lo hi : Nat) : Prop :=
  Met l y (Cond.code y b maxL none :: gw_tbl) rm (va_Pc [.ref (a0 + lo)] (fun U => U.heap.size = a0 + (lo + 1) ∧ va_at D vCl (a0 + lo, e0) U.heap ∧ va_K D vCl (gT cy) U ∧ cE U ∧ E U))
    (va_Qv (fun _ : Unit => True) (fun _ t => t.heap.size = a0 + hi ∧ ∀ k, lo ≤ k → k < hi → va_at D vCl (a0 + k, F k) t.heap) (fun q => a0 + lo ≤ q)) rm.cells rm.slots (fun q => a0 + lo ≤ q)
def cQ (below : List Frame) (args : Array Value) (s : State) (rm : Room) (D : va_G) (F : Nat → va_E) (a0 lo hi : Nat) : State → Prop := MQ below (va_Qv (fun _ : Unit => True) (fun _ t => t.heap.size = a0 + hi ∧ ∀ k, lo ≤ k → k < hi → va_at D vCl (a0 + k, F k) t.heap) (fun q => a0 + lo ≤ q)) args s rm.cells rm.slots (fun q => a0 + lo ≤ q)
section CZ2
variable {p : Program} {l : Launch} {e : Env} {R : Room} {s : State} {m : MethodId} {args : Array Value} {below : List Frame} {meth : Method} {c : Code} {H : Heap} {locs : List Loc} {cells slots : Nat} {Q : State → Prop}
variable {cc : ByteArray} {pc nL : Nat} {ls : Array Slot} {rest : List Value} {D : va_G} {cy : Nat → ClassId} {own : String} {a0 lo hi : Nat} {f : Nat → va_E}
theorem cz_met {F : Nat → va_E} {y : MethodName} {maxL : Nat} {rm : Room} {E : State → Prop} {e0 : va_E} (hy : plainName y.cls = true) (hname : y.name = "<init>") (hlen : 1 ≤ maxL)
    (body : ∀ (p : Program) (e : Env) (s : State) (m : MethodId) (args : Array Value) (below : List Frame) (meth : Method) (c : Code) (ls : Array Slot), Cz p s m args c cc maxL y.cls D cy → meth.sig.returnType = none → meth.locks = false → meth.name = "<init>" → E s → lv_has ls maxL [(0, .ref (a0 + lo))] → cI D a0 s (upF F lo e0) lo (lo + 1) s.heap [] → W p l e rm s m args below meth c s.heap [] 0 0 (cQ below args s rm D F a0 lo hi) (F0 m 0 ls [])) : CI l y cc maxL rm D cy a0 F E e0 lo hi := by
  refine Met.ofW (cc := cc) (maxL := maxL) (ret := none) hy rfl ?_
  intro p e s m args below meth c s₁ B hml hv
  obtain ⟨rfl, hsz, hP, hK, hE, hE2⟩ := hv
  have hts := atoms_spec (ws := Cond.code y cc maxL none :: gw_tbl) B.pre
  rw [lg_entry_eq]
  refine body p e s m _ below meth c _ ⟨B.exec, B.bytes, hml, findClass_of_methodNamed B.named, fun w hw => hts w (List.mem_cons_of_mem _ hw), hK, hE⟩ B.returns B.notSynchronized ((name_of_methodNamed B.named B.method).1.trans hname) hE2 (lv_entry [.ref (a0 + lo)] hlen) ⟨hsz, fun k g0 g1 => ?_, va_S.rf⟩
  have hk : k = lo := by omega
  subst hk
  rw [upF_s]
  exact hP
theorem cz_ret {F : Nat → va_E} {rm : Room} (C : Cz p s m args c cc nL own D cy) (hr : meth.sig.returnType = none) (hlk : meth.locks = false) (hI : cI D a0 s F lo hi H locs) (hc : cells ≤ rm.cells) (hs : slots ≤ rm.slots) (hdg : decode cc pc = .ok (.return_, 1)) : W p l e R s m args below meth c H locs cells slots (cQ below args s rm D F a0 lo hi) (F0 m pc ls []) := by
  obtain ⟨hx, hb, hml, hown, hts, hK, hE⟩ := C
  exact W.widen hc hs (W.vret (hlocks := hlk) hx hb hr (fun t ht hW => ⟨⟨(), rfl, trivial, by rw [ht]; exact hI.1, by rw [ht]; exact hI.2.1⟩, hI.2.2.F ht⟩) hI.2.2.2.2 hdg)
theorem cz_obj (C : Cz p s m args c cc nL own D cy) (hl : ls.size = nL) {index a : Nat} (h1 : Cond.methodLink own index y_JO_init ∈ gw_tbl) (hfr : 1 ≤ R.frames) (hlo : 12 ≤ R.locals) (hdg : decode cc pc = .ok (.invokespecial index, 3)) (kk : W p l e R s m args below meth c H locs cells slots Q (F0 m (pc + 3) ls [])) : W p l e R s m args below meth c H locs cells slots Q (F0 m pc ls [.ref a]) := by
  obtain ⟨hx, hb, hml, hown, hts, hK, hE⟩ := C
  exact W.objInit hx hb hown (hts _ h1) (hts _ kw_1_18) (hts _ kw_1_19) rfl (hl.trans hml.symm) rfl hdg hfr (by show 2 * 0 + _ + 12 ≤ _; exact hlo) kk
theorem cz_call {F : Nat → va_E} {y : MethodName} {b : ByteArray} {maxL index hi2 : Nat} {rm : Room} {E : State → Prop} {e0 : va_E} (C : Cz p s m args c cc nL own D cy) (hM : CI l y b maxL rm D cy a0 F E e0 hi hi2) (hI : cI D a0 s (upF f hi e0) lo (hi + 1) H locs) (hlo : lo ≤ hi) (hl : ls.size = nL) (hcode : Cond.code y b maxL none ∈ gw_tbl) (hini : Cond.initialized y.cls ∈ gw_tbl) (hins : Cond.instanceMethod y ∈ gw_tbl) (hname : y.name = "<init>") (hd : y.cls ≠ "java/lang/invoke/MethodHandle" ∧ y.cls ≠ "java/lang/invoke/VarHandle" ∧ (parseMethodDescriptor y.desc).map (fun d => d.parameters.length) = some 0) (hR : rm.frames + 1 ≤ R.frames ∧ 8 + (maxL + 11) + rm.locals ≤ R.locals)
    (hlink : va_Nw (.methodLinkNest own index y "BoostForests") s ∨ Cond.methodLink own index y ∈ gw_tbl) (hEb : ∀ (U : State) (g : JFrame) (mk : MethodId) (a : Array Value), E U → E (U.calling g mk a)) (hEs : ∀ U : State, U.heap = H → s.WarmedH U.vm → E U) (hf : ∀ k, hi ≤ k → k < hi2 → f k = F k) (hrest : (rest.map fun v => v.category).sum ≤ 8) (hcells : cells + rm.cells ≤ R.cells) (hslots : slots + rm.slots ≤ R.slots) (hdg : decode cc pc = .ok (.invokespecial index, 3))
    (kk : ∀ (H1 : Heap) (locs1 : List Loc), cI D a0 s f lo hi2 H1 locs1 → W p l e R s m args below meth c H1 locs1 (cells + rm.cells) (slots + rm.slots) Q (F0 m (pc + 3) ls rest)) : W p l e R s m args below meth c H locs cells slots Q (F0 m pc ls (.ref (a0 + hi) :: rest)) := by
  obtain ⟨hx, hb, hml, hown, hts, hK, hE⟩ := C
  have hat := hI.2.1 hi hlo (Nat.lt_succ_self _)
  rw [upF_s] at hat
  have hp : PreS s H (va_Pc [.ref (a0 + hi)] (fun U => U.heap.size = a0 + (hi + 1) ∧ va_at D vCl (a0 + hi, e0) U.heap ∧ va_K D vCl (gT cy) U ∧ cE U ∧ E U)) (.ref (a0 + hi) :: []) :=
    ⟨fun a U g mk q => ⟨q.1, q.2.1, q.2.2.1, va_K.moved (u := U) (U := U.calling g mk a) (Vm.Alike.refl U.vm) q.2.2.2.1, cE_call q.2.2.2.2.1, hEb U g mk a q.2.2.2.2.2⟩, fun U hU hW => ⟨rfl, by rw [hU]; exact hI.1, by rw [hU]; exact hat, va_K.moved hW.alike hK, cE_warm hW hE, hEs U hU hW⟩⟩
  have hrun : va_Run p l e R s m args below meth c H locs cells slots rm.cells rm.slots (F0 m pc ls (.ref (a0 + hi) :: rest)) rest (va_Qv (fun _ : Unit => True) (fun _ t => t.heap.size = a0 + hi2 ∧ ∀ k, hi ≤ k → k < hi2 → va_at D vCl (a0 + k, F k) t.heap) (fun q => a0 + hi ≤ q) (Value.ref (a0 + hi) :: []).toArray) (fun q => a0 + hi ≤ q) := by
    rcases hlink with hlink | hlink
    · exact va_runIN (As := []) (rest := rest) ⟨hx, hb, hml, hown, hts⟩ hM ⟨va_cnB 0 hts (gGood hcode) rfl rfl rfl hlink (hts _ hini) hd hR, hname, hts _ hins⟩ hp rfl rfl hl rfl (lv_room hrest) hdg ⟨hcells, hslots⟩
    · exact va_runI (As := []) (rest := rest) ⟨hx, hb, hml, hown, hts⟩ hM (cwI 0 hts (gGood hcode) rfl rfl rfl (hts _ hini) (hts _ hlink) (hts _ hins) hname hd hR) hp rfl rfl hl rfl (lv_room hrest) hdg ⟨hcells, hslots⟩
  refine va_callv hrun hI.2.2 (fun q _ h => Nat.le_trans (Nat.add_le_add_left hlo _) h) (fun q h => Nat.le_trans (Nat.add_le_add_left hlo _) h) (fun u t H1 locs1 ht hvm _ hB hz hk hS => ?_)
  obtain ⟨b1, b2⟩ := hB
  rw [ht] at b1 b2
  refine kk H1 locs1 ⟨b1, fun k g0 g1 => ?_, hS⟩
  by_cases hkk : k < hi
  · have h9 := hI.2.1 k g0 (by omega)
    rw [upF_n (Nat.ne_of_lt hkk)] at h9
    exact h9.kept (hk _ (by rw [hI.1]; show a0 + k < _; omega) (by show ¬ a0 + hi ≤ a0 + k; omega))
  · rw [hf k (by omega) g1]
    exact b2 k (by omega) g1
end CZ2
end
section
def rz_S : Room := { frames := 1, cells := 0, slots := 0, locals := 12 }
def rz_TB : Room := { frames := 1, cells := 44, slots := 320, locals := 12 }
def rz_TR : Room := { frames := 1, cells := 12, slots := 320, locals := 12 }
def rz_GR : Room := { frames := 2, cells := 60, slots := 1000, locals := 32 }
def rz_TG : Room := { frames := 3, cells := 224, slots := 6000, locals := 52 }
def rz_MD : Room := { frames := 1, cells := 25, slots := 7000, locals := 12 }
abbrev e_TB : List Value := [.null, .null, .null, .null, .int 0]
theorem h_TB : ∀ j, j < 5 → defaultValue (t_TB j) = vp_V e_TB j := by
  intro j hj
  have h : j = 0 ∨ j = 1 ∨ j = 2 ∨ j = 3 ∨ j = 4 := by omega
  rcases h with rfl | rfl | rfl | rfl | rfl <;> rfl
abbrev e_TR : List Value := [.null, .null, .int 0]
theorem h_TR : ∀ j, j < 3 → defaultValue (t_TR j) = vp_V e_TR j := by
  intro j hj
  have h : j = 0 ∨ j = 1 ∨ j = 2 := by omega
  rcases h with rfl | rfl | rfl <;> rfl
abbrev e_GR : List Value := [.null, .null, .null, .null, .null, .null, .null, .null, .null, .null, .null, .null]
theorem h_GR : ∀ j, j < 12 → defaultValue (t_GR j) = vp_V e_GR j := by
  intro j hj
  have h : j = 0 ∨ j = 1 ∨ j = 2 ∨ j = 3 ∨ j = 4 ∨ j = 5 ∨ j = 6 ∨ j = 7 ∨ j = 8 ∨ j = 9 ∨ j = 10 ∨ j = 11 := by omega
  rcases h with rfl | rfl | rfl | rfl | rfl | rfl | rfl | rfl | rfl | rfl | rfl | rfl <;> rfl
abbrev e_TG : List Value := [.null, .null, .null, .null, .null, .null, .null, .null, .int 0, .int 0]
theorem h_TG : ∀ j, j < 10 → defaultValue (t_TG j) = vp_V e_TG j := by
  intro j hj
  have h : j = 0 ∨ j = 1 ∨ j = 2 ∨ j = 3 ∨ j = 4 ∨ j = 5 ∨ j = 6 ∨ j = 7 ∨ j = 8 ∨ j = 9 := by omega
  rcases h with rfl | rfl | rfl | rfl | rfl | rfl | rfl | rfl | rfl | rfl <;> rfl
abbrev e_SM : List Value := [.int 0, .int 0, .long 0]
theorem h_SM : ∀ j, j < 3 → defaultValue (t_SM j) = vp_V e_SM j := by
  intro j hj
  have h : j = 0 ∨ j = 1 ∨ j = 2 := by omega
  rcases h with rfl | rfl | rfl <;> rfl
abbrev e_SP : List Value := [.int 0, .int 0, .int 0, .long 0]
theorem h_SP : ∀ j, j < 4 → defaultValue (t_SP j) = vp_V e_SP j := by
  intro j hj
  have h : j = 0 ∨ j = 1 ∨ j = 2 ∨ j = 3 := by omega
  rcases h with rfl | rfl | rfl | rfl <;> rfl
abbrev e_BF : List Value := [.null, .null, .null, .null]
theorem h_BF : ∀ j, j < 4 → defaultValue (t_BF j) = vp_V e_BF j := by
  intro j hj
  have h : j = 0 ∨ j = 1 ∨ j = 2 ∨ j = 3 := by omega
  rcases h with rfl | rfl | rfl | rfl <;> rfl
abbrev e_MD : List Value := [.int 0, .null, .null, .null, .null, .null, .int 0, .int 0, .null, .null, .null, .null, .null, .null, .int 0, .null, .null, .null, .null, .null, .null, .null, .null, .null, .null, .null, .null, .null, .null, .long 0, .int 0, .int 0]
theorem h_MD : ∀ j, j < 32 → defaultValue (t_MD j) = vp_V e_MD j := by
  intro j hj
  have h : j = 0 ∨ j = 1 ∨ j = 2 ∨ j = 3 ∨ j = 4 ∨ j = 5 ∨ j = 6 ∨ j = 7 ∨ j = 8 ∨ j = 9 ∨ j = 10 ∨ j = 11 ∨ j = 12 ∨ j = 13 ∨ j = 14 ∨ j = 15 ∨ j = 16 ∨ j = 17 ∨ j = 18 ∨ j = 19 ∨ j = 20 ∨ j = 21 ∨ j = 22 ∨ j = 23 ∨ j = 24 ∨ j = 25 ∨ j = 26 ∨ j = 27 ∨ j = 28 ∨ j = 29 ∨ j = 30 ∨ j = 31 := by omega
  rcases h with rfl | rfl | rfl | rfl | rfl | rfl | rfl | rfl | rfl | rfl | rfl | rfl | rfl | rfl | rfl | rfl | rfl | rfl | rfl | rfl | rfl | rfl | rfl | rfl | rfl | rfl | rfl | rfl | rfl | rfl | rfl | rfl <;> rfl
theorem cF_SM {cy : Nat → ClassId} {a0 b : Nat} (h : isSM b) (h1 : b ≠ 46) (h2 : b ≠ 278) : cF cy a0 b = .inr (4, e_SM) := by
  rw [cF_o h]
  show Sum.inr (4, [Value.int (M0.1 b 0), Value.int (M0.1 b 1), Value.long 0]) = _
  rw [M0_z h1 h2]
theorem cF_TB {cy : Nat → ClassId} {a0 b : Nat} (h : isTB b) (h1 : b ≠ 46) (h2 : b ≠ 278) : cF cy a0 b = .inr (1, [.ref (a0 + (b + 1)), .ref (a0 + (b + 42)), .ref (a0 + (b + 43)), .ref (a0 + (b + 44)), .int 0]) := by
  rw [cF_o h.1]
  show Sum.inr (1, [Value.ref (a0 + (b + 1)), Value.ref (a0 + (b + 42)), Value.ref (a0 + (b + 43)), Value.ref (a0 + (b + 44)), Value.int (M0.1 b 4)]) = _
  rw [M0_z h1 h2]
theorem cF_TR {cy : Nat → ClassId} {a0 b : Nat} (h : isTR b) (h1 : b ≠ 46) (h2 : b ≠ 278) : cF cy a0 b = .inr (6, [.ref (a0 + (b + 1)), .ref (a0 + (b + 9)), .int 0]) := by
  rw [cF_o h.1]
  show Sum.inr (6, [Value.ref (a0 + (b + 1)), Value.ref (a0 + (b + 9)), Value.int (M0.1 b 2)]) = _
  rw [M0_z h1 h2]
set_option maxHeartbeats 4000000 in
set_option maxRecDepth 100000 in
theorem c_SM_init {l : Launch} {D : va_G} {cy : Nat → ClassId} {a0 : Nat} {b : Nat} (hb0 : isSM b) (n1 : b ≠ 46) (n2 : b ≠ 278) : CI l y_SM_init b_SM_init 1 rz_S D cy a0 (cF cy a0) (fun _ => True) (.inr (4, e_SM)) b (b + 1) := by
  refine cz_met (by decide +kernel) rfl (Nat.le_of_ble_eq_true rfl) (fun p e s m args below meth c ls C hr hlk hnm hE hl hI => ?_)
  obtain ⟨hx, hb, hml, hown, hts, hK, hE9⟩ := id C
  refine lv_aload_n hx hb d_SM_init_0 rfl (lv_at hl 0 rfl) ?_
  refine cz_obj C hl.1 kw_1_87 (Nat.le_of_ble_eq_true rfl) (Nat.le_of_ble_eq_true rfl) d_SM_init_1 ?_
  have hI := cI_id hI (cF_SM hb0 n1 n2)
  exact cz_ret C hr hlk hI (Nat.le_of_ble_eq_true rfl) (Nat.le_of_ble_eq_true rfl) d_SM_init_4
set_option maxHeartbeats 4000000 in
set_option maxRecDepth 100000 in
theorem c_SP_init {l : Launch} {D : va_G} {cy : Nat → ClassId} {a0 : Nat} : CI l y_SP_init b_SP_init 1 rz_S D cy a0 (cF cy a0) (fun _ => True) (.inr (5, e_SP)) 108 109 := by
  refine cz_met (by decide +kernel) rfl (Nat.le_of_ble_eq_true rfl) (fun p e s m args below meth c ls C hr hlk hnm hE hl hI => ?_)
  obtain ⟨hx, hb, hml, hown, hts, hK, hE9⟩ := id C
  refine lv_aload_n hx hb d_SP_init_0 rfl (lv_at hl 0 rfl) ?_
  refine cz_obj C hl.1 kw_1_108 (Nat.le_of_ble_eq_true rfl) (Nat.le_of_ble_eq_true rfl) d_SP_init_1 ?_
  have hI := cI_id hI (cF_o lay_108)
  exact cz_ret C hr hlk hI (Nat.le_of_ble_eq_true rfl) (Nat.le_of_ble_eq_true rfl) d_SP_init_4
set_option maxHeartbeats 4000000 in
set_option maxRecDepth 100000 in
theorem c_TB_init {l : Launch} {D : va_G} {cy : Nat → ClassId} {a0 : Nat} {b : Nat} (hb0 : isTB b) (hne : ∀ o, o < 45 → b + o ≠ 46 ∧ b + o ≠ 278) : CI l y_TB_init b_TB_init 1 rz_TB D cy a0 (cF cy a0) (fun _ => True) (.inr (1, e_TB)) b (b + 45) := by
  refine cz_met (by decide +kernel) rfl (Nat.le_of_ble_eq_true rfl) (fun p e s m args below meth c ls C hr hlk hnm hE hl hI => ?_)
  obtain ⟨hx, hb, hml, hown, hts, hK, hE9⟩ := id C
  refine lv_aload_n hx hb d_TB_init_0 rfl (lv_at hl 0 rfl) ?_
  refine cz_obj C hl.1 kw_1_25 (Nat.le_of_ble_eq_true rfl) (Nat.le_of_ble_eq_true rfl) d_TB_init_1 ?_
  refine lv_aload_n hx hb d_TB_init_4 rfl (lv_at hl 0 rfl) ?_
  refine lv_bipush (v := (40 : Int32)) hx hb d_TB_init_5 (by decide) ?_
  refine lv_iconst (v := (4 : Int32)) hx hb d_TB_init_7 (by decide) ?_
  refine cz_gridI (hi2 := b + 42) C hI kw_1_26 (by rw [upF_n (by omega)]; exact cF_g (t := 1) hb0.2.1) (fun j hj => by rw [upF_n (by omega)]; exact cF_i (hb0.2.2.1 j hj) (by have := hne (2 + j) (by omega); omega) (by have := hne (2 + j) (by omega); omega)) (by decide) (by decide) (by decide) (by decide) (by decide) (by decide) (by decide) rfl (Nat.le_of_ble_eq_true rfl) (Nat.le_of_ble_eq_true rfl) d_TB_init_8 (fun H hI => ?_)
  refine cz_putT C hnm hI (by omega) i_TB rfl t_TB_ok n_TB 0 (by decide) kw_1_28 rfl rfl rfl (Nat.le_of_ble_eq_true rfl) [.ref (a0 + (b + 1)), .null, .null, .null, .int 0] rfl d_TB_init_12 (fun H locs hI => ?_)
  refine lv_aload_n hx hb d_TB_init_15 rfl (lv_at hl 0 rfl) ?_
  refine lv_bipush (v := (40 : Int32)) hx hb d_TB_init_16 (by decide) ?_
  refine cz_int (hi2 := b + 43) C hI (by rw [upF_n (by omega)]; exact cF_i hb0.2.2.2.1 (hne 42 (by decide)).1 (hne 42 (by decide)).2) (by decide) (by decide) (by decide) rfl (Nat.le_of_ble_eq_true rfl) (Nat.le_of_ble_eq_true rfl) d_TB_init_18 (fun H hI => ?_)
  refine cz_putT C hnm hI (by omega) i_TB rfl t_TB_ok n_TB 1 (by decide) kw_1_31 rfl rfl rfl (Nat.le_of_ble_eq_true rfl) [.ref (a0 + (b + 1)), .ref (a0 + (b + 42)), .null, .null, .int 0] rfl d_TB_init_20 (fun H locs hI => ?_)
  refine lv_aload_n hx hb d_TB_init_23 rfl (lv_at hl 0 rfl) ?_
  refine lv_bipush (v := (40 : Int32)) hx hb d_TB_init_24 (by decide) ?_
  refine cz_int (hi2 := b + 44) C hI (by rw [upF_n (by omega)]; exact cF_i hb0.2.2.2.2.1 (hne 43 (by decide)).1 (hne 43 (by decide)).2) (by decide) (by decide) (by decide) rfl (Nat.le_of_ble_eq_true rfl) (Nat.le_of_ble_eq_true rfl) d_TB_init_26 (fun H hI => ?_)
  refine cz_putT C hnm hI (by omega) i_TB rfl t_TB_ok n_TB 2 (by decide) kw_1_34 rfl rfl rfl (Nat.le_of_ble_eq_true rfl) [.ref (a0 + (b + 1)), .ref (a0 + (b + 42)), .ref (a0 + (b + 43)), .null, .int 0] rfl d_TB_init_28 (fun H locs hI => ?_)
  refine lv_aload_n hx hb d_TB_init_31 rfl (lv_at hl 0 rfl) ?_
  refine lv_bipush (v := (40 : Int32)) hx hb d_TB_init_32 (by decide) ?_
  refine cz_bool (hi2 := b + 45) C hI (by rw [upF_n (by omega)]; exact cF_b hb0.2.2.2.2.2 (hne 44 (by decide)).1 (hne 44 (by decide)).2) (by decide) (by decide) (by decide) rfl (Nat.le_of_ble_eq_true rfl) (Nat.le_of_ble_eq_true rfl) d_TB_init_34 (fun H hI => ?_)
  refine cz_putT C hnm hI (by omega) i_TB rfl t_TB_ok n_TB 3 (by decide) kw_1_37 rfl rfl rfl (Nat.le_of_ble_eq_true rfl) [.ref (a0 + (b + 1)), .ref (a0 + (b + 42)), .ref (a0 + (b + 43)), .ref (a0 + (b + 44)), .int 0] rfl d_TB_init_36 (fun H locs hI => ?_)
  have hI := cI_id hI (cF_TB hb0 (hne 0 (by decide)).1 (hne 0 (by decide)).2)
  exact cz_ret C hr hlk hI (Nat.le_of_ble_eq_true rfl) (Nat.le_of_ble_eq_true rfl) d_TB_init_39
set_option maxHeartbeats 4000000 in
set_option maxRecDepth 100000 in
theorem c_TR_init {l : Launch} {D : va_G} {cy : Nat → ClassId} {a0 : Nat} {b : Nat} (hb0 : isTR b) (hne : ∀ o, o < 13 → b + o ≠ 46 ∧ b + o ≠ 278) : CI l y_TR_init b_TR_init 1 rz_TR D cy a0 (cF cy a0) (fun _ => True) (.inr (6, e_TR)) b (b + 13) := by
  refine cz_met (by decide +kernel) rfl (Nat.le_of_ble_eq_true rfl) (fun p e s m args below meth c ls C hr hlk hnm hE hl hI => ?_)
  obtain ⟨hx, hb, hml, hown, hts, hK, hE9⟩ := id C
  refine lv_aload_n hx hb d_TR_init_0 rfl (lv_at hl 0 rfl) ?_
  refine cz_obj C hl.1 kw_1_175 (Nat.le_of_ble_eq_true rfl) (Nat.le_of_ble_eq_true rfl) d_TR_init_1 ?_
  refine lv_aload_n hx hb d_TR_init_4 rfl (lv_at hl 0 rfl) ?_
  refine lv_bipush (v := (7 : Int32)) hx hb d_TR_init_5 (by decide) ?_
  refine lv_bipush (v := (31 : Int32)) hx hb d_TR_init_7 (by decide) ?_
  refine cz_gridI (hi2 := b + 9) C hI kw_1_176 (by rw [upF_n (by omega)]; exact cF_g (t := 1) hb0.2.1) (fun j hj => by rw [upF_n (by omega)]; exact cF_i (hb0.2.2.1 j hj) (by have := hne (2 + j) (by omega); omega) (by have := hne (2 + j) (by omega); omega)) (by decide) (by decide) (by decide) (by decide) (by decide) (by decide) (by decide) rfl (Nat.le_of_ble_eq_true rfl) (Nat.le_of_ble_eq_true rfl) d_TR_init_9 (fun H hI => ?_)
  refine cz_putT C hnm hI (by omega) i_TR rfl t_TR_ok n_TR 0 (by decide) kw_1_178 rfl rfl rfl (Nat.le_of_ble_eq_true rfl) [.ref (a0 + (b + 1)), .null, .int 0] rfl d_TR_init_13 (fun H locs hI => ?_)
  refine lv_aload_n hx hb d_TR_init_16 rfl (lv_at hl 0 rfl) ?_
  refine lv_iconst (v := (3 : Int32)) hx hb d_TR_init_17 (by decide) ?_
  refine lv_bipush (v := (31 : Int32)) hx hb d_TR_init_18 (by decide) ?_
  refine cz_gridL (hi2 := b + 13) C hI kw_1_177 (by rw [upF_n (by omega)]; exact cF_g (t := 2) hb0.2.2.2.1) (fun j hj => by rw [upF_n (by omega)]; exact cF_l (hb0.2.2.2.2 j hj)) (by decide) (by decide) (by decide) (by decide) (by decide) (by decide) (by decide) rfl (Nat.le_of_ble_eq_true rfl) (Nat.le_of_ble_eq_true rfl) d_TR_init_20 (fun H hI => ?_)
  refine cz_putT C hnm hI (by omega) i_TR rfl t_TR_ok n_TR 1 (by decide) kw_1_181 rfl rfl rfl (Nat.le_of_ble_eq_true rfl) [.ref (a0 + (b + 1)), .ref (a0 + (b + 9)), .int 0] rfl d_TR_init_24 (fun H locs hI => ?_)
  have hI := cI_id hI (cF_TR hb0 (hne 0 (by decide)).1 (hne 0 (by decide)).2)
  exact cz_ret C hr hlk hI (Nat.le_of_ble_eq_true rfl) (Nat.le_of_ble_eq_true rfl) d_TR_init_27
end
section
set_option maxHeartbeats 4000000 in
set_option maxRecDepth 100000 in
theorem c_GR_init {l : Launch} {D : va_G} {cy : Nat → ClassId} {a0 : Nat} : CI l y_GR_init b_GR_init 1 rz_GR D cy a0 (cF cy a0) (fun _ => True) (.inr (3, e_GR)) 48 109 := by
  refine cz_met (by decide +kernel) rfl (Nat.le_of_ble_eq_true rfl) (fun p e s m args below meth c ls C hr hlk hnm hE hl hI => ?_)
  obtain ⟨hx, hb, hml, hown, hts, hK, hE9⟩ := id C
  refine lv_aload_n hx hb d_GR_init_0 rfl (lv_at hl 0 rfl) ?_
  refine cz_obj C hl.1 kw_1_78 (Nat.le_of_ble_eq_true rfl) (Nat.le_of_ble_eq_true rfl) d_GR_init_1 ?_
  refine lv_aload_n hx hb d_GR_init_4 rfl (lv_at hl 0 rfl) ?_
  refine cz_new (ci := 1) (hi2 := 50) C hI i_TB rfl t_TB_ok kw_1_79 kw_1_21 kw_1_2 e_TB h_TB rfl (Nat.le_of_ble_eq_true rfl) (Nat.le_of_ble_eq_true rfl) d_GR_init_5 (fun H hI => ?_)
  refine lv_dup hx hb d_GR_init_8 rfl ?_
  refine cz_call (hi := 49) (hi2 := 94) C (c_TB_init isTB_49 (fun o ho => by omega)) hI (by omega) hl.1 kw_1_24 kw_1_2 kw_1_23 rfl (by decide +kernel) ⟨(Nat.le_of_ble_eq_true rfl), (Nat.le_of_ble_eq_true rfl)⟩ (Or.inl hE9.2.2.1) (fun _ _ _ _ h => h) (fun _ _ _ => trivial) (fun k h1 h2 => upF_n (by omega)) (Nat.le_of_ble_eq_true rfl) (Nat.le_of_ble_eq_true rfl) (Nat.le_of_ble_eq_true rfl) d_GR_init_9 (fun H locs hI => ?_)
  refine cz_putT C hnm hI (by omega) i_GR rfl t_GR_ok n_GR 0 (by decide) kw_1_128 rfl rfl rfl (Nat.le_of_ble_eq_true rfl) [.ref (a0 + 49), .null, .null, .null, .null, .null, .null, .null, .null, .null, .null, .null] rfl d_GR_init_12 (fun H locs hI => ?_)
  refine lv_aload_n hx hb d_GR_init_15 rfl (lv_at hl 0 rfl) ?_
  refine lv_bipush (v := (15 : Int32)) hx hb d_GR_init_16 (by decide) ?_
  refine cz_int (hi2 := 95) C hI (by rw [upF_n (by decide)]; exact cF_i lay_94 (by decide) (by decide)) (by decide) (by decide) (by decide) rfl (Nat.le_of_ble_eq_true rfl) (Nat.le_of_ble_eq_true rfl) d_GR_init_18 (fun H hI => ?_)
  refine cz_putT C hnm hI (by omega) i_GR rfl t_GR_ok n_GR 1 (by decide) kw_1_130 rfl rfl rfl (Nat.le_of_ble_eq_true rfl) [.ref (a0 + 49), .ref (a0 + 94), .null, .null, .null, .null, .null, .null, .null, .null, .null, .null] rfl d_GR_init_20 (fun H locs hI => ?_)
  refine lv_aload_n hx hb d_GR_init_23 rfl (lv_at hl 0 rfl) ?_
  refine lv_iconst (v := (4 : Int32)) hx hb d_GR_init_24 (by decide) ?_
  refine lv_bipush (v := (40 : Int32)) hx hb d_GR_init_25 (by decide) ?_
  refine cz_gridI (hi2 := 100) C hI kw_1_81 (by rw [upF_n (by decide)]; exact cF_g (t := 1) lay_95) (fun j hj => by rw [upF_n (by omega)]; exact cF_i (lay_order j hj) (by omega) (by omega)) (by decide) (by decide) (by decide) (by decide) (by decide) (by decide) (by decide) rfl (Nat.le_of_ble_eq_true rfl) (Nat.le_of_ble_eq_true rfl) d_GR_init_27 (fun H hI => ?_)
  refine cz_putT C hnm hI (by omega) i_GR rfl t_GR_ok n_GR 2 (by decide) kw_1_132 rfl rfl rfl (Nat.le_of_ble_eq_true rfl) [.ref (a0 + 49), .ref (a0 + 94), .ref (a0 + 95), .null, .null, .null, .null, .null, .null, .null, .null, .null] rfl d_GR_init_31 (fun H locs hI => ?_)
  refine lv_aload_n hx hb d_GR_init_34 rfl (lv_at hl 0 rfl) ?_
  refine lv_bipush (v := (40 : Int32)) hx hb d_GR_init_35 (by decide) ?_
  refine cz_int (hi2 := 101) C hI (by rw [upF_n (by decide)]; exact cF_i lay_100 (by decide) (by decide)) (by decide) (by decide) (by decide) rfl (Nat.le_of_ble_eq_true rfl) (Nat.le_of_ble_eq_true rfl) d_GR_init_37 (fun H hI => ?_)
  refine cz_putT C hnm hI (by omega) i_GR rfl t_GR_ok n_GR 3 (by decide) kw_1_133 rfl rfl rfl (Nat.le_of_ble_eq_true rfl) [.ref (a0 + 49), .ref (a0 + 94), .ref (a0 + 95), .ref (a0 + 100), .null, .null, .null, .null, .null, .null, .null, .null] rfl d_GR_init_39 (fun H locs hI => ?_)
  refine lv_aload_n hx hb d_GR_init_42 rfl (lv_at hl 0 rfl) ?_
  refine lv_bipush (v := (40 : Int32)) hx hb d_GR_init_43 (by decide) ?_
  refine cz_long (hi2 := 102) C hI (by rw [upF_n (by decide)]; exact cF_l lay_101) (by decide) (by decide) (by decide) rfl (Nat.le_of_ble_eq_true rfl) (Nat.le_of_ble_eq_true rfl) d_GR_init_45 (fun H hI => ?_)
  refine cz_putT C hnm hI (by omega) i_GR rfl t_GR_ok n_GR 4 (by decide) kw_1_134 rfl rfl rfl (Nat.le_of_ble_eq_true rfl) [.ref (a0 + 49), .ref (a0 + 94), .ref (a0 + 95), .ref (a0 + 100), .ref (a0 + 101), .null, .null, .null, .null, .null, .null, .null] rfl d_GR_init_47 (fun H locs hI => ?_)
  refine lv_aload_n hx hb d_GR_init_50 rfl (lv_at hl 0 rfl) ?_
  refine cz_new (ci := 4) (hi2 := 103) C hI i_SM rfl t_SM_ok kw_1_82 kw_1_83 kw_1_5 e_SM h_SM rfl (Nat.le_of_ble_eq_true rfl) (Nat.le_of_ble_eq_true rfl) d_GR_init_51 (fun H hI => ?_)
  refine lv_dup hx hb d_GR_init_54 rfl ?_
  refine cz_call (hi := 102) (hi2 := 103) C (c_SM_init isSM_102 (by decide) (by decide)) hI (by omega) hl.1 kw_1_86 kw_1_5 kw_1_85 rfl (by decide +kernel) ⟨(Nat.le_of_ble_eq_true rfl), (Nat.le_of_ble_eq_true rfl)⟩ (Or.inl hE9.2.2.2.1) (fun _ _ _ _ h => h) (fun _ _ _ => trivial) (fun k h1 h2 => upF_n (by omega)) (Nat.le_of_ble_eq_true rfl) (Nat.le_of_ble_eq_true rfl) (Nat.le_of_ble_eq_true rfl) d_GR_init_55 (fun H locs hI => ?_)
  refine cz_putT C hnm hI (by omega) i_GR rfl t_GR_ok n_GR 5 (by decide) kw_1_135 rfl rfl rfl (Nat.le_of_ble_eq_true rfl) [.ref (a0 + 49), .ref (a0 + 94), .ref (a0 + 95), .ref (a0 + 100), .ref (a0 + 101), .ref (a0 + 102), .null, .null, .null, .null, .null, .null] rfl d_GR_init_58 (fun H locs hI => ?_)
  refine lv_aload_n hx hb d_GR_init_61 rfl (lv_at hl 0 rfl) ?_
  refine cz_new (ci := 4) (hi2 := 104) C hI i_SM rfl t_SM_ok kw_1_82 kw_1_83 kw_1_5 e_SM h_SM rfl (Nat.le_of_ble_eq_true rfl) (Nat.le_of_ble_eq_true rfl) d_GR_init_62 (fun H hI => ?_)
  refine lv_dup hx hb d_GR_init_65 rfl ?_
  refine cz_call (hi := 103) (hi2 := 104) C (c_SM_init isSM_103 (by decide) (by decide)) hI (by omega) hl.1 kw_1_86 kw_1_5 kw_1_85 rfl (by decide +kernel) ⟨(Nat.le_of_ble_eq_true rfl), (Nat.le_of_ble_eq_true rfl)⟩ (Or.inl hE9.2.2.2.1) (fun _ _ _ _ h => h) (fun _ _ _ => trivial) (fun k h1 h2 => upF_n (by omega)) (Nat.le_of_ble_eq_true rfl) (Nat.le_of_ble_eq_true rfl) (Nat.le_of_ble_eq_true rfl) d_GR_init_66 (fun H locs hI => ?_)
  refine cz_putT C hnm hI (by omega) i_GR rfl t_GR_ok n_GR 6 (by decide) kw_1_136 rfl rfl rfl (Nat.le_of_ble_eq_true rfl) [.ref (a0 + 49), .ref (a0 + 94), .ref (a0 + 95), .ref (a0 + 100), .ref (a0 + 101), .ref (a0 + 102), .ref (a0 + 103), .null, .null, .null, .null, .null] rfl d_GR_init_69 (fun H locs hI => ?_)
  refine lv_aload_n hx hb d_GR_init_72 rfl (lv_at hl 0 rfl) ?_
  refine cz_new (ci := 4) (hi2 := 105) C hI i_SM rfl t_SM_ok kw_1_82 kw_1_83 kw_1_5 e_SM h_SM rfl (Nat.le_of_ble_eq_true rfl) (Nat.le_of_ble_eq_true rfl) d_GR_init_73 (fun H hI => ?_)
  refine lv_dup hx hb d_GR_init_76 rfl ?_
  refine cz_call (hi := 104) (hi2 := 105) C (c_SM_init isSM_104 (by decide) (by decide)) hI (by omega) hl.1 kw_1_86 kw_1_5 kw_1_85 rfl (by decide +kernel) ⟨(Nat.le_of_ble_eq_true rfl), (Nat.le_of_ble_eq_true rfl)⟩ (Or.inl hE9.2.2.2.1) (fun _ _ _ _ h => h) (fun _ _ _ => trivial) (fun k h1 h2 => upF_n (by omega)) (Nat.le_of_ble_eq_true rfl) (Nat.le_of_ble_eq_true rfl) (Nat.le_of_ble_eq_true rfl) d_GR_init_77 (fun H locs hI => ?_)
  refine cz_putT C hnm hI (by omega) i_GR rfl t_GR_ok n_GR 7 (by decide) kw_1_137 rfl rfl rfl (Nat.le_of_ble_eq_true rfl) [.ref (a0 + 49), .ref (a0 + 94), .ref (a0 + 95), .ref (a0 + 100), .ref (a0 + 101), .ref (a0 + 102), .ref (a0 + 103), .ref (a0 + 104), .null, .null, .null, .null] rfl d_GR_init_80 (fun H locs hI => ?_)
  refine lv_aload_n hx hb d_GR_init_83 rfl (lv_at hl 0 rfl) ?_
  refine cz_new (ci := 4) (hi2 := 106) C hI i_SM rfl t_SM_ok kw_1_82 kw_1_83 kw_1_5 e_SM h_SM rfl (Nat.le_of_ble_eq_true rfl) (Nat.le_of_ble_eq_true rfl) d_GR_init_84 (fun H hI => ?_)
  refine lv_dup hx hb d_GR_init_87 rfl ?_
  refine cz_call (hi := 105) (hi2 := 106) C (c_SM_init isSM_105 (by decide) (by decide)) hI (by omega) hl.1 kw_1_86 kw_1_5 kw_1_85 rfl (by decide +kernel) ⟨(Nat.le_of_ble_eq_true rfl), (Nat.le_of_ble_eq_true rfl)⟩ (Or.inl hE9.2.2.2.1) (fun _ _ _ _ h => h) (fun _ _ _ => trivial) (fun k h1 h2 => upF_n (by omega)) (Nat.le_of_ble_eq_true rfl) (Nat.le_of_ble_eq_true rfl) (Nat.le_of_ble_eq_true rfl) d_GR_init_88 (fun H locs hI => ?_)
  refine cz_putT C hnm hI (by omega) i_GR rfl t_GR_ok n_GR 8 (by decide) kw_1_138 rfl rfl rfl (Nat.le_of_ble_eq_true rfl) [.ref (a0 + 49), .ref (a0 + 94), .ref (a0 + 95), .ref (a0 + 100), .ref (a0 + 101), .ref (a0 + 102), .ref (a0 + 103), .ref (a0 + 104), .ref (a0 + 105), .null, .null, .null] rfl d_GR_init_91 (fun H locs hI => ?_)
  refine lv_aload_n hx hb d_GR_init_94 rfl (lv_at hl 0 rfl) ?_
  refine cz_new (ci := 4) (hi2 := 107) C hI i_SM rfl t_SM_ok kw_1_82 kw_1_83 kw_1_5 e_SM h_SM rfl (Nat.le_of_ble_eq_true rfl) (Nat.le_of_ble_eq_true rfl) d_GR_init_95 (fun H hI => ?_)
  refine lv_dup hx hb d_GR_init_98 rfl ?_
  refine cz_call (hi := 106) (hi2 := 107) C (c_SM_init isSM_106 (by decide) (by decide)) hI (by omega) hl.1 kw_1_86 kw_1_5 kw_1_85 rfl (by decide +kernel) ⟨(Nat.le_of_ble_eq_true rfl), (Nat.le_of_ble_eq_true rfl)⟩ (Or.inl hE9.2.2.2.1) (fun _ _ _ _ h => h) (fun _ _ _ => trivial) (fun k h1 h2 => upF_n (by omega)) (Nat.le_of_ble_eq_true rfl) (Nat.le_of_ble_eq_true rfl) (Nat.le_of_ble_eq_true rfl) d_GR_init_99 (fun H locs hI => ?_)
  refine cz_putT C hnm hI (by omega) i_GR rfl t_GR_ok n_GR 9 (by decide) kw_1_139 rfl rfl rfl (Nat.le_of_ble_eq_true rfl) [.ref (a0 + 49), .ref (a0 + 94), .ref (a0 + 95), .ref (a0 + 100), .ref (a0 + 101), .ref (a0 + 102), .ref (a0 + 103), .ref (a0 + 104), .ref (a0 + 105), .ref (a0 + 106), .null, .null] rfl d_GR_init_102 (fun H locs hI => ?_)
  refine lv_aload_n hx hb d_GR_init_105 rfl (lv_at hl 0 rfl) ?_
  refine cz_new (ci := 4) (hi2 := 108) C hI i_SM rfl t_SM_ok kw_1_82 kw_1_83 kw_1_5 e_SM h_SM rfl (Nat.le_of_ble_eq_true rfl) (Nat.le_of_ble_eq_true rfl) d_GR_init_106 (fun H hI => ?_)
  refine lv_dup hx hb d_GR_init_109 rfl ?_
  refine cz_call (hi := 107) (hi2 := 108) C (c_SM_init isSM_107 (by decide) (by decide)) hI (by omega) hl.1 kw_1_86 kw_1_5 kw_1_85 rfl (by decide +kernel) ⟨(Nat.le_of_ble_eq_true rfl), (Nat.le_of_ble_eq_true rfl)⟩ (Or.inl hE9.2.2.2.1) (fun _ _ _ _ h => h) (fun _ _ _ => trivial) (fun k h1 h2 => upF_n (by omega)) (Nat.le_of_ble_eq_true rfl) (Nat.le_of_ble_eq_true rfl) (Nat.le_of_ble_eq_true rfl) d_GR_init_110 (fun H locs hI => ?_)
  refine cz_putT C hnm hI (by omega) i_GR rfl t_GR_ok n_GR 10 (by decide) kw_1_140 rfl rfl rfl (Nat.le_of_ble_eq_true rfl) [.ref (a0 + 49), .ref (a0 + 94), .ref (a0 + 95), .ref (a0 + 100), .ref (a0 + 101), .ref (a0 + 102), .ref (a0 + 103), .ref (a0 + 104), .ref (a0 + 105), .ref (a0 + 106), .ref (a0 + 107), .null] rfl d_GR_init_113 (fun H locs hI => ?_)
  refine lv_aload_n hx hb d_GR_init_116 rfl (lv_at hl 0 rfl) ?_
  refine cz_new (ci := 5) (hi2 := 109) C hI i_SP rfl t_SP_ok kw_1_103 kw_1_104 kw_1_6 e_SP h_SP rfl (Nat.le_of_ble_eq_true rfl) (Nat.le_of_ble_eq_true rfl) d_GR_init_117 (fun H hI => ?_)
  refine lv_dup hx hb d_GR_init_120 rfl ?_
  refine cz_call (hi := 108) (hi2 := 109) C c_SP_init hI (by omega) hl.1 kw_1_107 kw_1_6 kw_1_106 rfl (by decide +kernel) ⟨(Nat.le_of_ble_eq_true rfl), (Nat.le_of_ble_eq_true rfl)⟩ (Or.inl hE9.2.2.2.2.1) (fun _ _ _ _ h => h) (fun _ _ _ => trivial) (fun k h1 h2 => upF_n (by omega)) (Nat.le_of_ble_eq_true rfl) (Nat.le_of_ble_eq_true rfl) (Nat.le_of_ble_eq_true rfl) d_GR_init_121 (fun H locs hI => ?_)
  refine cz_putT C hnm hI (by omega) i_GR rfl t_GR_ok n_GR 11 (by decide) kw_1_141 rfl rfl rfl (Nat.le_of_ble_eq_true rfl) [.ref (a0 + 49), .ref (a0 + 94), .ref (a0 + 95), .ref (a0 + 100), .ref (a0 + 101), .ref (a0 + 102), .ref (a0 + 103), .ref (a0 + 104), .ref (a0 + 105), .ref (a0 + 106), .ref (a0 + 107), .ref (a0 + 108)] rfl d_GR_init_124 (fun H locs hI => ?_)
  have hI := cI_id hI (cF_o lay_48)
  exact cz_ret C hr hlk hI (Nat.le_of_ble_eq_true rfl) (Nat.le_of_ble_eq_true rfl) d_GR_init_127
end
section
def E3 (cy : Nat → ClassId) (a0 t : Nat) : va_E := .inl (cy 3, 12, .inr (.inr (.inr (.inr (fun j => if j < t then some (a0 + (116 + 13 * j)) else none)))))
theorem E3_up {cy : Nat → ClassId} {a0 t : Nat} : (.inl (cy 3, 12, .inr (.inr (.inr (.inr (va_up (fun j => if j < t then some (a0 + (116 + 13 * j)) else none) t (some (a0 + (116 + 13 * t)))))))) : va_E) = E3 cy a0 (t + 1) := by
  refine congrArg (fun g : Nat → Option Nat => (.inl (cy 3, 12, .inr (.inr (.inr (.inr g)))) : va_E)) (funext fun j => ?_)
  by_cases h : j = t
  · subst h
    rw [va_up_self, if_pos (Nat.lt_succ_self _)]
  · rw [va_up_ne _ _ h]
    by_cases h2 : j < t
    · rw [if_pos h2, if_pos (by omega)]
    · rw [if_neg h2, if_neg (by omega)]
theorem E3_0 {cy : Nat → ClassId} {a0 : Nat} : E3 cy a0 0 = .inl (cy 3, 12, .inr (.inr (.inr (.inr (fun _ => none))))) :=
  congrArg (fun g : Nat → Option Nat => (.inl (cy 3, 12, .inr (.inr (.inr (.inr g)))) : va_E)) (funext fun j => if_neg (Nat.not_lt_zero j))
set_option maxHeartbeats 4000000 in
set_option maxRecDepth 100000 in
theorem L_TG_init {p : Program} {l : Launch} {e : Env} {s : State} {m : MethodId} {args : Array Value} {below : List Frame} {meth : Method} {c : Code} {D : va_G} {cy : Nat → ClassId} {a0 : Nat} (C : Cz p s m args c b_TG_init 2 "BoostForests$Training" D cy) (hr : meth.sig.returnType = none) (hlk : meth.locks = false) : ∀ (n t : Nat) (ls : Array Slot) (H : Heap) (locs : List Loc), t + n = 12 → lv_has ls 2 [(1, .int (nI t)), (0, .ref (a0 + 47))] → cI D a0 s (upF (cF cy a0) 109 (E3 cy a0 t)) 47 (116 + 13 * t) H locs → W p l e rz_TG s m args below meth c H locs (68 + 13 * t) (1500 + 323 * t) (cQ below args s rz_TG D (cF cy a0) a0 47 272) (F0 m 83 ls []) := by
  intro n
  induction n with
  | zero =>
    intro t ls H locs ht hl hI
    obtain rfl : t = 12 := by omega
    obtain ⟨hx, hb, hml, hown, hts, hK, hE9⟩ := id C
    refine lv_iload_n hx hb d_TG_init_83 rfl (lv_at hl 0 rfl) ?_
    refine lv_bipush (v := (12 : Int32)) hx hb d_TG_init_84 (by decide) ?_
    refine lv_icmp_ge (tgt := 108) hx hb d_TG_init_86 (by decide) (fun _ => ?_) (fun h => absurd (show (12 : Int32) ≤ nI 12 by decide +kernel) h)
    have hI := cI_id hI (cF_g (t := 0) lay_109)
    exact cz_ret C hr hlk hI (Nat.le_of_ble_eq_true rfl) (Nat.le_of_ble_eq_true rfl) d_TG_init_108
  | succ n ih =>
    intro t ls H locs ht hl hI
    have ht12 : t < 12 := by omega
    have hin : vp_in (nI t) 12 := nI_in ht12 (by decide)
    have hcl : (nI t).toNatClampNeg = t := nI_clamp (by omega)
    obtain ⟨hx, hb, hml, hown, hts, hK, hE9⟩ := id C
    refine lv_iload_n hx hb d_TG_init_83 rfl (lv_at hl 0 rfl) ?_
    refine lv_bipush (v := (12 : Int32)) hx hb d_TG_init_84 (by decide) ?_
    refine lv_icmp_ge (tgt := 108) hx hb d_TG_init_86 (by decide) (fun h => absurd h (nI_ge (b := 12) ht12 (by decide))) (fun _ => ?_)
    refine lv_aload_n hx hb d_TG_init_89 rfl (lv_at hl 1 rfl) ?_
    refine cz_get (v := .ref (a0 + 109)) C hI (k0 := 47) (by omega) (by omega) (by rw [upF_n (by decide)]; exact cF_o lay_47) i_TG rfl 3 (by decide) kw_1_199 rfl d_TG_init_90 ?_
    refine lv_iload_n hx hb d_TG_init_93 rfl (lv_at hl 0 rfl) ?_
    refine cz_new (ci := 6) (hi2 := 116 + 13 * t + 1) C hI i_TR rfl t_TR_ok kw_1_167 kw_1_171 kw_1_7 e_TR h_TR rfl (by show 68 + 13 * t + 1 ≤ 224; omega) (by show 1500 + 323 * t + 3 ≤ 6000; omega) d_TG_init_94 (fun H hI => ?_)
    refine lv_dup hx hb d_TG_init_97 rfl ?_
    refine cz_call (hi := 116 + 13 * t) (hi2 := 116 + 13 * t + 13) C (c_TR_init (isTR_at t ht12) (fun o ho => by omega)) hI (by omega) hl.1 kw_1_174 kw_1_7 kw_1_173 rfl (by decide +kernel) ⟨(Nat.le_of_ble_eq_true rfl), (Nat.le_of_ble_eq_true rfl)⟩ (Or.inl hE9.2.2.2.2.2.1) (fun _ _ _ _ h => h) (fun _ _ _ => trivial) (fun k h1 h2 => upF_n (by omega)) (Nat.le_of_ble_eq_true rfl) (by show 68 + 13 * t + 1 + 12 ≤ 224; omega) (by show 1500 + 323 * t + 3 + 320 ≤ 6000; omega) d_TG_init_98 (fun H locs hI => ?_)
    refine cz_aast (k0 := 109) (k1 := 116 + 13 * t) C hI (by omega) (by omega) (by omega) (by omega) upF_s (by rw [upF_n (by omega)]; exact cF_o (isTR_at t ht12).1) hcl hin d_TG_init_101 (fun H locs hI => ?_)
    rw [upF_up, E3_up] at hI
    refine lv_iinc (k := 0) (v := nI (t + 1)) hx hb d_TG_init_102 hl rfl (nI_succ t).symm (by decide) rfl (fun ls hl => ?_)
    refine lv_goto (tgt := 83) hx hb d_TG_init_105 (by decide) ?_
    refine W.widen (k := 68 + 13 * (t + 1)) (n := 1500 + 323 * (t + 1)) (by show 68 + 13 * t + 1 + 12 ≤ _; omega) (by show 1500 + 323 * t + 3 + 320 ≤ _; omega) ?_
    exact ih (t + 1) ls H locs (by omega) hl (by rw [show 116 + 13 * (t + 1) = 116 + 13 * t + 13 by omega]; exact hI)
set_option maxHeartbeats 4000000 in
set_option maxRecDepth 100000 in
theorem c_TG_init {l : Launch} {D : va_G} {cy : Nat → ClassId} {a0 : Nat} : CI l y_TG_init b_TG_init 2 rz_TG D cy a0 (cF cy a0) (fun _ => True) (.inr (2, e_TG)) 47 272 := by
  refine cz_met (by decide +kernel) rfl (Nat.le_of_ble_eq_true rfl) (fun p e s m args below meth c ls C hr hlk hnm hE hl hI => ?_)
  obtain ⟨hx, hb, hml, hown, hts, hK, hE9⟩ := id C
  refine lv_aload_n hx hb d_TG_init_0 rfl (lv_at hl 0 rfl) ?_
  refine cz_obj C hl.1 kw_1_72 (Nat.le_of_ble_eq_true rfl) (Nat.le_of_ble_eq_true rfl) d_TG_init_1 ?_
  have hI := cI_eq (g := upF (upF (cF cy a0) 109 (E3 cy a0 0)) 47 (.inr (2, e_TG))) hI (fun k h1 h2 => by have hk : k = 47 := (by omega); subst hk; rw [upF_s, upF_s])
  refine lv_aload_n hx hb d_TG_init_4 rfl (lv_at hl 0 rfl) ?_
  refine cz_new (ci := 3) (hi2 := 49) C hI i_GR rfl t_GR_ok kw_1_73 kw_1_74 kw_1_4 e_GR h_GR rfl (Nat.le_of_ble_eq_true rfl) (Nat.le_of_ble_eq_true rfl) d_TG_init_5 (fun H hI => ?_)
  refine lv_dup hx hb d_TG_init_8 rfl ?_
  refine cz_call (hi := 48) (hi2 := 109) C c_GR_init hI (by omega) hl.1 kw_1_77 kw_1_4 kw_1_76 rfl (by decide +kernel) ⟨(Nat.le_of_ble_eq_true rfl), (Nat.le_of_ble_eq_true rfl)⟩ (Or.inl hE9.2.1) (fun _ _ _ _ h => h) (fun _ _ _ => trivial) (fun k h1 h2 => by rw [upF_n (by omega), upF_n (by omega)]) (Nat.le_of_ble_eq_true rfl) (Nat.le_of_ble_eq_true rfl) (Nat.le_of_ble_eq_true rfl) d_TG_init_9 (fun H locs hI => ?_)
  refine cz_putT C hnm hI (by omega) i_TG rfl t_TG_ok n_TG 0 (by decide) kw_1_195 rfl rfl rfl (Nat.le_of_ble_eq_true rfl) [.ref (a0 + 48), .null, .null, .null, .null, .null, .null, .null, .int 0, .int 0] rfl d_TG_init_12 (fun H locs hI => ?_)
  refine lv_aload_n hx hb d_TG_init_15 rfl (lv_at hl 0 rfl) ?_
  refine lv_aload_n hx hb d_TG_init_16 rfl (lv_at hl 0 rfl) ?_
  refine cz_get (v := .ref (a0 + 48)) C hI (k0 := 47) (by omega) (by omega) upF_s i_TG rfl 0 (by decide) kw_1_195 rfl d_TG_init_17 ?_
  refine cz_get (v := .ref (a0 + 49)) C hI (k0 := 48) (by omega) (by omega) (by rw [upF_n (by decide), upF_n (by decide)]; exact cF_o lay_48) i_GR rfl 0 (by decide) kw_1_129 rfl d_TG_init_20 ?_
  refine cz_putT C hnm hI (by omega) i_TG rfl t_TG_ok n_TG 1 (by decide) kw_1_196 rfl rfl rfl (Nat.le_of_ble_eq_true rfl) [.ref (a0 + 48), .ref (a0 + 49), .null, .null, .null, .null, .null, .null, .int 0, .int 0] rfl d_TG_init_23 (fun H locs hI => ?_)
  refine lv_aload_n hx hb d_TG_init_26 rfl (lv_at hl 0 rfl) ?_
  refine lv_aload_n hx hb d_TG_init_27 rfl (lv_at hl 0 rfl) ?_
  refine cz_get (v := .ref (a0 + 48)) C hI (k0 := 47) (by omega) (by omega) upF_s i_TG rfl 0 (by decide) kw_1_195 rfl d_TG_init_28 ?_
  refine cz_get (v := .ref (a0 + 94)) C hI (k0 := 48) (by omega) (by omega) (by rw [upF_n (by decide), upF_n (by decide)]; exact cF_o lay_48) i_GR rfl 1 (by decide) kw_1_131 rfl d_TG_init_31 ?_
  refine cz_putT C hnm hI (by omega) i_TG rfl t_TG_ok n_TG 2 (by decide) kw_1_198 rfl rfl rfl (Nat.le_of_ble_eq_true rfl) [.ref (a0 + 48), .ref (a0 + 49), .ref (a0 + 94), .null, .null, .null, .null, .null, .int 0, .int 0] rfl d_TG_init_34 (fun H locs hI => ?_)
  refine lv_aload_n hx hb d_TG_init_37 rfl (lv_at hl 0 rfl) ?_
  refine lv_bipush (v := (12 : Int32)) hx hb d_TG_init_38 (by decide) ?_
  refine cz_anew (hi2 := 110) (N' := 12) C hI kw_1_167 (by rw [upF_n (by decide), upF_s]; exact E3_0) (by decide) (by decide) (by decide) rfl (Nat.le_of_ble_eq_true rfl) (Nat.le_of_ble_eq_true rfl) d_TG_init_40 (fun H hI => ?_)
  refine cz_putT C hnm hI (by omega) i_TG rfl t_TG_ok n_TG 3 (by decide) kw_1_199 rfl rfl rfl (Nat.le_of_ble_eq_true rfl) [.ref (a0 + 48), .ref (a0 + 49), .ref (a0 + 94), .ref (a0 + 109), .null, .null, .null, .null, .int 0, .int 0] rfl d_TG_init_43 (fun H locs hI => ?_)
  refine lv_aload_n hx hb d_TG_init_46 rfl (lv_at hl 0 rfl) ?_
  refine lv_bipush (v := (40 : Int32)) hx hb d_TG_init_47 (by decide) ?_
  refine cz_long (hi2 := 111) C hI (by rw [upF_n (by decide), upF_n (by decide)]; exact cF_l lay_110) (by decide) (by decide) (by decide) rfl (Nat.le_of_ble_eq_true rfl) (Nat.le_of_ble_eq_true rfl) d_TG_init_49 (fun H hI => ?_)
  refine cz_putT C hnm hI (by omega) i_TG rfl t_TG_ok n_TG 4 (by decide) kw_1_201 rfl rfl rfl (Nat.le_of_ble_eq_true rfl) [.ref (a0 + 48), .ref (a0 + 49), .ref (a0 + 94), .ref (a0 + 109), .ref (a0 + 110), .null, .null, .null, .int 0, .int 0] rfl d_TG_init_51 (fun H locs hI => ?_)
  refine lv_aload_n hx hb d_TG_init_54 rfl (lv_at hl 0 rfl) ?_
  refine lv_bipush (v := (40 : Int32)) hx hb d_TG_init_55 (by decide) ?_
  refine cz_int (hi2 := 112) C hI (by rw [upF_n (by decide), upF_n (by decide)]; exact cF_i lay_111 (by decide) (by decide)) (by decide) (by decide) (by decide) rfl (Nat.le_of_ble_eq_true rfl) (Nat.le_of_ble_eq_true rfl) d_TG_init_57 (fun H hI => ?_)
  refine cz_putT C hnm hI (by omega) i_TG rfl t_TG_ok n_TG 5 (by decide) kw_1_202 rfl rfl rfl (Nat.le_of_ble_eq_true rfl) [.ref (a0 + 48), .ref (a0 + 49), .ref (a0 + 94), .ref (a0 + 109), .ref (a0 + 110), .ref (a0 + 111), .null, .null, .int 0, .int 0] rfl d_TG_init_59 (fun H locs hI => ?_)
  refine lv_aload_n hx hb d_TG_init_62 rfl (lv_at hl 0 rfl) ?_
  refine lv_iconst (v := (2 : Int32)) hx hb d_TG_init_63 (by decide) ?_
  refine lv_bipush (v := (13 : Int32)) hx hb d_TG_init_64 (by decide) ?_
  refine cz_gridL (hi2 := 115) C hI kw_1_169 (by rw [upF_n (by decide), upF_n (by decide)]; exact cF_g (t := 2) lay_112) (fun j hj => by rw [upF_n (by omega), upF_n (by omega)]; exact cF_l (lay_losses j hj)) (by decide) (by decide) (by decide) (by decide) (by decide) (by decide) (by decide) rfl (Nat.le_of_ble_eq_true rfl) (Nat.le_of_ble_eq_true rfl) d_TG_init_66 (fun H hI => ?_)
  refine cz_putT C hnm hI (by omega) i_TG rfl t_TG_ok n_TG 6 (by decide) kw_1_204 rfl rfl rfl (Nat.le_of_ble_eq_true rfl) [.ref (a0 + 48), .ref (a0 + 49), .ref (a0 + 94), .ref (a0 + 109), .ref (a0 + 110), .ref (a0 + 111), .ref (a0 + 112), .null, .int 0, .int 0] rfl d_TG_init_70 (fun H locs hI => ?_)
  refine lv_aload_n hx hb d_TG_init_73 rfl (lv_at hl 0 rfl) ?_
  refine lv_bipush (v := (31 : Int32)) hx hb d_TG_init_74 (by decide) ?_
  refine cz_long (hi2 := 116) C hI (by rw [upF_n (by decide), upF_n (by decide)]; exact cF_l lay_115) (by decide) (by decide) (by decide) rfl (Nat.le_of_ble_eq_true rfl) (Nat.le_of_ble_eq_true rfl) d_TG_init_76 (fun H hI => ?_)
  refine cz_putT C hnm hI (by omega) i_TG rfl t_TG_ok n_TG 7 (by decide) kw_1_206 rfl rfl rfl (Nat.le_of_ble_eq_true rfl) [.ref (a0 + 48), .ref (a0 + 49), .ref (a0 + 94), .ref (a0 + 109), .ref (a0 + 110), .ref (a0 + 111), .ref (a0 + 112), .ref (a0 + 115), .int 0, .int 0] rfl d_TG_init_78 (fun H locs hI => ?_)
  have hI := cI_id hI (by rw [upF_n (by decide)]; exact cF_o lay_47)
  refine lv_iconst (v := (0 : Int32)) hx hb d_TG_init_81 (by decide) ?_
  refine lv_istore_n hx hb d_TG_init_82 rfl hl (by decide) rfl (fun ls hl => ?_)
  refine W.widen (k := 68 + 13 * 0) (n := 1500 + 323 * 0) (Nat.le_of_ble_eq_true rfl) (Nat.le_of_ble_eq_true rfl) ?_
  exact L_TG_init C hr hlk 12 0 ls H locs rfl hl hI
end
section
def eS (cy : Nat → ClassId) (g : Nat → Int32) : va_E := .inl (cy 0, 15, .inl g)
theorem e_first {cy : Nat → ClassId} {a0 : Nat} : (.inl (cy 0, 15, .inl (upd (upd (upd (upd (upd (upd (upd (fun _ => 0) 0 3) 1 1) 2 1) 3 256) 4 4) 6 256) 7 256)) : va_E) = cF cy a0 278 := by
  unfold cF
  rw [lay_278]
  show _ = Sum.inl (cy 0, 15, Sum.inl (M0.1 278))
  refine congrArg (fun g : Nat → Int32 => (.inl (cy 0, 15, .inl g) : va_E)) (funext fun j => ?_)
  rw [M0_278]
  by_cases h : j < 15
  · have h2 : j = 0 ∨ j = 1 ∨ j = 2 ∨ j = 3 ∨ j = 4 ∨ j = 5 ∨ j = 6 ∨ j = 7 ∨ j = 8 ∨ j = 9 ∨ j = 10 ∨ j = 11 ∨ j = 12 ∨ j = 13 ∨ j = 14 := by omega
    rcases h2 with rfl | rfl | rfl | rfl | rfl | rfl | rfl | rfl | rfl | rfl | rfl | rfl | rfl | rfl | rfl <;> decide
  · have e1 : c_FIRST j = 0 := by
      unfold c_FIRST
      rw [List.getD_eq_getElem?_getD, List.getElem?_eq_none (by simp; omega)]
      rfl
    rw [e1]
    simp only [upd]
    repeat rw [if_neg (by omega)]
set_option maxHeartbeats 4000000 in
set_option maxRecDepth 100000 in
theorem c_MD_init {l : Launch} {D : va_G} {cy : Nat → ClassId} {a0 : Nat} : CI l y_MD_init b_MD_init 1 rz_MD D cy a0 (cF cy a0) (fun _ => True) (.inr (7, e_MD)) 273 299 := by
  refine cz_met (by decide +kernel) rfl (Nat.le_of_ble_eq_true rfl) (fun p e s m args below meth c ls C hr hlk hnm hE hl hI => ?_)
  obtain ⟨hx, hb, hml, hown, hts, hK, hE9⟩ := id C
  refine lv_aload_n hx hb d_MD_init_0 rfl (lv_at hl 0 rfl) ?_
  refine cz_obj C hl.1 kw_3_70 (Nat.le_of_ble_eq_true rfl) (Nat.le_of_ble_eq_true rfl) d_MD_init_1 ?_
  have hI := cI_eq (g := upF (upF (cF cy a0) 278 (eS cy (fun _ => 0))) 273 (.inr (7, e_MD))) hI (fun k h1 h2 => by have hk : k = 273 := (by omega); subst hk; rw [upF_s, upF_s])
  refine lv_aload_n hx hb d_MD_init_4 rfl (lv_at hl 0 rfl) ?_
  refine lv_sipush (v := (160 : Int32)) hx hb d_MD_init_5 (by decide) ?_
  refine cz_int (hi2 := 275) C hI (by rw [upF_n (by decide), upF_n (by decide)]; exact cF_i lay_274 (by decide) (by decide)) (by decide) (by decide) (by decide) rfl (Nat.le_of_ble_eq_true rfl) (Nat.le_of_ble_eq_true rfl) d_MD_init_8 (fun H hI => ?_)
  refine cz_putT C hnm hI (by omega) i_MD rfl t_MD_ok n_MD 1 (by decide) kw_3_72 rfl rfl rfl (Nat.le_of_ble_eq_true rfl) [.int 0, .ref (a0 + 274), .null, .null, .null, .null, .int 0, .int 0, .null, .null, .null, .null, .null, .null, .int 0, .null, .null, .null, .null, .null, .null, .null, .null, .null, .null, .null, .null, .null, .null, .long 0, .int 0, .int 0] rfl d_MD_init_10 (fun H locs hI => ?_)
  refine lv_aload_n hx hb d_MD_init_13 rfl (lv_at hl 0 rfl) ?_
  refine lv_bipush (v := (40 : Int32)) hx hb d_MD_init_14 (by decide) ?_
  refine cz_int (hi2 := 276) C hI (by rw [upF_n (by decide), upF_n (by decide)]; exact cF_i lay_275 (by decide) (by decide)) (by decide) (by decide) (by decide) rfl (Nat.le_of_ble_eq_true rfl) (Nat.le_of_ble_eq_true rfl) d_MD_init_16 (fun H hI => ?_)
  refine cz_putT C hnm hI (by omega) i_MD rfl t_MD_ok n_MD 2 (by decide) kw_3_73 rfl rfl rfl (Nat.le_of_ble_eq_true rfl) [.int 0, .ref (a0 + 274), .ref (a0 + 275), .null, .null, .null, .int 0, .int 0, .null, .null, .null, .null, .null, .null, .int 0, .null, .null, .null, .null, .null, .null, .null, .null, .null, .null, .null, .null, .null, .null, .long 0, .int 0, .int 0] rfl d_MD_init_18 (fun H locs hI => ?_)
  refine lv_aload_n hx hb d_MD_init_21 rfl (lv_at hl 0 rfl) ?_
  refine lv_bipush (v := (40 : Int32)) hx hb d_MD_init_22 (by decide) ?_
  refine cz_int (hi2 := 277) C hI (by rw [upF_n (by decide), upF_n (by decide)]; exact cF_i lay_276 (by decide) (by decide)) (by decide) (by decide) (by decide) rfl (Nat.le_of_ble_eq_true rfl) (Nat.le_of_ble_eq_true rfl) d_MD_init_24 (fun H hI => ?_)
  refine cz_putT C hnm hI (by omega) i_MD rfl t_MD_ok n_MD 3 (by decide) kw_3_74 rfl rfl rfl (Nat.le_of_ble_eq_true rfl) [.int 0, .ref (a0 + 274), .ref (a0 + 275), .ref (a0 + 276), .null, .null, .int 0, .int 0, .null, .null, .null, .null, .null, .null, .int 0, .null, .null, .null, .null, .null, .null, .null, .null, .null, .null, .null, .null, .null, .null, .long 0, .int 0, .int 0] rfl d_MD_init_26 (fun H locs hI => ?_)
  refine lv_aload_n hx hb d_MD_init_29 rfl (lv_at hl 0 rfl) ?_
  refine lv_bipush (v := (40 : Int32)) hx hb d_MD_init_30 (by decide) ?_
  refine cz_bool (hi2 := 278) C hI (by rw [upF_n (by decide), upF_n (by decide)]; exact cF_b lay_277 (by decide) (by decide)) (by decide) (by decide) (by decide) rfl (Nat.le_of_ble_eq_true rfl) (Nat.le_of_ble_eq_true rfl) d_MD_init_32 (fun H hI => ?_)
  refine cz_putT C hnm hI (by omega) i_MD rfl t_MD_ok n_MD 4 (by decide) kw_3_75 rfl rfl rfl (Nat.le_of_ble_eq_true rfl) [.int 0, .ref (a0 + 274), .ref (a0 + 275), .ref (a0 + 276), .ref (a0 + 277), .null, .int 0, .int 0, .null, .null, .null, .null, .null, .null, .int 0, .null, .null, .null, .null, .null, .null, .null, .null, .null, .null, .null, .null, .null, .null, .long 0, .int 0, .int 0] rfl d_MD_init_34 (fun H locs hI => ?_)
  refine lv_aload_n hx hb d_MD_init_37 rfl (lv_at hl 0 rfl) ?_
  refine lv_bipush (v := (15 : Int32)) hx hb d_MD_init_38 (by decide) ?_
  refine cz_int (hi2 := 279) C hI (by rw [upF_n (by decide), upF_s]; rfl) (by decide) (by decide) (by decide) rfl (Nat.le_of_ble_eq_true rfl) (Nat.le_of_ble_eq_true rfl) d_MD_init_40 (fun H hI => ?_)
  refine cz_putT C hnm hI (by omega) i_MD rfl t_MD_ok n_MD 5 (by decide) kw_3_76 rfl rfl rfl (Nat.le_of_ble_eq_true rfl) [.int 0, .ref (a0 + 274), .ref (a0 + 275), .ref (a0 + 276), .ref (a0 + 277), .ref (a0 + 278), .int 0, .int 0, .null, .null, .null, .null, .null, .null, .int 0, .null, .null, .null, .null, .null, .null, .null, .null, .null, .null, .null, .null, .null, .null, .long 0, .int 0, .int 0] rfl d_MD_init_42 (fun H locs hI => ?_)
  refine lv_aload_n hx hb d_MD_init_45 rfl (lv_at hl 0 rfl) ?_
  refine lv_sipush (v := (160 : Int32)) hx hb d_MD_init_46 (by decide) ?_
  refine cz_int (hi2 := 280) C hI (by rw [upF_n (by decide), upF_n (by decide)]; exact cF_i lay_279 (by decide) (by decide)) (by decide) (by decide) (by decide) rfl (Nat.le_of_ble_eq_true rfl) (Nat.le_of_ble_eq_true rfl) d_MD_init_49 (fun H hI => ?_)
  refine cz_putT C hnm hI (by omega) i_MD rfl t_MD_ok n_MD 8 (by decide) kw_3_79 rfl rfl rfl (Nat.le_of_ble_eq_true rfl) [.int 0, .ref (a0 + 274), .ref (a0 + 275), .ref (a0 + 276), .ref (a0 + 277), .ref (a0 + 278), .int 0, .int 0, .ref (a0 + 279), .null, .null, .null, .null, .null, .int 0, .null, .null, .null, .null, .null, .null, .null, .null, .null, .null, .null, .null, .null, .null, .long 0, .int 0, .int 0] rfl d_MD_init_51 (fun H locs hI => ?_)
  refine lv_aload_n hx hb d_MD_init_54 rfl (lv_at hl 0 rfl) ?_
  refine lv_bipush (v := (40 : Int32)) hx hb d_MD_init_55 (by decide) ?_
  refine cz_int (hi2 := 281) C hI (by rw [upF_n (by decide), upF_n (by decide)]; exact cF_i lay_280 (by decide) (by decide)) (by decide) (by decide) (by decide) rfl (Nat.le_of_ble_eq_true rfl) (Nat.le_of_ble_eq_true rfl) d_MD_init_57 (fun H hI => ?_)
  refine cz_putT C hnm hI (by omega) i_MD rfl t_MD_ok n_MD 9 (by decide) kw_3_80 rfl rfl rfl (Nat.le_of_ble_eq_true rfl) [.int 0, .ref (a0 + 274), .ref (a0 + 275), .ref (a0 + 276), .ref (a0 + 277), .ref (a0 + 278), .int 0, .int 0, .ref (a0 + 279), .ref (a0 + 280), .null, .null, .null, .null, .int 0, .null, .null, .null, .null, .null, .null, .null, .null, .null, .null, .null, .null, .null, .null, .long 0, .int 0, .int 0] rfl d_MD_init_59 (fun H locs hI => ?_)
  refine lv_aload_n hx hb d_MD_init_62 rfl (lv_at hl 0 rfl) ?_
  refine lv_bipush (v := (40 : Int32)) hx hb d_MD_init_63 (by decide) ?_
  refine cz_int (hi2 := 282) C hI (by rw [upF_n (by decide), upF_n (by decide)]; exact cF_i lay_281 (by decide) (by decide)) (by decide) (by decide) (by decide) rfl (Nat.le_of_ble_eq_true rfl) (Nat.le_of_ble_eq_true rfl) d_MD_init_65 (fun H hI => ?_)
  refine cz_putT C hnm hI (by omega) i_MD rfl t_MD_ok n_MD 10 (by decide) kw_3_81 rfl rfl rfl (Nat.le_of_ble_eq_true rfl) [.int 0, .ref (a0 + 274), .ref (a0 + 275), .ref (a0 + 276), .ref (a0 + 277), .ref (a0 + 278), .int 0, .int 0, .ref (a0 + 279), .ref (a0 + 280), .ref (a0 + 281), .null, .null, .null, .int 0, .null, .null, .null, .null, .null, .null, .null, .null, .null, .null, .null, .null, .null, .null, .long 0, .int 0, .int 0] rfl d_MD_init_67 (fun H locs hI => ?_)
  refine lv_aload_n hx hb d_MD_init_70 rfl (lv_at hl 0 rfl) ?_
  refine lv_bipush (v := (40 : Int32)) hx hb d_MD_init_71 (by decide) ?_
  refine cz_bool (hi2 := 283) C hI (by rw [upF_n (by decide), upF_n (by decide)]; exact cF_b lay_282 (by decide) (by decide)) (by decide) (by decide) (by decide) rfl (Nat.le_of_ble_eq_true rfl) (Nat.le_of_ble_eq_true rfl) d_MD_init_73 (fun H hI => ?_)
  refine cz_putT C hnm hI (by omega) i_MD rfl t_MD_ok n_MD 11 (by decide) kw_3_82 rfl rfl rfl (Nat.le_of_ble_eq_true rfl) [.int 0, .ref (a0 + 274), .ref (a0 + 275), .ref (a0 + 276), .ref (a0 + 277), .ref (a0 + 278), .int 0, .int 0, .ref (a0 + 279), .ref (a0 + 280), .ref (a0 + 281), .ref (a0 + 282), .null, .null, .int 0, .null, .null, .null, .null, .null, .null, .null, .null, .null, .null, .null, .null, .null, .null, .long 0, .int 0, .int 0] rfl d_MD_init_75 (fun H locs hI => ?_)
  refine lv_aload_n hx hb d_MD_init_78 rfl (lv_at hl 0 rfl) ?_
  refine lv_bipush (v := (15 : Int32)) hx hb d_MD_init_79 (by decide) ?_
  refine cz_int (hi2 := 284) C hI (by rw [upF_n (by decide), upF_n (by decide)]; exact cF_i lay_283 (by decide) (by decide)) (by decide) (by decide) (by decide) rfl (Nat.le_of_ble_eq_true rfl) (Nat.le_of_ble_eq_true rfl) d_MD_init_81 (fun H hI => ?_)
  refine cz_putT C hnm hI (by omega) i_MD rfl t_MD_ok n_MD 12 (by decide) kw_3_83 rfl rfl rfl (Nat.le_of_ble_eq_true rfl) [.int 0, .ref (a0 + 274), .ref (a0 + 275), .ref (a0 + 276), .ref (a0 + 277), .ref (a0 + 278), .int 0, .int 0, .ref (a0 + 279), .ref (a0 + 280), .ref (a0 + 281), .ref (a0 + 282), .ref (a0 + 283), .null, .int 0, .null, .null, .null, .null, .null, .null, .null, .null, .null, .null, .null, .null, .null, .null, .long 0, .int 0, .int 0] rfl d_MD_init_83 (fun H locs hI => ?_)
  refine lv_aload_n hx hb d_MD_init_86 rfl (lv_at hl 0 rfl) ?_
  refine lv_bipush (v := (40 : Int32)) hx hb d_MD_init_87 (by decide) ?_
  refine cz_long (hi2 := 285) C hI (by rw [upF_n (by decide), upF_n (by decide)]; exact cF_l lay_284) (by decide) (by decide) (by decide) rfl (Nat.le_of_ble_eq_true rfl) (Nat.le_of_ble_eq_true rfl) d_MD_init_89 (fun H hI => ?_)
  refine cz_putT C hnm hI (by omega) i_MD rfl t_MD_ok n_MD 13 (by decide) kw_3_84 rfl rfl rfl (Nat.le_of_ble_eq_true rfl) [.int 0, .ref (a0 + 274), .ref (a0 + 275), .ref (a0 + 276), .ref (a0 + 277), .ref (a0 + 278), .int 0, .int 0, .ref (a0 + 279), .ref (a0 + 280), .ref (a0 + 281), .ref (a0 + 282), .ref (a0 + 283), .ref (a0 + 284), .int 0, .null, .null, .null, .null, .null, .null, .null, .null, .null, .null, .null, .null, .null, .null, .long 0, .int 0, .int 0] rfl d_MD_init_91 (fun H locs hI => ?_)
  refine lv_aload_n hx hb d_MD_init_94 rfl (lv_at hl 0 rfl) ?_
  refine lv_bipush (v := (26 : Int32)) hx hb d_MD_init_95 (by decide) ?_
  refine cz_long (hi2 := 286) C hI (by rw [upF_n (by decide), upF_n (by decide)]; exact cF_l lay_285) (by decide) (by decide) (by decide) rfl (Nat.le_of_ble_eq_true rfl) (Nat.le_of_ble_eq_true rfl) d_MD_init_97 (fun H hI => ?_)
  refine cz_putT C hnm hI (by omega) i_MD rfl t_MD_ok n_MD 15 (by decide) kw_3_86 rfl rfl rfl (Nat.le_of_ble_eq_true rfl) [.int 0, .ref (a0 + 274), .ref (a0 + 275), .ref (a0 + 276), .ref (a0 + 277), .ref (a0 + 278), .int 0, .int 0, .ref (a0 + 279), .ref (a0 + 280), .ref (a0 + 281), .ref (a0 + 282), .ref (a0 + 283), .ref (a0 + 284), .int 0, .ref (a0 + 285), .null, .null, .null, .null, .null, .null, .null, .null, .null, .null, .null, .null, .null, .long 0, .int 0, .int 0] rfl d_MD_init_99 (fun H locs hI => ?_)
  refine lv_aload_n hx hb d_MD_init_102 rfl (lv_at hl 0 rfl) ?_
  refine lv_sipush (v := (480 : Int32)) hx hb d_MD_init_103 (by decide) ?_
  refine cz_bool (hi2 := 287) C hI (by rw [upF_n (by decide), upF_n (by decide)]; exact cF_b lay_286 (by decide) (by decide)) (by decide) (by decide) (by decide) rfl (Nat.le_of_ble_eq_true rfl) (Nat.le_of_ble_eq_true rfl) d_MD_init_106 (fun H hI => ?_)
  refine cz_putT C hnm hI (by omega) i_MD rfl t_MD_ok n_MD 16 (by decide) kw_3_87 rfl rfl rfl (Nat.le_of_ble_eq_true rfl) [.int 0, .ref (a0 + 274), .ref (a0 + 275), .ref (a0 + 276), .ref (a0 + 277), .ref (a0 + 278), .int 0, .int 0, .ref (a0 + 279), .ref (a0 + 280), .ref (a0 + 281), .ref (a0 + 282), .ref (a0 + 283), .ref (a0 + 284), .int 0, .ref (a0 + 285), .ref (a0 + 286), .null, .null, .null, .null, .null, .null, .null, .null, .null, .null, .null, .null, .long 0, .int 0, .int 0] rfl d_MD_init_108 (fun H locs hI => ?_)
  refine lv_aload_n hx hb d_MD_init_111 rfl (lv_at hl 0 rfl) ?_
  refine lv_bipush (v := (12 : Int32)) hx hb d_MD_init_112 (by decide) ?_
  refine cz_int (hi2 := 288) C hI (by rw [upF_n (by decide), upF_n (by decide)]; exact cF_i lay_287 (by decide) (by decide)) (by decide) (by decide) (by decide) rfl (Nat.le_of_ble_eq_true rfl) (Nat.le_of_ble_eq_true rfl) d_MD_init_114 (fun H hI => ?_)
  refine cz_putT C hnm hI (by omega) i_MD rfl t_MD_ok n_MD 17 (by decide) kw_3_88 rfl rfl rfl (Nat.le_of_ble_eq_true rfl) [.int 0, .ref (a0 + 274), .ref (a0 + 275), .ref (a0 + 276), .ref (a0 + 277), .ref (a0 + 278), .int 0, .int 0, .ref (a0 + 279), .ref (a0 + 280), .ref (a0 + 281), .ref (a0 + 282), .ref (a0 + 283), .ref (a0 + 284), .int 0, .ref (a0 + 285), .ref (a0 + 286), .ref (a0 + 287), .null, .null, .null, .null, .null, .null, .null, .null, .null, .null, .null, .long 0, .int 0, .int 0] rfl d_MD_init_116 (fun H locs hI => ?_)
  refine lv_aload_n hx hb d_MD_init_119 rfl (lv_at hl 0 rfl) ?_
  refine lv_sipush (v := (384 : Int32)) hx hb d_MD_init_120 (by decide) ?_
  refine cz_int (hi2 := 289) C hI (by rw [upF_n (by decide), upF_n (by decide)]; exact cF_i lay_288 (by decide) (by decide)) (by decide) (by decide) (by decide) rfl (Nat.le_of_ble_eq_true rfl) (Nat.le_of_ble_eq_true rfl) d_MD_init_123 (fun H hI => ?_)
  refine cz_putT C hnm hI (by omega) i_MD rfl t_MD_ok n_MD 18 (by decide) kw_3_89 rfl rfl rfl (Nat.le_of_ble_eq_true rfl) [.int 0, .ref (a0 + 274), .ref (a0 + 275), .ref (a0 + 276), .ref (a0 + 277), .ref (a0 + 278), .int 0, .int 0, .ref (a0 + 279), .ref (a0 + 280), .ref (a0 + 281), .ref (a0 + 282), .ref (a0 + 283), .ref (a0 + 284), .int 0, .ref (a0 + 285), .ref (a0 + 286), .ref (a0 + 287), .ref (a0 + 288), .null, .null, .null, .null, .null, .null, .null, .null, .null, .null, .long 0, .int 0, .int 0] rfl d_MD_init_125 (fun H locs hI => ?_)
  refine lv_aload_n hx hb d_MD_init_128 rfl (lv_at hl 0 rfl) ?_
  refine lv_sipush (v := (384 : Int32)) hx hb d_MD_init_129 (by decide) ?_
  refine cz_int (hi2 := 290) C hI (by rw [upF_n (by decide), upF_n (by decide)]; exact cF_i lay_289 (by decide) (by decide)) (by decide) (by decide) (by decide) rfl (Nat.le_of_ble_eq_true rfl) (Nat.le_of_ble_eq_true rfl) d_MD_init_132 (fun H hI => ?_)
  refine cz_putT C hnm hI (by omega) i_MD rfl t_MD_ok n_MD 19 (by decide) kw_3_90 rfl rfl rfl (Nat.le_of_ble_eq_true rfl) [.int 0, .ref (a0 + 274), .ref (a0 + 275), .ref (a0 + 276), .ref (a0 + 277), .ref (a0 + 278), .int 0, .int 0, .ref (a0 + 279), .ref (a0 + 280), .ref (a0 + 281), .ref (a0 + 282), .ref (a0 + 283), .ref (a0 + 284), .int 0, .ref (a0 + 285), .ref (a0 + 286), .ref (a0 + 287), .ref (a0 + 288), .ref (a0 + 289), .null, .null, .null, .null, .null, .null, .null, .null, .null, .long 0, .int 0, .int 0] rfl d_MD_init_134 (fun H locs hI => ?_)
  refine lv_aload_n hx hb d_MD_init_137 rfl (lv_at hl 0 rfl) ?_
  refine lv_sipush (v := (384 : Int32)) hx hb d_MD_init_138 (by decide) ?_
  refine cz_int (hi2 := 291) C hI (by rw [upF_n (by decide), upF_n (by decide)]; exact cF_i lay_290 (by decide) (by decide)) (by decide) (by decide) (by decide) rfl (Nat.le_of_ble_eq_true rfl) (Nat.le_of_ble_eq_true rfl) d_MD_init_141 (fun H hI => ?_)
  refine cz_putT C hnm hI (by omega) i_MD rfl t_MD_ok n_MD 20 (by decide) kw_3_91 rfl rfl rfl (Nat.le_of_ble_eq_true rfl) [.int 0, .ref (a0 + 274), .ref (a0 + 275), .ref (a0 + 276), .ref (a0 + 277), .ref (a0 + 278), .int 0, .int 0, .ref (a0 + 279), .ref (a0 + 280), .ref (a0 + 281), .ref (a0 + 282), .ref (a0 + 283), .ref (a0 + 284), .int 0, .ref (a0 + 285), .ref (a0 + 286), .ref (a0 + 287), .ref (a0 + 288), .ref (a0 + 289), .ref (a0 + 290), .null, .null, .null, .null, .null, .null, .null, .null, .long 0, .int 0, .int 0] rfl d_MD_init_143 (fun H locs hI => ?_)
  refine lv_aload_n hx hb d_MD_init_146 rfl (lv_at hl 0 rfl) ?_
  refine lv_sipush (v := (384 : Int32)) hx hb d_MD_init_147 (by decide) ?_
  refine cz_int (hi2 := 292) C hI (by rw [upF_n (by decide), upF_n (by decide)]; exact cF_i lay_291 (by decide) (by decide)) (by decide) (by decide) (by decide) rfl (Nat.le_of_ble_eq_true rfl) (Nat.le_of_ble_eq_true rfl) d_MD_init_150 (fun H hI => ?_)
  refine cz_putT C hnm hI (by omega) i_MD rfl t_MD_ok n_MD 21 (by decide) kw_3_92 rfl rfl rfl (Nat.le_of_ble_eq_true rfl) [.int 0, .ref (a0 + 274), .ref (a0 + 275), .ref (a0 + 276), .ref (a0 + 277), .ref (a0 + 278), .int 0, .int 0, .ref (a0 + 279), .ref (a0 + 280), .ref (a0 + 281), .ref (a0 + 282), .ref (a0 + 283), .ref (a0 + 284), .int 0, .ref (a0 + 285), .ref (a0 + 286), .ref (a0 + 287), .ref (a0 + 288), .ref (a0 + 289), .ref (a0 + 290), .ref (a0 + 291), .null, .null, .null, .null, .null, .null, .null, .long 0, .int 0, .int 0] rfl d_MD_init_152 (fun H locs hI => ?_)
  refine lv_aload_n hx hb d_MD_init_155 rfl (lv_at hl 0 rfl) ?_
  refine lv_sipush (v := (384 : Int32)) hx hb d_MD_init_156 (by decide) ?_
  refine cz_int (hi2 := 293) C hI (by rw [upF_n (by decide), upF_n (by decide)]; exact cF_i lay_292 (by decide) (by decide)) (by decide) (by decide) (by decide) rfl (Nat.le_of_ble_eq_true rfl) (Nat.le_of_ble_eq_true rfl) d_MD_init_159 (fun H hI => ?_)
  refine cz_putT C hnm hI (by omega) i_MD rfl t_MD_ok n_MD 22 (by decide) kw_3_93 rfl rfl rfl (Nat.le_of_ble_eq_true rfl) [.int 0, .ref (a0 + 274), .ref (a0 + 275), .ref (a0 + 276), .ref (a0 + 277), .ref (a0 + 278), .int 0, .int 0, .ref (a0 + 279), .ref (a0 + 280), .ref (a0 + 281), .ref (a0 + 282), .ref (a0 + 283), .ref (a0 + 284), .int 0, .ref (a0 + 285), .ref (a0 + 286), .ref (a0 + 287), .ref (a0 + 288), .ref (a0 + 289), .ref (a0 + 290), .ref (a0 + 291), .ref (a0 + 292), .null, .null, .null, .null, .null, .null, .long 0, .int 0, .int 0] rfl d_MD_init_161 (fun H locs hI => ?_)
  refine lv_aload_n hx hb d_MD_init_164 rfl (lv_at hl 0 rfl) ?_
  refine lv_sipush (v := (384 : Int32)) hx hb d_MD_init_165 (by decide) ?_
  refine cz_int (hi2 := 294) C hI (by rw [upF_n (by decide), upF_n (by decide)]; exact cF_i lay_293 (by decide) (by decide)) (by decide) (by decide) (by decide) rfl (Nat.le_of_ble_eq_true rfl) (Nat.le_of_ble_eq_true rfl) d_MD_init_168 (fun H hI => ?_)
  refine cz_putT C hnm hI (by omega) i_MD rfl t_MD_ok n_MD 23 (by decide) kw_3_94 rfl rfl rfl (Nat.le_of_ble_eq_true rfl) [.int 0, .ref (a0 + 274), .ref (a0 + 275), .ref (a0 + 276), .ref (a0 + 277), .ref (a0 + 278), .int 0, .int 0, .ref (a0 + 279), .ref (a0 + 280), .ref (a0 + 281), .ref (a0 + 282), .ref (a0 + 283), .ref (a0 + 284), .int 0, .ref (a0 + 285), .ref (a0 + 286), .ref (a0 + 287), .ref (a0 + 288), .ref (a0 + 289), .ref (a0 + 290), .ref (a0 + 291), .ref (a0 + 292), .ref (a0 + 293), .null, .null, .null, .null, .null, .long 0, .int 0, .int 0] rfl d_MD_init_170 (fun H locs hI => ?_)
  refine lv_aload_n hx hb d_MD_init_173 rfl (lv_at hl 0 rfl) ?_
  refine lv_sipush (v := (384 : Int32)) hx hb d_MD_init_174 (by decide) ?_
  refine cz_int (hi2 := 295) C hI (by rw [upF_n (by decide), upF_n (by decide)]; exact cF_i lay_294 (by decide) (by decide)) (by decide) (by decide) (by decide) rfl (Nat.le_of_ble_eq_true rfl) (Nat.le_of_ble_eq_true rfl) d_MD_init_177 (fun H hI => ?_)
  refine cz_putT C hnm hI (by omega) i_MD rfl t_MD_ok n_MD 24 (by decide) kw_3_95 rfl rfl rfl (Nat.le_of_ble_eq_true rfl) [.int 0, .ref (a0 + 274), .ref (a0 + 275), .ref (a0 + 276), .ref (a0 + 277), .ref (a0 + 278), .int 0, .int 0, .ref (a0 + 279), .ref (a0 + 280), .ref (a0 + 281), .ref (a0 + 282), .ref (a0 + 283), .ref (a0 + 284), .int 0, .ref (a0 + 285), .ref (a0 + 286), .ref (a0 + 287), .ref (a0 + 288), .ref (a0 + 289), .ref (a0 + 290), .ref (a0 + 291), .ref (a0 + 292), .ref (a0 + 293), .ref (a0 + 294), .null, .null, .null, .null, .long 0, .int 0, .int 0] rfl d_MD_init_179 (fun H locs hI => ?_)
  refine lv_aload_n hx hb d_MD_init_182 rfl (lv_at hl 0 rfl) ?_
  refine lv_sipush (v := (384 : Int32)) hx hb d_MD_init_183 (by decide) ?_
  refine cz_long (hi2 := 296) C hI (by rw [upF_n (by decide), upF_n (by decide)]; exact cF_l lay_295) (by decide) (by decide) (by decide) rfl (Nat.le_of_ble_eq_true rfl) (Nat.le_of_ble_eq_true rfl) d_MD_init_186 (fun H hI => ?_)
  refine cz_putT C hnm hI (by omega) i_MD rfl t_MD_ok n_MD 25 (by decide) kw_3_96 rfl rfl rfl (Nat.le_of_ble_eq_true rfl) [.int 0, .ref (a0 + 274), .ref (a0 + 275), .ref (a0 + 276), .ref (a0 + 277), .ref (a0 + 278), .int 0, .int 0, .ref (a0 + 279), .ref (a0 + 280), .ref (a0 + 281), .ref (a0 + 282), .ref (a0 + 283), .ref (a0 + 284), .int 0, .ref (a0 + 285), .ref (a0 + 286), .ref (a0 + 287), .ref (a0 + 288), .ref (a0 + 289), .ref (a0 + 290), .ref (a0 + 291), .ref (a0 + 292), .ref (a0 + 293), .ref (a0 + 294), .ref (a0 + 295), .null, .null, .null, .long 0, .int 0, .int 0] rfl d_MD_init_188 (fun H locs hI => ?_)
  refine lv_aload_n hx hb d_MD_init_191 rfl (lv_at hl 0 rfl) ?_
  refine lv_sipush (v := (384 : Int32)) hx hb d_MD_init_192 (by decide) ?_
  refine cz_long (hi2 := 297) C hI (by rw [upF_n (by decide), upF_n (by decide)]; exact cF_l lay_296) (by decide) (by decide) (by decide) rfl (Nat.le_of_ble_eq_true rfl) (Nat.le_of_ble_eq_true rfl) d_MD_init_195 (fun H hI => ?_)
  refine cz_putT C hnm hI (by omega) i_MD rfl t_MD_ok n_MD 26 (by decide) kw_3_97 rfl rfl rfl (Nat.le_of_ble_eq_true rfl) [.int 0, .ref (a0 + 274), .ref (a0 + 275), .ref (a0 + 276), .ref (a0 + 277), .ref (a0 + 278), .int 0, .int 0, .ref (a0 + 279), .ref (a0 + 280), .ref (a0 + 281), .ref (a0 + 282), .ref (a0 + 283), .ref (a0 + 284), .int 0, .ref (a0 + 285), .ref (a0 + 286), .ref (a0 + 287), .ref (a0 + 288), .ref (a0 + 289), .ref (a0 + 290), .ref (a0 + 291), .ref (a0 + 292), .ref (a0 + 293), .ref (a0 + 294), .ref (a0 + 295), .ref (a0 + 296), .null, .null, .long 0, .int 0, .int 0] rfl d_MD_init_197 (fun H locs hI => ?_)
  refine lv_aload_n hx hb d_MD_init_200 rfl (lv_at hl 0 rfl) ?_
  refine lv_bipush (v := (40 : Int32)) hx hb d_MD_init_201 (by decide) ?_
  refine cz_int (hi2 := 298) C hI (by rw [upF_n (by decide), upF_n (by decide)]; exact cF_i lay_297 (by decide) (by decide)) (by decide) (by decide) (by decide) rfl (Nat.le_of_ble_eq_true rfl) (Nat.le_of_ble_eq_true rfl) d_MD_init_203 (fun H hI => ?_)
  refine cz_putT C hnm hI (by omega) i_MD rfl t_MD_ok n_MD 27 (by decide) kw_3_98 rfl rfl rfl (Nat.le_of_ble_eq_true rfl) [.int 0, .ref (a0 + 274), .ref (a0 + 275), .ref (a0 + 276), .ref (a0 + 277), .ref (a0 + 278), .int 0, .int 0, .ref (a0 + 279), .ref (a0 + 280), .ref (a0 + 281), .ref (a0 + 282), .ref (a0 + 283), .ref (a0 + 284), .int 0, .ref (a0 + 285), .ref (a0 + 286), .ref (a0 + 287), .ref (a0 + 288), .ref (a0 + 289), .ref (a0 + 290), .ref (a0 + 291), .ref (a0 + 292), .ref (a0 + 293), .ref (a0 + 294), .ref (a0 + 295), .ref (a0 + 296), .ref (a0 + 297), .null, .long 0, .int 0, .int 0] rfl d_MD_init_205 (fun H locs hI => ?_)
  refine lv_aload_n hx hb d_MD_init_208 rfl (lv_at hl 0 rfl) ?_
  refine lv_bipush (v := (32 : Int32)) hx hb d_MD_init_209 (by decide) ?_
  refine cz_long (hi2 := 299) C hI (by rw [upF_n (by decide), upF_n (by decide)]; exact cF_l lay_298) (by decide) (by decide) (by decide) rfl (Nat.le_of_ble_eq_true rfl) (Nat.le_of_ble_eq_true rfl) d_MD_init_211 (fun H hI => ?_)
  refine cz_putT C hnm hI (by omega) i_MD rfl t_MD_ok n_MD 28 (by decide) kw_3_99 rfl rfl rfl (Nat.le_of_ble_eq_true rfl) [.int 0, .ref (a0 + 274), .ref (a0 + 275), .ref (a0 + 276), .ref (a0 + 277), .ref (a0 + 278), .int 0, .int 0, .ref (a0 + 279), .ref (a0 + 280), .ref (a0 + 281), .ref (a0 + 282), .ref (a0 + 283), .ref (a0 + 284), .int 0, .ref (a0 + 285), .ref (a0 + 286), .ref (a0 + 287), .ref (a0 + 288), .ref (a0 + 289), .ref (a0 + 290), .ref (a0 + 291), .ref (a0 + 292), .ref (a0 + 293), .ref (a0 + 294), .ref (a0 + 295), .ref (a0 + 296), .ref (a0 + 297), .ref (a0 + 298), .long 0, .int 0, .int 0] rfl d_MD_init_213 (fun H locs hI => ?_)
  have hI := cI_id hI (by rw [upF_n (by decide)]; exact cF_o lay_273)
  refine lv_aload_n hx hb d_MD_init_216 rfl (lv_at hl 0 rfl) ?_
  refine cz_get (v := .ref (a0 + 278)) C hI (k0 := 273) (by omega) (by omega) (by rw [upF_n (by decide)]; exact cF_o lay_273) i_MD rfl 5 (by decide) kw_3_76 rfl d_MD_init_217 ?_
  refine lv_iconst (v := (0 : Int32)) hx hb d_MD_init_220 (by decide) ?_
  refine lv_iconst (v := (3 : Int32)) hx hb d_MD_init_221 (by decide) ?_
  refine cz_iast (k0 := 278) (j := 0) C hI (by omega) (by omega) upF_s (by decide) (vi_lit _ _ (by decide)) d_MD_init_222 (fun H locs hI => ?_)
  rw [upF_up] at hI
  refine lv_aload_n hx hb d_MD_init_223 rfl (lv_at hl 0 rfl) ?_
  refine cz_get (v := .ref (a0 + 278)) C hI (k0 := 273) (by omega) (by omega) (by rw [upF_n (by decide)]; exact cF_o lay_273) i_MD rfl 5 (by decide) kw_3_76 rfl d_MD_init_224 ?_
  refine lv_iconst (v := (1 : Int32)) hx hb d_MD_init_227 (by decide) ?_
  refine lv_iconst (v := (1 : Int32)) hx hb d_MD_init_228 (by decide) ?_
  refine cz_iast (k0 := 278) (j := 1) C hI (by omega) (by omega) upF_s (by decide) (vi_lit _ _ (by decide)) d_MD_init_229 (fun H locs hI => ?_)
  rw [upF_up] at hI
  refine lv_aload_n hx hb d_MD_init_230 rfl (lv_at hl 0 rfl) ?_
  refine cz_get (v := .ref (a0 + 278)) C hI (k0 := 273) (by omega) (by omega) (by rw [upF_n (by decide)]; exact cF_o lay_273) i_MD rfl 5 (by decide) kw_3_76 rfl d_MD_init_231 ?_
  refine lv_iconst (v := (2 : Int32)) hx hb d_MD_init_234 (by decide) ?_
  refine lv_iconst (v := (1 : Int32)) hx hb d_MD_init_235 (by decide) ?_
  refine cz_iast (k0 := 278) (j := 2) C hI (by omega) (by omega) upF_s (by decide) (vi_lit _ _ (by decide)) d_MD_init_236 (fun H locs hI => ?_)
  rw [upF_up] at hI
  refine lv_aload_n hx hb d_MD_init_237 rfl (lv_at hl 0 rfl) ?_
  refine cz_get (v := .ref (a0 + 278)) C hI (k0 := 273) (by omega) (by omega) (by rw [upF_n (by decide)]; exact cF_o lay_273) i_MD rfl 5 (by decide) kw_3_76 rfl d_MD_init_238 ?_
  refine lv_iconst (v := (3 : Int32)) hx hb d_MD_init_241 (by decide) ?_
  refine lv_sipush (v := (256 : Int32)) hx hb d_MD_init_242 (by decide) ?_
  refine cz_iast (k0 := 278) (j := 3) C hI (by omega) (by omega) upF_s (by decide) (vi_lit _ _ (by decide)) d_MD_init_245 (fun H locs hI => ?_)
  rw [upF_up] at hI
  refine lv_aload_n hx hb d_MD_init_246 rfl (lv_at hl 0 rfl) ?_
  refine cz_get (v := .ref (a0 + 278)) C hI (k0 := 273) (by omega) (by omega) (by rw [upF_n (by decide)]; exact cF_o lay_273) i_MD rfl 5 (by decide) kw_3_76 rfl d_MD_init_247 ?_
  refine lv_iconst (v := (4 : Int32)) hx hb d_MD_init_250 (by decide) ?_
  refine lv_iconst (v := (4 : Int32)) hx hb d_MD_init_251 (by decide) ?_
  refine cz_iast (k0 := 278) (j := 4) C hI (by omega) (by omega) upF_s (by decide) (vi_lit _ _ (by decide)) d_MD_init_252 (fun H locs hI => ?_)
  rw [upF_up] at hI
  refine lv_aload_n hx hb d_MD_init_253 rfl (lv_at hl 0 rfl) ?_
  refine cz_get (v := .ref (a0 + 278)) C hI (k0 := 273) (by omega) (by omega) (by rw [upF_n (by decide)]; exact cF_o lay_273) i_MD rfl 5 (by decide) kw_3_76 rfl d_MD_init_254 ?_
  refine lv_bipush (v := (6 : Int32)) hx hb d_MD_init_257 (by decide) ?_
  refine lv_sipush (v := (256 : Int32)) hx hb d_MD_init_259 (by decide) ?_
  refine cz_iast (k0 := 278) (j := 6) C hI (by omega) (by omega) upF_s (by decide) (vi_lit _ _ (by decide)) d_MD_init_262 (fun H locs hI => ?_)
  rw [upF_up] at hI
  refine lv_aload_n hx hb d_MD_init_263 rfl (lv_at hl 0 rfl) ?_
  refine cz_get (v := .ref (a0 + 278)) C hI (k0 := 273) (by omega) (by omega) (by rw [upF_n (by decide)]; exact cF_o lay_273) i_MD rfl 5 (by decide) kw_3_76 rfl d_MD_init_264 ?_
  refine lv_bipush (v := (7 : Int32)) hx hb d_MD_init_267 (by decide) ?_
  refine lv_sipush (v := (256 : Int32)) hx hb d_MD_init_269 (by decide) ?_
  refine cz_iast (k0 := 278) (j := 7) C hI (by omega) (by omega) upF_s (by decide) (vi_lit _ _ (by decide)) d_MD_init_272 (fun H locs hI => ?_)
  rw [upF_up] at hI
  have hI := cI_id hI e_first.symm
  exact cz_ret C hr hlk hI (Nat.le_of_ble_eq_true rfl) (Nat.le_of_ble_eq_true rfl) d_MD_init_273
end
section
theorem start_K {s : State} {args : Array Value} (hts : ∀ w ∈ lw_tbl, w.before args s = true) : ∃ (D : va_G) (cy : Nat → ClassId), va_K D vCl (gT cy) s := by
  have hg : ∀ w ∈ gw_tbl, w.before args s = true := fun w h => hts w (gw_in w h)
  obtain ⟨c0, i0, k0⟩ := u_known hg i_BF (hg _ kw_1_13)
  obtain ⟨c1, i1, k1⟩ := u_known hg i_TB (hg _ kw_1_21)
  obtain ⟨c2, i2, k2⟩ := u_known hg i_TG (hg _ kw_1_68)
  obtain ⟨c3, i3, k3⟩ := u_known hg i_GR (hg _ kw_1_74)
  obtain ⟨c4, i4, k4⟩ := u_known hg i_SM (hg _ kw_1_83)
  obtain ⟨c5, i5, k5⟩ := u_known hg i_SP (hg _ kw_1_104)
  obtain ⟨c6, i6, k6⟩ := u_known hg i_TR (hg _ kw_1_171)
  obtain ⟨c7, i7, k7⟩ := u_known hg i_MD (hg _ kw_3_66)
  obtain ⟨a0, q0, m0, x0, y0, z0⟩ := Cond.arrayClass_spec (hg _ kw_1_56)
  obtain ⟨a1, q1, m1, x1, y1, z1⟩ := Cond.arrayClass_spec (hg _ kw_1_102)
  obtain ⟨a2, q2, m2, x2, y2, z2⟩ := Cond.arrayClass_spec (hg _ kw_1_57)
  obtain ⟨m3, a3, q3, u3, -, y3, z3, x3⟩ := Cond.arrayOver_spec (hts _ kl_1_168)
  obtain ⟨m4, a4, q4, u4, -, y4, z4, x4⟩ := arrayOverA_spec (hts _ kl_1_27)
  obtain ⟨m5, a5, q5, u5, -, y5, z5, x5⟩ := arrayOverA_spec (hts _ kl_1_170)
  refine ⟨(fun c => match c with | 0 => c0 | 1 => c1 | 2 => c2 | 3 => c3 | 4 => c4 | 5 => c5 | 6 => c6 | _ => c7, fun c => match c with | 0 => i0 | 1 => i1 | 2 => i2 | 3 => i3 | 4 => i4 | 5 => i5 | 6 => i6 | _ => i7), fun t => match t with | 0 => a0 | 1 => a1 | 2 => a2 | 3 => a3 | 4 => a4 | _ => a5, ⟨fun c q hc => ?_, fun k q hk => ?_⟩⟩
  · match c, hc with
    | 0, hc => cases hc; exact k0
    | 1, hc => cases hc; exact k1
    | 2, hc => cases hc; exact k2
    | 3, hc => cases hc; exact k3
    | 4, hc => cases hc; exact k4
    | 5, hc => cases hc; exact k5
    | 6, hc => cases hc; exact k6
    | 7, hc => cases hc; exact k7
    | c + 8, hc => exact absurd hc (by simp [vCl])
  · match k, hk with
    | 0, hk => cases hk; exact ⟨fun n z => ⟨(fun k h => by cases h), q0, y0, m0, z0⟩, x0⟩
    | 1, hk => cases hk; exact ⟨fun n z => ⟨(fun k h => by cases h), q1, y1, m1, z1⟩, x1⟩
    | 2, hk => cases hk; exact ⟨fun n z => ⟨(fun k h => by cases h), q2, y2, m2, z2⟩, x2⟩
    | 3, hk => cases hk; exact ⟨fun n z => ⟨(fun k h => by cases h), q3, y3, m3, z3⟩, ⟨q3, m3, y3, z3, u3, x3⟩⟩
    | 4, hk => cases hk; exact ⟨fun n z => ⟨(fun k h => by cases h), q4, y4, m4, z4⟩, x4⟩
    | 5, hk => cases hk; exact ⟨fun n z => ⟨(fun k h => by cases h), q5, y5, m5, z5⟩, x5⟩
    | k + 6, hk => exact absurd hk (by simp [gT])
end
section
def kcode : ByteArray := ⟨#[0x10, 0x74, 0x10, 0x10, 0x78, 0xbc, 0x0a, 0xb0]⟩
def y_K : MethodName := ⟨"[K", "clone", "()Ljava/lang/Object;"⟩
abbrev x_K : MethodName := ⟨"[I", "clone", "()Ljava/lang/Object;"⟩
theorem dK_0 : decode kcode 0 = .ok (.bipush 116, 2) := by decide +kernel
theorem dK_2 : decode kcode 2 = .ok (.bipush 16, 2) := by decide +kernel
theorem dK_4 : decode kcode 4 = .ok (.ishl, 1) := by decide +kernel
theorem dK_5 : decode kcode 5 = .ok (.newarray .int, 2) := by decide +kernel
theorem dK_7 : decode kcode 7 = .ok (.areturn, 1) := by decide +kernel
def rz_K : Room := { frames := 0, cells := 1, slots := 7602176, locals := 0 }
def eK (cy : Nat → ClassId) : va_E := .inl (cy 0, 7602176, .inl (fun _ => 0))
def FB (cy : Nat → ClassId) (a0 : Nat) : Nat → va_E := upF (cF cy a0) 46 (eK cy)
theorem FB_46 {cy : Nat → ClassId} {a0 : Nat} : FB cy a0 46 = eK cy := upF_s
def rz_BB : Room := { frames := 4, cells := 272, slots := 7000 + 7602176, locals := 73 }
def rz_LB : Room := { frames := 9, cells := 600000, slots := 20000 + 7602176, locals := 346 }
theorem vp_size_i (c : ClassId) (n : Nat) (f : Nat → Int32) : (vp_cell c (n, .inl f)).slots.size = n := arrV_size _ _ _
set_option maxHeartbeats 4000000 in
set_option maxRecDepth 100000 in
theorem c_K {l : Launch} {D : va_G} {cy : Nat → ClassId} {a0 ta : Nat} : Met l y_K (Cond.code y_K kcode 1 (some (.object "java/lang/Object")) :: gw_tbl) rz_K (va_Pc [.ref ta] (fun U => U.heap.size = a0 + 46 ∧ va_K D vCl (gT cy) U ∧ cE U)) (va_Qr (fun _ : Unit => True) (fun _ a t => a = a0 + 46 ∧ t.heap.size = a0 + 47 ∧ va_at D vCl (a0 + 46, FB cy a0 46) t.heap) (fun q => a0 + 46 ≤ q)) 1 7602176 (fun q => a0 + 46 ≤ q) := by
  refine Met.ofW (cc := kcode) (maxL := 1) (ret := (some (.object "java/lang/Object"))) (by decide +kernel) rfl ?_
  intro p e s m args below meth c s₁ B hml hv
  obtain ⟨rfl, hsz, hK, hE⟩ := hv
  have hts := atoms_spec (ws := Cond.code y_K kcode 1 (some (.object "java/lang/Object")) :: gw_tbl) B.pre
  have hlk := B.notSynchronized
  have C : Cz p s m ([.ref ta] : List Value).toArray c kcode 1 "[K" D cy := ⟨B.exec, B.bytes, hml, findClass_of_methodNamed B.named, fun w hw => hts w (List.mem_cons_of_mem _ hw), hK, hE⟩
  obtain ⟨hx, hb, -, hown, hts, hK, hE9⟩ := id C
  rw [lg_entry_eq]
  generalize (lg_sl ([.ref ta]) ++ List.replicate (1 - (lg_sl ([.ref ta])).length) Slot.unset).toArray = ls
  have hI : cI D a0 s (FB cy a0) 46 46 s.heap [] := ⟨hsz, fun k h1 h2 => absurd h2 (by omega), va_S.rf⟩
  refine lv_bipush (v := (116 : Int32)) hx hb dK_0 (by decide) ?_
  refine lv_bipush (v := (16 : Int32)) hx hb dK_2 (by decide) ?_
  refine lv_ishl hx hb dK_4 ?_
  refine cz_int (hi2 := 47) (N' := 7602176) C hI FB_46 (by decide +kernel) (by decide +kernel) (by decide +kernel) rfl (Nat.le_of_ble_eq_true rfl) (Nat.le_of_ble_eq_true rfl) dK_5 (fun H hI => ?_)
  exact W.aret (hlocks := hlk) hx hb B.returns (Or.inl ⟨_, rfl⟩) (Or.inr ⟨_, rfl⟩) (fun t ht hW => ⟨⟨(), a0 + 46, rfl, trivial, rfl, by rw [ht]; exact hI.1, by rw [ht]; exact hI.2.1 46 (Nat.le_refl _) (by omega)⟩, hI.2.2.F ht⟩) hI.2.2.2.2 dK_7
def cBK (cy : Nat → ClassId) (a0 ta : Nat) (U : State) : Prop := va_Z "BoostForests" "AT_FIRST" "[I" (.ref ta) (fun q => a0 ≤ q) U U.heap ∧ (∃ cell : Cell, U.heap[ta]? = some cell ∧ cell.vm.isStatics = false ∧ U.vm.findClass "[K" = some cell.cls) ∧ ta < a0 ∧ va_Nw (.sameMethod "[I" "java/lang/Object" "clone" "()Ljava/lang/Object;") U ∧ va_Nw (.selects "[K" x_K y_K) U ∧ va_Nw (.instanceMethod y_K) U ∧ va_Nw (.initialized "[K") U ∧ va_Nw (.code y_K kcode 1 (some (.object "java/lang/Object"))) U
theorem cBK_call {cy : Nat → ClassId} {a0 ta : Nat} {U : State} {g : JFrame} {mk : MethodId} {a : Array Value} (h : cBK cy a0 ta U) : cBK cy a0 ta (U.calling g mk a) := ⟨va_Z.moved (u := U) (U := U.calling g mk a) (Vm.Alike.refl U.vm) h.1, h.2.1, h.2.2.1, h.2.2.2.1, va_Nw.same rfl rfl h.2.2.2.2.1, va_Nw.same rfl rfl h.2.2.2.2.2.1, va_Nw.same rfl rfl h.2.2.2.2.2.2.1, va_Nw.same rfl rfl h.2.2.2.2.2.2.2⟩
theorem cBK_warm {cy : Nat → ClassId} {a0 ta : Nat} {s U : State} (hW : s.WarmedH U.vm) (hk : ∀ q : Nat, q < s.heap.size → ¬ a0 ≤ q → U.heap[q]? = s.heap[q]?) (h : cBK cy a0 ta s) : cBK cy a0 ta U := by
  obtain ⟨h1, ⟨cell, g1, g2, g3⟩, h3, h4, h5, h6, h7, h8⟩ := h
  exact ⟨va_Z.moved hW.alike (va_Z.kept h1 hk), ⟨cell, (hk ta (Array.getElem?_eq_some_iff.mp g1).1 (by omega)).trans g1, g2, by rw [hW.alike.findClass]; exact g3⟩, h3, Cond.sameMethod_setVm (args := #[]) hW.alike (by decide) h4, word_at hW (Or.inl rfl) h5, word_at hW (Or.inl rfl) h6, word_at hW (Or.inl rfl) h7, word_at hW (Or.inl rfl) h8⟩
theorem decl_clone {args : Array Value} {s : State} (hi : (Cond.instanceMethod ⟨"java/lang/Object", "clone", "()Ljava/lang/Object;"⟩).before args s = true) (hn : (Cond.native ⟨"java/lang/Object", "clone", "()Ljava/lang/Object;"⟩).before args s = true) : va_Decl s ⟨"java/lang/Object", "clone", "()Ljava/lang/Object;"⟩ := by
  obtain ⟨r0, r, h1, h2, h3, -⟩ := Cond.instanceMethod_spec hi
  refine ⟨r0, r, h1, h2, h3, ?_⟩
  simp [Cond.before, Cond.holds, Cond.value, h1, h2] at hn
  exact hn.2
set_option maxHeartbeats 4000000 in
set_option maxRecDepth 100000 in
theorem c_BF_odd {l : Launch} {D : va_G} {cy : Nat → ClassId} {a0 : Nat} {ta : Nat} : CI l y_BF_init b_BF_init 1 rz_BB D cy a0 (FB cy a0) (cBK cy a0 ta) (.inr (0, e_BF)) 0 273 := by
  refine cz_met (by decide +kernel) rfl (Nat.le_of_ble_eq_true rfl) (fun p e s m args below meth c ls C hr hlk hnm hE hl hI => ?_)
  obtain ⟨hx, hb, hml, hown, hts, hK, hE9⟩ := id C
  refine lv_aload_n hx hb d_BF_init_0 rfl (lv_at hl 0 rfl) ?_
  refine cz_obj C hl.1 kw_1_17 (Nat.le_of_ble_eq_true rfl) (Nat.le_of_ble_eq_true rfl) d_BF_init_1 ?_
  refine lv_aload_n hx hb d_BF_init_4 rfl (lv_at hl 0 rfl) ?_
  refine cz_new (ci := 1) (hi2 := 2) C hI i_TB rfl t_TB_ok kw_1_20 kw_1_21 kw_1_2 e_TB h_TB rfl (Nat.le_of_ble_eq_true rfl) (Nat.le_of_ble_eq_true rfl) d_BF_init_5 (fun H hI => ?_)
  refine lv_dup hx hb d_BF_init_8 rfl ?_
  refine cz_call (hi := 1) (hi2 := 46) C (c_TB_init isTB_1 (fun o ho => by omega)) hI (by omega) hl.1 kw_1_24 kw_1_2 kw_1_23 rfl (by decide +kernel) ⟨(Nat.le_of_ble_eq_true rfl), (Nat.le_of_ble_eq_true rfl)⟩ (Or.inl hE9.1) (fun _ _ _ _ h => h) (fun _ _ _ => trivial) (fun k h1 h2 => by rw [upF_n (by omega)]; exact upF_n (by omega)) (Nat.le_of_ble_eq_true rfl) (Nat.le_of_ble_eq_true rfl) (Nat.le_of_ble_eq_true rfl) d_BF_init_9 (fun H locs hI => ?_)
  refine cz_putT C hnm hI (by omega) i_BF rfl t_BF_ok n_BF 0 (by decide) kw_1_232 rfl rfl rfl (Nat.le_of_ble_eq_true rfl) [.ref (a0 + 1), .null, .null, .null] rfl d_BF_init_12 (fun H locs hI => ?_)
  refine lv_aload_n hx hb d_BF_init_15 rfl (lv_at hl 0 rfl) ?_
  refine va_gets hx hb hE.1 hI.2.2 hown (hts _ kw_1_58) (fun _ h => h) d_BF_init_16 ?_
  obtain ⟨z1, ⟨cell, z2, z3, z4⟩, z5, z6, z7, z8, z9, z10⟩ := id hE
  have hta : H[ta]? = some cell := (hI.2.2.2.1 _ (Array.getElem?_eq_some_iff.mp z2).1 (by omega)).trans z2
  have hwarm : ∀ w ∈ Cond.code y_K kcode 1 (some (.object "java/lang/Object")) :: gw_tbl, ∀ (a9 : Array Value) (U : State), s.WarmedH U.vm → w.before a9 U = true := by
    intro w hw a9 U hW
    rcases List.mem_cons.mp hw with h | h
    · rw [h]; exact word_at hW (Or.inl rfl) z10
    · exact pay_in hts (gGood kw_1_16) w (List.mem_cons_of_mem _ h) a9 U hW
  have hrun := va_runU (l := l) (e := e) (R := rz_BB) (meth := meth) (below := below) (locs := locs) (cells := 0 + 1 + rz_TB.cells) (slots := 0 + 5 + rz_TB.slots) (x := x_K) (y := y_K) (bytes := kcode) (maxL := 1) (ret := (some (.object "java/lang/Object"))) (n := 0) (index := 20) (owner := "java/lang/Object") (C := "[K") (b := ta) (As := []) (rest := [.ref (a0 + 0)]) (Ts := gw_tbl) (g := F0 m (16 + 3) ls [.ref ta, .ref (a0 + 0)]) ⟨hx, hb, hml, hown, hts⟩ (c_K (l := l) (D := D) (cy := cy) (a0 := a0) (ta := ta))
    ⟨⟨rfl, rfl, (Nat.le_of_ble_eq_true rfl), (Nat.le_of_ble_eq_true rfl), hwarm, List.mem_cons_self⟩, va_Nw.use rfl z10, va_Nw.use rfl z9, ⟨by decide, by decide⟩, fun sig h => (by have h2 : (parseMethodDescriptor "()Ljava/lang/Object;").map (fun d => d.parameters.length) = some 0 := (by decide +kernel); rw [h] at h2; exact (Option.some.inj h2).symm), hts _ kw_1_60, z6, decl_clone (hts _ kw_1_63) (hts _ kw_1_62), va_Nw.use rfl z7, va_Nw.use rfl z8⟩
    ⟨fun a U g mk q => ⟨q.1, q.2.1, va_K.moved (u := U) (U := U.calling g mk a) (Vm.Alike.refl U.vm) q.2.2.1, cE_call q.2.2.2⟩, ⟨cell, hta, z3, z4⟩, fun U hU hW => ⟨rfl, by rw [hU]; exact hI.1, va_K.moved hW.alike hK, cE_warm hW hE9⟩⟩ rfl rfl hl.1 rfl (lv_room (Nat.le_of_ble_eq_true rfl)) d_BF_init_19 ⟨(Nat.le_of_ble_eq_true rfl), (Nat.le_of_ble_eq_true rfl)⟩
  refine va_callr hrun hI.2.2 (fun q _ h => by show a0 + 0 ≤ q; have h : a0 + 46 ≤ q := h; omega) (fun q h => by show a0 + 0 ≤ q; have h : a0 + 46 ≤ q := h; omega) (fun u ra t H1 locs1 ht hvm _ hB hz hk hS => ?_)
  obtain ⟨rfl, b1, b2⟩ := hB
  rw [ht] at b1 b2
  have hI : cI D a0 s (upF (FB cy a0) 0 (.inr (0, [.ref (a0 + 1), .null, .null, .null]))) 0 47 H1 locs1 := by
    refine ⟨b1, fun k g0 g1 => ?_, hS⟩
    by_cases hk6 : k = 46
    · subst hk6; rw [upF_n (by decide)]; exact b2
    · exact (hI.2.1 k g0 (by omega)).kept (hk _ (by rw [hI.1]; show a0 + k < _; omega) (by show ¬ a0 + 46 ≤ a0 + k; omega))
  refine va_castA (cA := cy 0) (x := (7602176, .inl (fun _ => 0))) (nm := "[I") hx hb hown (hts _ kw_1_66) (cz_one (k0 := 46) hI (by omega) (by omega) (by rw [upF_n (by decide)]; exact FB_46)) 0 rfl (va_nm_int (hK.2 0 _ rfl).2) d_BF_init_22 ?_
  refine cz_putT C hnm hI (by omega) i_BF rfl t_BF_ok n_BF 1 (by decide) kw_1_233 rfl rfl rfl (Nat.le_of_ble_eq_true rfl) [.ref (a0 + 1), .ref (a0 + 46), .null, .null] rfl d_BF_init_25 (fun H locs hI => ?_)
  refine lv_aload_n hx hb d_BF_init_28 rfl (lv_at hl 0 rfl) ?_
  refine cz_new (ci := 2) (hi2 := 48) C hI i_TG rfl t_TG_ok kw_1_67 kw_1_68 kw_1_3 e_TG h_TG rfl (Nat.le_of_ble_eq_true rfl) (Nat.le_of_ble_eq_true rfl) d_BF_init_29 (fun H hI => ?_)
  refine lv_dup hx hb d_BF_init_32 rfl ?_
  refine cz_call (hi := 47) (hi2 := 272) C c_TG_init hI (by omega) hl.1 kw_1_71 kw_1_3 kw_1_70 rfl (by decide +kernel) ⟨(Nat.le_of_ble_eq_true rfl), (Nat.le_of_ble_eq_true rfl)⟩ (Or.inr kw_1_69) (fun _ _ _ _ h => h) (fun _ _ _ => trivial) (fun k h1 h2 => by rw [upF_n (by omega)]; exact upF_n (by omega)) (Nat.le_of_ble_eq_true rfl) (Nat.le_of_ble_eq_true rfl) (Nat.le_of_ble_eq_true rfl) d_BF_init_33 (fun H locs hI => ?_)
  refine cz_putT C hnm hI (by omega) i_BF rfl t_BF_ok n_BF 2 (by decide) kw_1_234 rfl rfl rfl (Nat.le_of_ble_eq_true rfl) [.ref (a0 + 1), .ref (a0 + 46), .ref (a0 + 47), .null] rfl d_BF_init_36 (fun H locs hI => ?_)
  refine lv_aload_n hx hb d_BF_init_39 rfl (lv_at hl 0 rfl) ?_
  refine lv_iconst (v := (4 : Int32)) hx hb d_BF_init_40 (by decide) ?_
  refine cz_int (hi2 := 273) C hI (by rw [upF_n (by decide)]; show upF _ _ _ _ = _; rw [upF_n (by decide)]; exact cF_i lay_272 (by decide) (by decide)) (by decide) (by decide) (by decide) rfl (Nat.le_of_ble_eq_true rfl) (Nat.le_of_ble_eq_true rfl) d_BF_init_41 (fun H hI => ?_)
  refine cz_putT C hnm hI (by omega) i_BF rfl t_BF_ok n_BF 3 (by decide) kw_1_235 rfl rfl rfl (Nat.le_of_ble_eq_true rfl) [.ref (a0 + 1), .ref (a0 + 46), .ref (a0 + 47), .ref (a0 + 272)] rfl d_BF_init_43 (fun H locs hI => ?_)
  have hI := cI_id hI (by show upF _ _ _ _ = _; rw [upF_n (by decide)]; exact cF_o lay_0)
  exact cz_ret C hr hlk hI (Nat.le_of_ble_eq_true rfl) (Nat.le_of_ble_eq_true rfl) d_BF_init_46
def oddIs (args : Array Value) (s : State) : Prop := ∃ ta : Nat, (Term.static "BoostForests" "AT_FIRST" "[I").eval args s none [] s = some (.ref ta) ∧ (∃ cell : Cell, s.heap[ta]? = some cell ∧ cell.vm.isStatics = false ∧ s.vm.findClass "[K" = some cell.cls) ∧ va_Nw (.selects "[K" x_K y_K) s ∧ va_Nw (.instanceMethod y_K) s ∧ va_Nw (.initialized "[K") s ∧ va_Nw (.code y_K kcode 1 (some (.object "java/lang/Object"))) s
def bigEnd (below : List Frame) (s : State) : State → Prop := fun t => ∃ oc : Outcome, t.status = .running ∧ Ended t below oc ∧ ∃ k9 : Cell, t.heap[s.heap.size + 46]? = some k9 ∧ k9.slots.size = 7602176
theorem big_ret {p : Program} {l : Launch} {e : Env} {R : Room} {s : State} {m : MethodId} {below : List Frame} {meth : Method} {c : Code} {b : Nat} (hx : p.tables.exec = Jvm.exec) (hb : c.code = code) (hr : meth.sig.returnType = ret) (hlocks : meth.locks = false) {pc cells slots : Nat} {H : Heap} {locs : List Loc} {ls : Array Slot} (hdg : decode code pc = .ok (.ireturn, 1)) (hH : ∃ k9 : Cell, H[s.heap.size + 46]? = some k9 ∧ k9.slots.size = 7602176) : W p l e R s m #[Value.ref b] below meth c H locs cells slots (bigEnd below s) (F0 m pc ls [.int 1]) := by
  intro T hT X
  obtain ⟨fs, hret, hrun, hended, hW, hframe⟩ := X.leave (v := some (.int 1)) (hlocks := hlocks) (fun h => by rw [hr] at h; cases h)
  have hmeth' : T.vm.method? m = some meth := X.method'
  refine ⟨T.setFrames fs, ?_, .returned (some (.int 1)), hrun, hended, by show ∃ k9 : Cell, T.heap[s.heap.size + 46]? = some k9 ∧ _; rw [hT]; exact hH⟩
  jvm_step X.here [X.here.top, hx, hb, hdg, hmeth', hr, ret, narrow_b1]
  (try refine ⟨rfl, ?_⟩); (try refine ⟨rfl, ?_⟩)
  first | (intro acts; rw [hret _ acts rfl rfl rfl]) | rw [hret _ _ rfl rfl rfl]
  exact Steps.refl _
set_option maxHeartbeats 4000000 in
set_option maxRecDepth 100000 in
theorem odd_law {p : Program} {e : Env} {s : State} {m : MethodId} {below : List Frame} {meth : Method} {c : Code} (l : Launch) {b : Nat} {xs : Nat → Int32} (C0 : lw_At p s m meth c b 0 xs) (hF : oddIs #[Value.ref b] s) : W p l e rz_LB s m #[Value.ref b] below meth c s.heap [] 0 0 (bigEnd below s) (entryFrame m ([Value.ref b] : List Value).toArray 4) := by
  obtain ⟨hx, hb, hr, hml, hown, hlw, hX, hbl, hlk, hgv⟩ := C0
  obtain ⟨D, cy, hK⟩ := start_K hlw
  have hts : ∀ w ∈ gw_tbl, w.before #[Value.ref b] s = true := fun w h => hlw w (gw_in w h)
  have hE : cE s := ⟨va_Nw.of rfl (hlw _ kl_1_22), va_Nw.of rfl (hlw _ kl_1_75), va_Nw.of rfl (hlw _ kl_1_80), va_Nw.of rfl (hlw _ kl_1_84), va_Nw.of rfl (hlw _ kl_1_105), va_Nw.of rfl (hlw _ kl_1_172), va_AO.of (hlw _ kl_1_168), cAA.of (hlw _ kl_1_27), cAA.of (hlw _ kl_1_170)⟩
  have C : Cz p s m #[Value.ref b] c code 4 "BoostForestsLaw" D cy := ⟨hx, hb, hml, hown, hts, hK, hE⟩
  generalize ha0 : s.heap.size = a0
  obtain ⟨ta, g1, ⟨cell, g2, g3, g4⟩, g5, g6, g7, g8⟩ := hF
  have hta : ta < a0 := by rw [← ha0]; exact (Array.getElem?_eq_some_iff.mp g2).1
  have hB : cBK cy a0 ta s := ⟨va_Zof (hlw _ kl_1_59) (hts _ kw_1_1) g1 (fun a h => by omega), ⟨cell, g2, g3, g4⟩, hta, hlw _ kl_1_61, g5, g6, g7, g8⟩
  have hl := lv_entry ([.ref b]) (n := 4) (Nat.le_of_ble_eq_true rfl)
  rw [lg_entry_eq]
  generalize (lg_sl ([.ref b]) ++ List.replicate (4 - (lg_sl ([.ref b])).length) Slot.unset).toArray = ls at hl ⊢
  have hl : lv_has ls 4 [(0, .ref b)] := hl
  have hI : cI D a0 s (FB cy a0) 0 0 s.heap [] := ⟨ha0, fun k h1 h2 => absurd h2 (Nat.not_lt_zero k), va_S.rf⟩
  refine cz_new (ci := 0) (hi2 := 1) C hI i_BF rfl t_BF_ok kw_1_12 kw_1_13 kw_1_1 e_BF h_BF rfl (Nat.le_of_ble_eq_true rfl) (Nat.le_of_ble_eq_true rfl) d_LW_law_0 (fun H hI => ?_)
  refine lv_dup hx hb d_LW_law_3 rfl ?_
  refine cz_call (hi := 0) (hi2 := 273) C (c_BF_odd (ta := ta)) hI (Nat.le_refl 0) hl.1 kw_1_16 kw_1_1 kw_1_15 rfl (by decide +kernel) ⟨(Nat.le_of_ble_eq_true rfl), (Nat.le_of_ble_eq_true rfl)⟩ (Or.inr kw_1_14) (fun _ _ _ _ h => cBK_call h) (fun U hU hW => cBK_warm hW (fun q q1 q2 => by rw [hU]; exact hI.2.2.2.1 q q1 q2) hB) (fun _ _ _ => rfl) (Nat.le_of_ble_eq_true rfl) (Nat.le_of_ble_eq_true rfl) (Nat.le_of_ble_eq_true rfl) d_LW_law_4 (fun H locs hI => ?_)
  refine lv_astore_n hx hb d_LW_law_7 rfl hl (by decide) rfl (fun ls hl => ?_)
  refine cz_new (ci := 7) (hi2 := 274) C hI i_MD rfl t_MD_ok kw_3_65 kw_3_66 kw_1_8 e_MD h_MD rfl (Nat.le_of_ble_eq_true rfl) (Nat.le_of_ble_eq_true rfl) d_LW_law_8 (fun H hI => ?_)
  refine lv_dup hx hb d_LW_law_11 rfl ?_
  refine cz_call (hi := 273) (hi2 := 299) C c_MD_init hI (Nat.zero_le _) hl.1 kw_3_69 kw_1_8 kw_3_68 rfl (by decide +kernel) ⟨(Nat.le_of_ble_eq_true rfl), (Nat.le_of_ble_eq_true rfl)⟩ (Or.inr kw_3_67) (fun _ _ _ _ h => h) (fun _ _ _ => trivial) (fun k h1 h2 => upF_n (by omega)) (Nat.le_of_ble_eq_true rfl) (Nat.le_of_ble_eq_true rfl) (Nat.le_of_ble_eq_true rfl) d_LW_law_12 (fun H locs hI => ?_)
  refine lv_astore_n hx hb d_LW_law_15 rfl hl (by decide) rfl (fun ls hl => ?_)
  refine lv_iconst (v := (0 : Int32)) hx hb d_LW_law_16 (by decide) ?_
  refine lv_istore_n hx hb d_LW_law_17 rfl hl (by decide) rfl (fun ls hl => ?_)
  have hl := lv_sub hl [3, 2, 1, 0] rfl
  refine lv_iload_n hx hb d_LW_law_18 rfl (lv_at hl 3 rfl) ?_
  refine lv_aload_n hx hb d_LW_law_19 rfl (lv_at hl 0 rfl) ?_
  refine va_slen hx hb hX hbl (A := fun q => a0 + 0 ≤ q) (by show ¬ a0 + 0 ≤ b; omega) hI.2.2 d_LW_law_20 ?_
  refine lv_bipush (v := (7 : Int32)) hx hb d_LW_law_21 (by decide) ?_
  refine lv_isub hx hb d_LW_law_23 ?_
  refine lv_icmp_gt (tgt := 793) hx hb d_LW_law_24 (by decide) (fun _ => ?_) (fun h => absurd (by decide +kernel) h)
  refine lv_iconst (v := (1 : Int32)) hx hb d_LW_law_793 (by decide) ?_
  refine big_ret hx hb hr hlk d_LW_law_794 ?_
  have h46 := hI.2.1 46 (by omega) (by omega)
  rw [FB_46] at h46
  have h46 : H[a0 + 46]? = some (vp_cell (cy 0) (7602176, .inl (fun _ => 0))) := h46
  rw [ha0]
  exact ⟨_, h46, vp_size_i _ _ _⟩
end
section
def cK : Class := { start1.cArr "[K" 14 .int with interfaces := #[13], methods := #[Lib.HandJ.method "clone" "()Ljava/lang/Object;" [] (some (.object "java/lang/Object")) 0x1 1 kcode] }
def about3 : State := { start1.aboutOf #[] with heap := (start1.aboutOf #[]).heap.modify 2 (fun c => { c with cls := 23 }), vm := { (start1.aboutOf #[]).vm with classes := (start1.aboutOf #[]).vm.classes.push cK } }
theorem find3 {n : String} {c : ClassId} (h : start1.about.vm.findClass n = some c) : about3.vm.findClass n = some c := by
  show ((start1.about.vm.classes.push cK).findIdx? _) = some c
  rw [Array.findIdx?_push]
  have h2 : (start1.about.vm.classes.findIdx? fun k => k.name == n && k.hidden.isNone && (match k.kind with | .primitive _ => false | _ => true) && (match (none : Option Addr) with | none => k.loader.isNone | some l => k.initiators.contains l)) = some c := h
  exact (congrArg (fun q => Option.or q _) h2).trans rfl
theorem class3 {c : ClassId} {k : Class} (h : start1.about.vm.classes[c]? = some k) : about3.vm.classes[c]? = some k := by
  show (start1.about.vm.classes.push cK)[c]? = some k
  rw [Array.getElem?_push, if_neg (Nat.ne_of_lt (Array.getElem?_eq_some_iff.mp h).1)]
  exact h
set_option maxRecDepth 100000 in
theorem oth_1_0 : (((tables_1_1.drop 0).take 40).all (fun c => su_isCode c || c.before start1.args0 about3)) = true := by decide +kernel
set_option maxRecDepth 100000 in
theorem oth_1_1 : (((tables_1_1.drop 40).take 40).all (fun c => su_isCode c || c.before start1.args0 about3)) = true := by decide +kernel
set_option maxRecDepth 100000 in
theorem oth_1_2 : (((tables_1_1.drop 80).take 40).all (fun c => su_isCode c || c.before start1.args0 about3)) = true := by decide +kernel
set_option maxRecDepth 100000 in
theorem oth_1_3 : (((tables_1_1.drop 120).take 40).all (fun c => su_isCode c || c.before start1.args0 about3)) = true := by decide +kernel
set_option maxRecDepth 100000 in
theorem oth_1_4 : (((tables_1_1.drop 160).take 40).all (fun c => su_isCode c || c.before start1.args0 about3)) = true := by decide +kernel
set_option maxRecDepth 100000 in
theorem oth_1_5 : (((tables_1_1.drop 200).take 40).all (fun c => su_isCode c || c.before start1.args0 about3)) = true := by decide +kernel
set_option maxRecDepth 100000 in
theorem oth_1_6 : (((tables_1_1.drop 240).take 40).all (fun c => su_isCode c || c.before start1.args0 about3)) = true := by decide +kernel
theorem len_1 : tables_1_1.length ≤ 280 := by decide +kernel
theorem oth_1 : tables_1_1.all (fun c => su_isCode c || c.before start1.args0 about3) = true := by
  refine List.all_eq_true.mpr fun c hc => ?_
  obtain ⟨q, hq⟩ := List.getElem?_of_mem hc
  have hl : q < 280 := Nat.lt_of_lt_of_le (List.getElem?_eq_some_iff.mp hq).1 len_1
  have key : ∀ j, 40 * j ≤ q → q < 40 * j + 40 → c ∈ (tables_1_1.drop (40 * j)).take 40 := fun j h1 h2 => List.mem_of_getElem? (i := q - 40 * j) (by rw [List.getElem?_take, if_pos (by omega), List.getElem?_drop, show 40 * j + (q - 40 * j) = q by omega]; exact hq)
  have hj : (40 * 0 ≤ q ∧ q < 40 * 0 + 40) ∨ (40 * 1 ≤ q ∧ q < 40 * 1 + 40) ∨ (40 * 2 ≤ q ∧ q < 40 * 2 + 40) ∨ (40 * 3 ≤ q ∧ q < 40 * 3 + 40) ∨ (40 * 4 ≤ q ∧ q < 40 * 4 + 40) ∨ (40 * 5 ≤ q ∧ q < 40 * 5 + 40) ∨ (40 * 6 ≤ q ∧ q < 40 * 6 + 40) := by omega
  rcases hj with ⟨a, b⟩ | ⟨a, b⟩ | ⟨a, b⟩ | ⟨a, b⟩ | ⟨a, b⟩ | ⟨a, b⟩ | ⟨a, b⟩
  · exact List.all_eq_true.mp oth_1_0 c (key 0 a b)
  · exact List.all_eq_true.mp oth_1_1 c (key 1 a b)
  · exact List.all_eq_true.mp oth_1_2 c (key 2 a b)
  · exact List.all_eq_true.mp oth_1_3 c (key 3 a b)
  · exact List.all_eq_true.mp oth_1_4 c (key 4 a b)
  · exact List.all_eq_true.mp oth_1_5 c (key 5 a b)
  · exact List.all_eq_true.mp oth_1_6 c (key 6 a b)
set_option maxRecDepth 100000 in
theorem oth_2_0 : (((tables_1_2.drop 0).take 40).all (fun c => su_isCode c || c.before start1.args0 about3)) = true := by decide +kernel
set_option maxRecDepth 100000 in
theorem oth_2_1 : (((tables_1_2.drop 40).take 40).all (fun c => su_isCode c || c.before start1.args0 about3)) = true := by decide +kernel
set_option maxRecDepth 100000 in
theorem oth_2_2 : (((tables_1_2.drop 80).take 40).all (fun c => su_isCode c || c.before start1.args0 about3)) = true := by decide +kernel
set_option maxRecDepth 100000 in
theorem oth_2_3 : (((tables_1_2.drop 120).take 40).all (fun c => su_isCode c || c.before start1.args0 about3)) = true := by decide +kernel
set_option maxRecDepth 100000 in
theorem oth_2_4 : (((tables_1_2.drop 160).take 40).all (fun c => su_isCode c || c.before start1.args0 about3)) = true := by decide +kernel
set_option maxRecDepth 100000 in
theorem oth_2_5 : (((tables_1_2.drop 200).take 40).all (fun c => su_isCode c || c.before start1.args0 about3)) = true := by decide +kernel
set_option maxRecDepth 100000 in
theorem oth_2_6 : (((tables_1_2.drop 240).take 40).all (fun c => su_isCode c || c.before start1.args0 about3)) = true := by decide +kernel
theorem len_2 : tables_1_2.length ≤ 280 := by decide +kernel
theorem oth_2 : tables_1_2.all (fun c => su_isCode c || c.before start1.args0 about3) = true := by
  refine List.all_eq_true.mpr fun c hc => ?_
  obtain ⟨q, hq⟩ := List.getElem?_of_mem hc
  have hl : q < 280 := Nat.lt_of_lt_of_le (List.getElem?_eq_some_iff.mp hq).1 len_2
  have key : ∀ j, 40 * j ≤ q → q < 40 * j + 40 → c ∈ (tables_1_2.drop (40 * j)).take 40 := fun j h1 h2 => List.mem_of_getElem? (i := q - 40 * j) (by rw [List.getElem?_take, if_pos (by omega), List.getElem?_drop, show 40 * j + (q - 40 * j) = q by omega]; exact hq)
  have hj : (40 * 0 ≤ q ∧ q < 40 * 0 + 40) ∨ (40 * 1 ≤ q ∧ q < 40 * 1 + 40) ∨ (40 * 2 ≤ q ∧ q < 40 * 2 + 40) ∨ (40 * 3 ≤ q ∧ q < 40 * 3 + 40) ∨ (40 * 4 ≤ q ∧ q < 40 * 4 + 40) ∨ (40 * 5 ≤ q ∧ q < 40 * 5 + 40) ∨ (40 * 6 ≤ q ∧ q < 40 * 6 + 40) := by omega
  rcases hj with ⟨a, b⟩ | ⟨a, b⟩ | ⟨a, b⟩ | ⟨a, b⟩ | ⟨a, b⟩ | ⟨a, b⟩ | ⟨a, b⟩
  · exact List.all_eq_true.mp oth_2_0 c (key 0 a b)
  · exact List.all_eq_true.mp oth_2_1 c (key 1 a b)
  · exact List.all_eq_true.mp oth_2_2 c (key 2 a b)
  · exact List.all_eq_true.mp oth_2_3 c (key 3 a b)
  · exact List.all_eq_true.mp oth_2_4 c (key 4 a b)
  · exact List.all_eq_true.mp oth_2_5 c (key 5 a b)
  · exact List.all_eq_true.mp oth_2_6 c (key 6 a b)
set_option maxRecDepth 100000 in
theorem oth_3_0 : (((tables_1_3.drop 0).take 40).all (fun c => su_isCode c || c.before start1.args0 about3)) = true := by decide +kernel
set_option maxRecDepth 100000 in
theorem oth_3_1 : (((tables_1_3.drop 40).take 40).all (fun c => su_isCode c || c.before start1.args0 about3)) = true := by decide +kernel
set_option maxRecDepth 100000 in
theorem oth_3_2 : (((tables_1_3.drop 80).take 40).all (fun c => su_isCode c || c.before start1.args0 about3)) = true := by decide +kernel
set_option maxRecDepth 100000 in
theorem oth_3_3 : (((tables_1_3.drop 120).take 40).all (fun c => su_isCode c || c.before start1.args0 about3)) = true := by decide +kernel
set_option maxRecDepth 100000 in
theorem oth_3_4 : (((tables_1_3.drop 160).take 40).all (fun c => su_isCode c || c.before start1.args0 about3)) = true := by decide +kernel
set_option maxRecDepth 100000 in
theorem oth_3_5 : (((tables_1_3.drop 200).take 40).all (fun c => su_isCode c || c.before start1.args0 about3)) = true := by decide +kernel
set_option maxRecDepth 100000 in
theorem oth_3_6 : (((tables_1_3.drop 240).take 40).all (fun c => su_isCode c || c.before start1.args0 about3)) = true := by decide +kernel
theorem len_3 : tables_1_3.length ≤ 280 := by decide +kernel
theorem oth_3 : tables_1_3.all (fun c => su_isCode c || c.before start1.args0 about3) = true := by
  refine List.all_eq_true.mpr fun c hc => ?_
  obtain ⟨q, hq⟩ := List.getElem?_of_mem hc
  have hl : q < 280 := Nat.lt_of_lt_of_le (List.getElem?_eq_some_iff.mp hq).1 len_3
  have key : ∀ j, 40 * j ≤ q → q < 40 * j + 40 → c ∈ (tables_1_3.drop (40 * j)).take 40 := fun j h1 h2 => List.mem_of_getElem? (i := q - 40 * j) (by rw [List.getElem?_take, if_pos (by omega), List.getElem?_drop, show 40 * j + (q - 40 * j) = q by omega]; exact hq)
  have hj : (40 * 0 ≤ q ∧ q < 40 * 0 + 40) ∨ (40 * 1 ≤ q ∧ q < 40 * 1 + 40) ∨ (40 * 2 ≤ q ∧ q < 40 * 2 + 40) ∨ (40 * 3 ≤ q ∧ q < 40 * 3 + 40) ∨ (40 * 4 ≤ q ∧ q < 40 * 4 + 40) ∨ (40 * 5 ≤ q ∧ q < 40 * 5 + 40) ∨ (40 * 6 ≤ q ∧ q < 40 * 6 + 40) := by omega
  rcases hj with ⟨a, b⟩ | ⟨a, b⟩ | ⟨a, b⟩ | ⟨a, b⟩ | ⟨a, b⟩ | ⟨a, b⟩ | ⟨a, b⟩
  · exact List.all_eq_true.mp oth_3_0 c (key 0 a b)
  · exact List.all_eq_true.mp oth_3_1 c (key 1 a b)
  · exact List.all_eq_true.mp oth_3_2 c (key 2 a b)
  · exact List.all_eq_true.mp oth_3_3 c (key 3 a b)
  · exact List.all_eq_true.mp oth_3_4 c (key 4 a b)
  · exact List.all_eq_true.mp oth_3_5 c (key 5 a b)
  · exact List.all_eq_true.mp oth_3_6 c (key 6 a b)
set_option maxRecDepth 100000 in
theorem oth_4_0 : (((tables_1_4.drop 0).take 40).all (fun c => su_isCode c || c.before start1.args0 about3)) = true := by decide +kernel
set_option maxRecDepth 100000 in
theorem oth_4_1 : (((tables_1_4.drop 40).take 40).all (fun c => su_isCode c || c.before start1.args0 about3)) = true := by decide +kernel
set_option maxRecDepth 100000 in
theorem oth_4_2 : (((tables_1_4.drop 80).take 40).all (fun c => su_isCode c || c.before start1.args0 about3)) = true := by decide +kernel
set_option maxRecDepth 100000 in
theorem oth_4_3 : (((tables_1_4.drop 120).take 40).all (fun c => su_isCode c || c.before start1.args0 about3)) = true := by decide +kernel
set_option maxRecDepth 100000 in
theorem oth_4_4 : (((tables_1_4.drop 160).take 40).all (fun c => su_isCode c || c.before start1.args0 about3)) = true := by decide +kernel
set_option maxRecDepth 100000 in
theorem oth_4_5 : (((tables_1_4.drop 200).take 40).all (fun c => su_isCode c || c.before start1.args0 about3)) = true := by decide +kernel
set_option maxRecDepth 100000 in
theorem oth_4_6 : (((tables_1_4.drop 240).take 40).all (fun c => su_isCode c || c.before start1.args0 about3)) = true := by decide +kernel
theorem len_4 : tables_1_4.length ≤ 280 := by decide +kernel
theorem oth_4 : tables_1_4.all (fun c => su_isCode c || c.before start1.args0 about3) = true := by
  refine List.all_eq_true.mpr fun c hc => ?_
  obtain ⟨q, hq⟩ := List.getElem?_of_mem hc
  have hl : q < 280 := Nat.lt_of_lt_of_le (List.getElem?_eq_some_iff.mp hq).1 len_4
  have key : ∀ j, 40 * j ≤ q → q < 40 * j + 40 → c ∈ (tables_1_4.drop (40 * j)).take 40 := fun j h1 h2 => List.mem_of_getElem? (i := q - 40 * j) (by rw [List.getElem?_take, if_pos (by omega), List.getElem?_drop, show 40 * j + (q - 40 * j) = q by omega]; exact hq)
  have hj : (40 * 0 ≤ q ∧ q < 40 * 0 + 40) ∨ (40 * 1 ≤ q ∧ q < 40 * 1 + 40) ∨ (40 * 2 ≤ q ∧ q < 40 * 2 + 40) ∨ (40 * 3 ≤ q ∧ q < 40 * 3 + 40) ∨ (40 * 4 ≤ q ∧ q < 40 * 4 + 40) ∨ (40 * 5 ≤ q ∧ q < 40 * 5 + 40) ∨ (40 * 6 ≤ q ∧ q < 40 * 6 + 40) := by omega
  rcases hj with ⟨a, b⟩ | ⟨a, b⟩ | ⟨a, b⟩ | ⟨a, b⟩ | ⟨a, b⟩ | ⟨a, b⟩ | ⟨a, b⟩
  · exact List.all_eq_true.mp oth_4_0 c (key 0 a b)
  · exact List.all_eq_true.mp oth_4_1 c (key 1 a b)
  · exact List.all_eq_true.mp oth_4_2 c (key 2 a b)
  · exact List.all_eq_true.mp oth_4_3 c (key 3 a b)
  · exact List.all_eq_true.mp oth_4_4 c (key 4 a b)
  · exact List.all_eq_true.mp oth_4_5 c (key 5 a b)
  · exact List.all_eq_true.mp oth_4_6 c (key 6 a b)
end
section
theorem named3 {y : MethodName} {m : MethodId} (h : start1.about.methodNamed? y = some m) : about3.methodNamed? y = some m := by
  unfold State.methodNamed? at h ⊢
  cases hc : start1.about.vm.findClass y.cls with
  | none => rw [hc] at h; cases h
  | some c =>
    rw [hc] at h
    rw [find3 hc]
    cases hk : start1.about.vm.classes[c]? with
    | none => simp [hk] at h
    | some k =>
      simp only [hk, Option.bind_eq_bind, Option.bind_some] at h
      simp only [class3 hk, Option.bind_eq_bind, Option.bind_some]
      exact h
theorem meth3 {m : MethodId} {meth : Method} (h : start1.about.vm.method? m = some meth) : about3.vm.method? m = some meth := by
  unfold Vm.method? at h ⊢
  cases hk : start1.about.vm.classes[m.cls]? with
  | none => simp [hk] at h
  | some k =>
    simp only [hk, Option.bind_eq_bind, Option.bind_some] at h
    simp only [class3 hk, Option.bind_eq_bind, Option.bind_some]
    exact h
theorem code3 {y : MethodName} {b : ByteArray} {n : Nat} {r : Option FieldType} (h : (Cond.code y b n r).before start1.args0 start1.about = true) : (Cond.code y b n r).before start1.args0 about3 = true := by
  simp only [Cond.before, Cond.holds, Cond.value] at h ⊢
  cases hm : start1.about.methodNamed? y with
  | none => simp [hm] at h
  | some m =>
    cases hq : start1.about.vm.method? m with
    | none => simp [hm, hq] at h
    | some meth =>
      rw [hm, Option.bind_some, hq] at h
      rw [named3 hm, Option.bind_some, meth3 hq]
      exact h
theorem words3 : ∀ c ∈ (Cond.code x code maxLocals ret :: tables_1), c.before start1.args0 about3 = true := by
  have key : ∀ (c : Cond), c.before start1.args0 start1.about = true → (su_isCode c || c.before start1.args0 about3) = true → c.before start1.args0 about3 = true := by
    intro c h1 h2
    rcases Bool.or_eq_true_iff.mp h2 with h | h
    · cases c <;> first | exact code3 h1 | cases h
    · exact h
  intro c hc
  have h0 := start1.words c hc
  rcases List.mem_cons.mp hc with h | h
  · exact key c h0 (by rw [h]; rfl)
  · have h1 : c ∈ tables_1_1 ++ (tables_1_2 ++ (tables_1_3 ++ tables_1_4)) := h
    rcases List.mem_append.mp h1 with h2 | h1
    · exact key c h0 (List.all_eq_true.mp oth_1 c h2)
    rcases List.mem_append.mp h1 with h2 | h1
    · exact key c h0 (List.all_eq_true.mp oth_2 c h2)
    rcases List.mem_append.mp h1 with h2 | h1
    · exact key c h0 (List.all_eq_true.mp oth_3 c h2)
    exact key c h0 (List.all_eq_true.mp oth_4 c h1)
def env3 : Env := launch0.env 0 0 0
set_option maxRecDepth 100000 in
theorem heap3 : heapFits about3 = true := by decide +kernel
set_option maxRecDepth 100000 in
theorem room3 {r : Room} (h1 : about3.frames.length + r.frames ≤ launch0.maxFrames) (h2 : about3.heap.size + r.cells ≤ launch0.maxCells) (h3 : about3.slotsUsed + r.slots ≤ launch0.maxSlots) (h4 : about3.localsInUse + r.locals ≤ launch0.maxStackSlots - stackMargin) (h5 : about3.localsInUse + r.locals + stackMargin ≤ realStackBytes / 8) : about3.hasRoom env3.platform r = true :=
  State.hasRoom_of rfl (Nat.le_trans h1 (Nat.le_max_left _ _)) (Nat.le_trans h4 (Nat.le_max_left _ _)) (Nat.le_trans h2 (Nat.le_max_left _ _)) (Nat.le_trans h3 (Nat.le_max_left _ _)) (by decide +kernel) h5
set_option maxRecDepth 100000 in
theorem applies3 {r : Room} (hr : about3.hasRoom env3.platform r = true) : (headSpec (Cond.code x code maxLocals ret :: tables_1) r).applies x env3.platform about3 = true :=
  (Spec.applies_iff rfl).mpr ⟨rfl, rfl, rfl, by decide +kernel, by decide +kernel, by decide +kernel, hr, atoms_intro words3⟩
set_option maxRecDepth 100000 in
theorem rest3 : rest_1_c.before start1.args0 about3 = true := by decide +kernel
set_option maxRecDepth 100000 in
theorem pre3 : (Cond.and given_1 narrow_1).before start1.args0 about3 = true := by decide +kernel
set_option maxRecDepth 100000 in
theorem room3_1 : about3.hasRoom env3.platform room_1 = true := room3 (by decide +kernel) (by decide +kernel) (by decide +kernel) (by decide +kernel) (by decide +kernel)
set_option maxRecDepth 100000 in
theorem room3_2 : about3.hasRoom env3.platform rz_LB = true := room3 (by decide +kernel) (by decide +kernel) (by decide +kernel) (by decide +kernel) (by decide +kernel)
set_option maxRecDepth 100000 in
theorem odd3 : oddIs #[Value.ref 0] about3 := ⟨2, by decide +kernel, ⟨_, rfl, rfl, by decide +kernel⟩, (by decide +kernel : (Cond.selects "[K" x_K y_K).before #[] about3 = true), (by decide +kernel : (Cond.instanceMethod y_K).before #[] about3 = true), (by decide +kernel : (Cond.initialized "[K").before #[] about3 = true), su_hand_word (m := ⟨23, 0⟩) (by decide +kernel) rfl (by decide +kernel) (by decide +kernel)⟩
set_option maxRecDepth 100000 in
theorem fit3 : argsFit about3.vm ⟨0, 0⟩ start1.args0 = true := by decide +kernel
end
section
set_option maxHeartbeats 4000000 in
theorem odd_walk (l : Launch) : MetFree l x (headSpec (Cond.code x code maxLocals ret :: tables_1) rz_LB) (fun args s => args = #[Value.ref 0] ∧ va_X 0 0 (fun _ => 0) s s.heap ∧ 0 < s.heap.size ∧ oddIs #[Value.ref 0] s ∧ (Cond.and given_1 narrow_1).before #[Value.ref 0] s = true) (fun _ _ _ _ _ => True) (fun _ s _ t => ∃ k9 : Cell, t.heap[s.heap.size + 46]? = some k9 ∧ k9.slots.size = 7602176) := by
  refine MetFree.of_bodyS (code := code) (maxLocals := maxLocals) (ret := ret) (by decide) ?_ ?_
  · intro args s m h hn
    obtain ⟨meth, c, h1, h2, h3, h4, h5, h6, -, -⟩ := Cond.code_spec hn (atoms_spec (ws := Cond.code x code maxLocals ret :: tables_1) h _ List.mem_cons_self)
    exact ⟨meth, c, h1, h2, h3, h4, h5, h6⟩
  · intro p e s m args below meth c s₁ B hml0 hP _
    obtain ⟨rfl, hX, hbl, hO, hgv⟩ := hP
    have hown : s.vm.findClass R_law = some m.cls := findClass_of_methodNamed B.named
    have hts0 : ∀ c ∈ (Cond.code x code maxLocals ret :: tables_1), c.before #[Value.ref 0] s = true := atoms_spec (ws := Cond.code x code maxLocals ret :: tables_1) B.pre
    have hts : ∀ w ∈ lw_tbl, w.before #[Value.ref 0] s = true := k2_hts_sels lw_privs (fun w hw => hts0 w (List.mem_cons_of_mem _ hw)) lw_privs_ok
    have hml : c.maxLocals = 4 := B.maxLocals_eq (hts0 _ List.mem_cons_self)
    have X₀ : Stand p l e rz_LB s m #[Value.ref 0] below meth c s₁ [] 0 0 := Stand.of_body B
    have hh0 : s₁.heap = s.heap := by rw [B.state]; rfl
    have K : W p l e rz_LB s m #[Value.ref 0] below meth c s₁.heap [] 0 0 (bigEnd below s) (entryFrame m ([Value.ref 0] : List Value).toArray 4) := by
      rw [hh0]
      exact odd_law l ⟨B.exec, B.bytes, B.returns, hml, hown, hts, hX, hbl, B.notSynchronized, hgv⟩ hO
    obtain ⟨t, a1, o, b1, b2, b3⟩ := K s₁ rfl X₀
    exact ⟨t, o, a1, b1, b2, b3⟩
theorem le_sum_of {a : Nat} : ∀ {l : List Nat}, a ∈ l → a ≤ l.sum
  | b :: l, h => by
    rw [List.sum_cons]
    rcases List.mem_cons.mp h with h | h
    · omega
    · have := le_sum_of h
      omega
theorem scr3 : va_X 0 0 (fun _ => 0) about3 about3.heap := ⟨_, rfl, ⟨(fun k h => by cases h), _, rfl, 14, rfl⟩, (fun h => by cases h), rfl, fun j hj => absurd hj (Nat.not_lt_zero j)⟩
theorem start3 : AtStart classFile x code maxLocals ret World_1 tables_1 room_1 Calls_1 rest_1 Pre_1 launch0 start1.p0 env3 about3 ⟨0, 0⟩ start1.args0 Lib.HandBits.below0 :=
  ⟨start1.atStart.1, trivial, launch0.admits_env _ _ _, launch0.least_env, fairChoices_fair.cas, fairChoices_fair.clock, rfl, fit3, heap3, applies3 room3_1, trivial, rest3, pre3⟩
theorem ends3 : ∃ (n : Nat) (o : Outcome), (∀ k, k < n → Within (stepsAlone start1.p0.tables env3 k about3) Lib.HandBits.below0) ∧ (stepsAlone start1.p0.tables env3 n about3).status = Status.running ∧ Ended (stepsAlone start1.p0.tables env3 n about3) Lib.HandBits.below0 o ∧ ∀ L, ¬ Framed about3 o (stepsAlone start1.p0.tables env3 n about3) L 600000 7302250 := by
  obtain ⟨n, o, w, r, e, k9, hk, hs⟩ := odd_walk launch0 start1.p0 env3 (launch0.admits_env _ _ _) fairChoices_fair.cas fairChoices_fair.clock about3 ⟨0, 0⟩ start1.args0 Lib.HandBits.below0 rfl ((Spec.applies_iff_loose rfl).mp (applies3 room3_2)).1 ⟨rfl, scr3, (by decide +kernel), odd3, pre3⟩ trivial
  refine ⟨n, o, w, r, e, fun L hF => ?_⟩
  obtain ⟨-, -, -, -, -, -, hsum, -⟩ := hF
  generalize stepsAlone start1.p0.tables env3 n about3 = t at hk hsum
  have hmem : k9 ∈ t.heap.toList.drop about3.heap.size := List.mem_of_getElem? (i := 46) (by rw [List.getElem?_drop, Array.getElem?_toList]; exact hk)
  have hle : k9.slots.size ≤ ((t.heap.toList.drop about3.heap.size).map (·.slots.size)).sum := le_sum_of (List.mem_map.mpr ⟨k9, hmem, rfl⟩)
  have hsum : ((t.heap.toList.drop about3.heap.size).map (·.slots.size)).sum ≤ 7302250 := hsum
  omega
theorem refuted_1 : RefutedClaimed_1_1 := by
  obtain ⟨n, o, w, r, e, hF⟩ := ends3
  exact ⟨launch0, start1.p0, env3, about3, ⟨0, 0⟩, start1.args0, Lib.HandBits.below0, rfl, start3, n, o, w, r, e, fun h => hF _ h.2⟩
theorem refuted_2 : RefutedClaimed_1_2 := by
  obtain ⟨n, o, w, r, e, hF⟩ := ends3
  exact ⟨launch0, start1.p0, env3, about3, ⟨0, 0⟩, start1.args0, Lib.HandBits.below0, rfl, start3, n, o, w, r, e, fun h => hF _ h.2⟩
theorem part_false : ¬ (Claimed_1_1 ∧ Claimed_1_2) := by
  intro h
  obtain ⟨n, o, w1, r1, e1, hp⟩ := h.1 launch0 rfl start1.atStart.1 trivial start1.p0 env3 (launch0.admits_env _ _ _) fairChoices_fair.cas fairChoices_fair.clock about3 ⟨0, 0⟩ start1.args0 Lib.HandBits.below0 rfl fit3 heap3 (applies3 room3_1) ⟨trivial, rest3, pre3⟩
  obtain ⟨n2, o2, w2, r2, e2, hF⟩ := ends3
  obtain ⟨rfl, rfl⟩ := the_end_unique (f := fun k => stepsAlone start1.p0.tables env3 k about3) w1 e1 w2 e2
  exact hF _ hp.2
end

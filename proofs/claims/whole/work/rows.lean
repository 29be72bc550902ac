section
-- ===== PART A: goes FIRST, ahead of the names: the tables' words, and 'selects' of the private methods out of them =====
/-- a private method of a class that the tables say can be made, by its rows of tables_1 -/
def lw_okq (q : MethodName × Nat) : Prop := (q.1.cls ≠ "java/lang/invoke/MethodHandle" ∧ q.1.cls ≠ "java/lang/invoke/VarHandle") ∧ Cond.instantiable q.1.cls q.2 ∈ tables_1 ∧ Cond.privateMethod q.1 ∈ tables_1 ∧ Cond.instanceMethod q.1 ∈ tables_1
theorem lw_p0 : lw_okq (⟨"BoostForests", "keepAsked", "(IIII)V"⟩, 4) := ⟨⟨by decide +kernel, by decide +kernel⟩, List.mem_of_getElem? (i := 13) (by decide +kernel), List.mem_of_getElem? (i := 256) (by decide +kernel), List.mem_of_getElem? (i := 257) (by decide +kernel)⟩
theorem lw_p1 : lw_okq (⟨"BoostForests$Training", "begin", "()V"⟩, 10) := ⟨⟨by decide +kernel, by decide +kernel⟩, List.mem_of_getElem? (i := 68) (by decide +kernel), List.mem_of_getElem? (i := 304) (by decide +kernel), List.mem_of_getElem? (i := 305) (by decide +kernel)⟩
theorem lw_p2 : lw_okq (⟨"BoostForests$Training", "baseUnits", "()J"⟩, 10) := ⟨⟨by decide +kernel, by decide +kernel⟩, List.mem_of_getElem? (i := 68) (by decide +kernel), List.mem_of_getElem? (i := 308) (by decide +kernel), List.mem_of_getElem? (i := 309) (by decide +kernel)⟩
theorem lw_p3 : lw_okq (⟨"BoostForests$Training", "keepLosses", "()V"⟩, 10) := ⟨⟨by decide +kernel, by decide +kernel⟩, List.mem_of_getElem? (i := 68) (by decide +kernel), List.mem_of_getElem? (i := 313) (by decide +kernel), List.mem_of_getElem? (i := 314) (by decide +kernel)⟩
theorem lw_p4 : lw_okq (⟨"BoostForests$Grower", "drawRows", "(I[J)V"⟩, 12) := ⟨⟨by decide +kernel, by decide +kernel⟩, List.mem_of_getElem? (i := 74) (by decide +kernel), List.mem_of_getElem? (i := 326) (by decide +kernel), List.mem_of_getElem? (i := 327) (by decide +kernel)⟩
theorem lw_p5 : lw_okq (⟨"BoostForests$Grower", "drawn", "(I)I"⟩, 12) := ⟨⟨by decide +kernel, by decide +kernel⟩, List.mem_of_getElem? (i := 74) (by decide +kernel), List.mem_of_getElem? (i := 330) (by decide +kernel), List.mem_of_getElem? (i := 331) (by decide +kernel)⟩
theorem lw_p6 : lw_okq (⟨"BoostForests$Grower", "gatherNode", "(I)V"⟩, 12) := ⟨⟨by decide +kernel, by decide +kernel⟩, List.mem_of_getElem? (i := 74) (by decide +kernel), List.mem_of_getElem? (i := 341) (by decide +kernel), List.mem_of_getElem? (i := 342) (by decide +kernel)⟩
theorem lw_p7 : lw_okq (⟨"BoostForests$Grower", "findSplit", "(II)V"⟩, 12) := ⟨⟨by decide +kernel, by decide +kernel⟩, List.mem_of_getElem? (i := 74) (by decide +kernel), List.mem_of_getElem? (i := 365) (by decide +kernel), List.mem_of_getElem? (i := 366) (by decide +kernel)⟩
theorem lw_p8 : lw_okq (⟨"BoostForests$Grower", "tryColumn", "(II)V"⟩, 12) := ⟨⟨by decide +kernel, by decide +kernel⟩, List.mem_of_getElem? (i := 74) (by decide +kernel), List.mem_of_getElem? (i := 378) (by decide +kernel), List.mem_of_getElem? (i := 379) (by decide +kernel)⟩
theorem lw_p9 : lw_okq (⟨"BoostForests$Grower", "trySplit", "(III)V"⟩, 12) := ⟨⟨by decide +kernel, by decide +kernel⟩, List.mem_of_getElem? (i := 74) (by decide +kernel), List.mem_of_getElem? (i := 382) (by decide +kernel), List.mem_of_getElem? (i := 383) (by decide +kernel)⟩
theorem lw_p10 : lw_okq (⟨"BoostForests$Grower", "moveRows", "(LBoostForests$Tree;I)V"⟩, 12) := ⟨⟨by decide +kernel, by decide +kernel⟩, List.mem_of_getElem? (i := 74) (by decide +kernel), List.mem_of_getElem? (i := 408) (by decide +kernel), List.mem_of_getElem? (i := 409) (by decide +kernel)⟩
theorem lw_p11 : lw_okq (⟨"BoostForests$Training", "addTree", "(I)V"⟩, 10) := ⟨⟨by decide +kernel, by decide +kernel⟩, List.mem_of_getElem? (i := 68) (by decide +kernel), List.mem_of_getElem? (i := 416) (by decide +kernel), List.mem_of_getElem? (i := 417) (by decide +kernel)⟩
theorem lw_p12 : lw_okq (⟨"BoostForests$Training", "addOf", "(LBoostForests$Tree;[I)J"⟩, 10) := ⟨⟨by decide +kernel, by decide +kernel⟩, List.mem_of_getElem? (i := 68) (by decide +kernel), List.mem_of_getElem? (i := 420) (by decide +kernel), List.mem_of_getElem? (i := 421) (by decide +kernel)⟩
theorem lw_p13 : lw_okq (⟨"BoostForests$Training", "shrunk", "(J)J"⟩, 10) := ⟨⟨by decide +kernel, by decide +kernel⟩, List.mem_of_getElem? (i := 68) (by decide +kernel), List.mem_of_getElem? (i := 429) (by decide +kernel), List.mem_of_getElem? (i := 430) (by decide +kernel)⟩
theorem lw_p14 : lw_okq (⟨"BoostForests", "isNode", "(II)Z"⟩, 4) := ⟨⟨by decide +kernel, by decide +kernel⟩, List.mem_of_getElem? (i := 13) (by decide +kernel), List.mem_of_getElem? (i := 444) (by decide +kernel), List.mem_of_getElem? (i := 445) (by decide +kernel)⟩
theorem lw_p15 : lw_okq (⟨"BoostForests", "isTrainedRow", "(I)Z"⟩, 4) := ⟨⟨by decide +kernel, by decide +kernel⟩, List.mem_of_getElem? (i := 13) (by decide +kernel), List.mem_of_getElem? (i := 486) (by decide +kernel), List.mem_of_getElem? (i := 487) (by decide +kernel)⟩
def lw_privs_1 : List (MethodName × Nat) := [(⟨"BoostForests", "keepAsked", "(IIII)V"⟩, 4), (⟨"BoostForests$Training", "begin", "()V"⟩, 10), (⟨"BoostForests$Training", "baseUnits", "()J"⟩, 10), (⟨"BoostForests$Training", "keepLosses", "()V"⟩, 10), (⟨"BoostForests$Grower", "drawRows", "(I[J)V"⟩, 12), (⟨"BoostForests$Grower", "drawn", "(I)I"⟩, 12), (⟨"BoostForests$Grower", "gatherNode", "(I)V"⟩, 12), (⟨"BoostForests$Grower", "findSplit", "(II)V"⟩, 12), (⟨"BoostForests$Grower", "tryColumn", "(II)V"⟩, 12), (⟨"BoostForests$Grower", "trySplit", "(III)V"⟩, 12), (⟨"BoostForests$Grower", "moveRows", "(LBoostForests$Tree;I)V"⟩, 12), (⟨"BoostForests$Training", "addTree", "(I)V"⟩, 10), (⟨"BoostForests$Training", "addOf", "(LBoostForests$Tree;[I)J"⟩, 10), (⟨"BoostForests$Training", "shrunk", "(J)J"⟩, 10), (⟨"BoostForests", "isNode", "(II)Z"⟩, 4), (⟨"BoostForests", "isTrainedRow", "(I)Z"⟩, 4)]
theorem lw_r1 : ∀ q ∈ lw_privs_1, lw_okq q := List.forall_mem_cons.mpr ⟨lw_p0, List.forall_mem_cons.mpr ⟨lw_p1, List.forall_mem_cons.mpr ⟨lw_p2, List.forall_mem_cons.mpr ⟨lw_p3, List.forall_mem_cons.mpr ⟨lw_p4, List.forall_mem_cons.mpr ⟨lw_p5, List.forall_mem_cons.mpr ⟨lw_p6, List.forall_mem_cons.mpr ⟨lw_p7, List.forall_mem_cons.mpr ⟨lw_p8, List.forall_mem_cons.mpr ⟨lw_p9, List.forall_mem_cons.mpr ⟨lw_p10, List.forall_mem_cons.mpr ⟨lw_p11, List.forall_mem_cons.mpr ⟨lw_p12, List.forall_mem_cons.mpr ⟨lw_p13, List.forall_mem_cons.mpr ⟨lw_p14, List.forall_mem_cons.mpr ⟨lw_p15, fun _ h => absurd h List.not_mem_nil⟩⟩⟩⟩⟩⟩⟩⟩⟩⟩⟩⟩⟩⟩⟩⟩
theorem lw_p16 : lw_okq (⟨"BoostForests$Training", "tellTree", "(LBoostForests$Tree;I[I)J"⟩, 10) := ⟨⟨by decide +kernel, by decide +kernel⟩, List.mem_of_getElem? (i := 68) (by decide +kernel), List.mem_of_getElem? (i := 520) (by decide +kernel), List.mem_of_getElem? (i := 521) (by decide +kernel)⟩
theorem lw_p17 : lw_okq (⟨"BoostForests$Training", "tellBoth", "(LBoostForests$Tree;I)J"⟩, 10) := ⟨⟨by decide +kernel, by decide +kernel⟩, List.mem_of_getElem? (i := 68) (by decide +kernel), List.mem_of_getElem? (i := 525) (by decide +kernel), List.mem_of_getElem? (i := 526) (by decide +kernel)⟩
theorem lw_p18 : lw_okq (⟨"BoostForestsModel", "keepLosses", "()V"⟩, 32) := ⟨⟨by decide +kernel, by decide +kernel⟩, List.mem_of_getElem? (i := 546) (by decide +kernel), List.mem_of_getElem? (i := 683) (by decide +kernel), List.mem_of_getElem? (i := 684) (by decide +kernel)⟩
theorem lw_p19 : lw_okq (⟨"BoostForestsModel", "makeTree", "(I)V"⟩, 32) := ⟨⟨by decide +kernel, by decide +kernel⟩, List.mem_of_getElem? (i := 546) (by decide +kernel), List.mem_of_getElem? (i := 687) (by decide +kernel), List.mem_of_getElem? (i := 688) (by decide +kernel)⟩
theorem lw_p20 : lw_okq (⟨"BoostForestsModel", "drawn", "(I)I"⟩, 32) := ⟨⟨by decide +kernel, by decide +kernel⟩, List.mem_of_getElem? (i := 546) (by decide +kernel), List.mem_of_getElem? (i := 691) (by decide +kernel), List.mem_of_getElem? (i := 692) (by decide +kernel)⟩
theorem lw_p21 : lw_okq (⟨"BoostForestsModel", "layNode", "(III)V"⟩, 32) := ⟨⟨by decide +kernel, by decide +kernel⟩, List.mem_of_getElem? (i := 546) (by decide +kernel), List.mem_of_getElem? (i := 698) (by decide +kernel), List.mem_of_getElem? (i := 699) (by decide +kernel)⟩
theorem lw_p22 : lw_okq (⟨"BoostForestsModel", "sumUp", "(IIIIZ)V"⟩, 32) := ⟨⟨by decide +kernel, by decide +kernel⟩, List.mem_of_getElem? (i := 546) (by decide +kernel), List.mem_of_getElem? (i := 702) (by decide +kernel), List.mem_of_getElem? (i := 703) (by decide +kernel)⟩
theorem lw_p23 : lw_okq (⟨"BoostForestsModel", "split", "(II)V"⟩, 32) := ⟨⟨by decide +kernel, by decide +kernel⟩, List.mem_of_getElem? (i := 546) (by decide +kernel), List.mem_of_getElem? (i := 709) (by decide +kernel), List.mem_of_getElem? (i := 710) (by decide +kernel)⟩
theorem lw_p24 : lw_okq (⟨"BoostForestsModel", "isCut", "(III)Z"⟩, 32) := ⟨⟨by decide +kernel, by decide +kernel⟩, List.mem_of_getElem? (i := 546) (by decide +kernel), List.mem_of_getElem? (i := 714) (by decide +kernel), List.mem_of_getElem? (i := 715) (by decide +kernel)⟩
theorem lw_p25 : lw_okq (⟨"BoostForestsModel", "difference", "(IIIII)J"⟩, 32) := ⟨⟨by decide +kernel, by decide +kernel⟩, List.mem_of_getElem? (i := 546) (by decide +kernel), List.mem_of_getElem? (i := 718) (by decide +kernel), List.mem_of_getElem? (i := 719) (by decide +kernel)⟩
theorem lw_p26 : lw_okq (⟨"BoostForestsModel", "valueOf", "(JI)J"⟩, 32) := ⟨⟨by decide +kernel, by decide +kernel⟩, List.mem_of_getElem? (i := 546) (by decide +kernel), List.mem_of_getElem? (i := 723) (by decide +kernel), List.mem_of_getElem? (i := 724) (by decide +kernel)⟩
theorem lw_p27 : lw_okq (⟨"BoostForestsModel", "worthOf", "(JI)J"⟩, 32) := ⟨⟨by decide +kernel, by decide +kernel⟩, List.mem_of_getElem? (i := 546) (by decide +kernel), List.mem_of_getElem? (i := 727) (by decide +kernel), List.mem_of_getElem? (i := 728) (by decide +kernel)⟩
theorem lw_p28 : lw_okq (⟨"BoostForestsModel", "leafOf", "(IIIII)I"⟩, 32) := ⟨⟨by decide +kernel, by decide +kernel⟩, List.mem_of_getElem? (i := 546) (by decide +kernel), List.mem_of_getElem? (i := 731) (by decide +kernel), List.mem_of_getElem? (i := 732) (by decide +kernel)⟩
theorem lw_p29 : lw_okq (⟨"BoostForestsModel", "addOf", "(II)J"⟩, 32) := ⟨⟨by decide +kernel, by decide +kernel⟩, List.mem_of_getElem? (i := 546) (by decide +kernel), List.mem_of_getElem? (i := 735) (by decide +kernel), List.mem_of_getElem? (i := 736) (by decide +kernel)⟩
theorem lw_p30 : lw_okq (⟨"BoostForestsModel", "isNode", "(II)Z"⟩, 32) := ⟨⟨by decide +kernel, by decide +kernel⟩, List.mem_of_getElem? (i := 546) (by decide +kernel), List.mem_of_getElem? (i := 743) (by decide +kernel), List.mem_of_getElem? (i := 744) (by decide +kernel)⟩
theorem lw_p31 : lw_okq (⟨"BoostForestsModel", "isTree", "(I)Z"⟩, 32) := ⟨⟨by decide +kernel, by decide +kernel⟩, List.mem_of_getElem? (i := 546) (by decide +kernel), List.mem_of_getElem? (i := 747) (by decide +kernel), List.mem_of_getElem? (i := 748) (by decide +kernel)⟩
def lw_privs_2 : List (MethodName × Nat) := [(⟨"BoostForests$Training", "tellTree", "(LBoostForests$Tree;I[I)J"⟩, 10), (⟨"BoostForests$Training", "tellBoth", "(LBoostForests$Tree;I)J"⟩, 10), (⟨"BoostForestsModel", "keepLosses", "()V"⟩, 32), (⟨"BoostForestsModel", "makeTree", "(I)V"⟩, 32), (⟨"BoostForestsModel", "drawn", "(I)I"⟩, 32), (⟨"BoostForestsModel", "layNode", "(III)V"⟩, 32), (⟨"BoostForestsModel", "sumUp", "(IIIIZ)V"⟩, 32), (⟨"BoostForestsModel", "split", "(II)V"⟩, 32), (⟨"BoostForestsModel", "isCut", "(III)Z"⟩, 32), (⟨"BoostForestsModel", "difference", "(IIIII)J"⟩, 32), (⟨"BoostForestsModel", "valueOf", "(JI)J"⟩, 32), (⟨"BoostForestsModel", "worthOf", "(JI)J"⟩, 32), (⟨"BoostForestsModel", "leafOf", "(IIIII)I"⟩, 32), (⟨"BoostForestsModel", "addOf", "(II)J"⟩, 32), (⟨"BoostForestsModel", "isNode", "(II)Z"⟩, 32), (⟨"BoostForestsModel", "isTree", "(I)Z"⟩, 32)]
theorem lw_r2 : ∀ q ∈ lw_privs_2, lw_okq q := List.forall_mem_cons.mpr ⟨lw_p16, List.forall_mem_cons.mpr ⟨lw_p17, List.forall_mem_cons.mpr ⟨lw_p18, List.forall_mem_cons.mpr ⟨lw_p19, List.forall_mem_cons.mpr ⟨lw_p20, List.forall_mem_cons.mpr ⟨lw_p21, List.forall_mem_cons.mpr ⟨lw_p22, List.forall_mem_cons.mpr ⟨lw_p23, List.forall_mem_cons.mpr ⟨lw_p24, List.forall_mem_cons.mpr ⟨lw_p25, List.forall_mem_cons.mpr ⟨lw_p26, List.forall_mem_cons.mpr ⟨lw_p27, List.forall_mem_cons.mpr ⟨lw_p28, List.forall_mem_cons.mpr ⟨lw_p29, List.forall_mem_cons.mpr ⟨lw_p30, List.forall_mem_cons.mpr ⟨lw_p31, fun _ h => absurd h List.not_mem_nil⟩⟩⟩⟩⟩⟩⟩⟩⟩⟩⟩⟩⟩⟩⟩⟩
theorem lw_p32 : lw_okq (⟨"BoostForestsModel", "allTell", "(IIIII)J"⟩, 32) := ⟨⟨by decide +kernel, by decide +kernel⟩, List.mem_of_getElem? (i := 546) (by decide +kernel), List.mem_of_getElem? (i := 792) (by decide +kernel), List.mem_of_getElem? (i := 793) (by decide +kernel)⟩
theorem lw_p33 : lw_okq (⟨"BoostForestsModel", "tellOf", "(IIIIII)J"⟩, 32) := ⟨⟨by decide +kernel, by decide +kernel⟩, List.mem_of_getElem? (i := 546) (by decide +kernel), List.mem_of_getElem? (i := 796) (by decide +kernel), List.mem_of_getElem? (i := 797) (by decide +kernel)⟩
def lw_privs_3 : List (MethodName × Nat) := [(⟨"BoostForestsModel", "allTell", "(IIIII)J"⟩, 32), (⟨"BoostForestsModel", "tellOf", "(IIIIII)J"⟩, 32)]
theorem lw_r3 : ∀ q ∈ lw_privs_3, lw_okq q := List.forall_mem_cons.mpr ⟨lw_p32, List.forall_mem_cons.mpr ⟨lw_p33, fun _ h => absurd h List.not_mem_nil⟩⟩
def lw_privs : List (MethodName × Nat) := lw_privs_1 ++ (lw_privs_2 ++ (lw_privs_3))
def lw_tbl : List Cond := k2_sels lw_privs ++ tables_1
theorem lw_privs_ok : ∀ q ∈ lw_privs, lw_okq q := by
  show ∀ q ∈ lw_privs_1 ++ (lw_privs_2 ++ (lw_privs_3)), lw_okq q
  exact List.forall_mem_append.mpr ⟨lw_r1, List.forall_mem_append.mpr ⟨lw_r2, lw_r3⟩⟩
-- ===== end of PART A; then your names; then what follows =====
end
section
abbrev gw_tbl : List Cond := lw_tbl.filter goodWord
theorem gw_good : ∀ w ∈ gw_tbl, (w.onTables && w.keeps) = true ∨ ∃ ty, w = .arrayClass ty := fun w h => good_of_word (List.mem_filter.mp h).2
theorem gw_in : ∀ w ∈ gw_tbl, w ∈ lw_tbl := fun w h => (List.mem_filter.mp h).1
theorem kt_1 : ∀ w ∈ tables_1_1, w ∈ lw_tbl := fun _ h => List.mem_append_right _ (List.mem_append_left _ h)
theorem kt_2 : ∀ w ∈ tables_1_2, w ∈ lw_tbl := fun _ h => List.mem_append_right _ (List.mem_append_right _ (List.mem_append_left _ h))
theorem kt_3 : ∀ w ∈ tables_1_3, w ∈ lw_tbl := fun _ h => List.mem_append_right _ (List.mem_append_right _ (List.mem_append_right _ (List.mem_append_left _ h)))
theorem kt_4 : ∀ w ∈ tables_1_4, w ∈ lw_tbl := fun _ h => List.mem_append_right _ (List.mem_append_right _ (List.mem_append_right _ (List.mem_append_right _ h)))
def R_BF : String := "BoostForests"
def F_BF : u_T := fun k => match k with
  | 0 => ("BoostForests", "table", "LBoostForests$Table;", true)
  | 1 => ("BoostForests", "settings", "[I", true)
  | 2 => ("BoostForests", "training", "LBoostForests$Training;", true)
  | _ => ("BoostForests", "asked", "[I", true)
def t_BF : Nat → FieldType := fun k => match k with
  | 0 => .object "BoostForests$Table"
  | 1 => .array .int
  | 2 => .object "BoostForests$Training"
  | _ => .array .int
abbrev w_BF : List Cond := u_ws R_BF F_BF 4
theorem n_BF : ∀ a, a < 4 → ∀ b, b < 4 → a ≠ b → (F_BF a).2.1 ≠ (F_BF b).2.1 := by decide +kernel
theorem t_BF_ok : ∀ k, k < 4 → parseFieldDescriptor (F_BF k).2.2.1 = some (t_BF k) := by decide +kernel
theorem i_BF : ∀ w ∈ w_BF, w ∈ gw_tbl := by
  intro w hw
  obtain ⟨k, hk, rfl⟩ := List.mem_map.mp hw
  have hk := List.mem_range.mp hk
  match k, hk with
  | 0, _ => exact List.mem_filter.mpr ⟨kt_1 _ (List.mem_of_getElem? (i := 236) rfl), rfl⟩
  | 1, _ => exact List.mem_filter.mpr ⟨kt_1 _ (List.mem_of_getElem? (i := 238) rfl), rfl⟩
  | 2, _ => exact List.mem_filter.mpr ⟨kt_2 _ (List.mem_of_getElem? (i := 0) rfl), rfl⟩
  | 3, _ => exact List.mem_filter.mpr ⟨kt_2 _ (List.mem_of_getElem? (i := 2) rfl), rfl⟩
  | k + 4, hk => exact absurd hk (by omega)
def R_TB : String := "BoostForests$Table"
def F_TB : u_T := fun k => match k with
  | 0 => ("BoostForests$Table", "cells", "[[I", true)
  | 1 => ("BoostForests$Table", "aims", "[I", true)
  | 2 => ("BoostForests$Table", "weights", "[I", true)
  | 3 => ("BoostForests$Table", "held", "[Z", true)
  | _ => ("BoostForests$Table", "number", "I", false)
def t_TB : Nat → FieldType := fun k => match k with
  | 0 => .array (.array .int)
  | 1 => .array .int
  | 2 => .array .int
  | 3 => .array .boolean
  | _ => .int
abbrev w_TB : List Cond := u_ws R_TB F_TB 5
theorem n_TB : ∀ a, a < 5 → ∀ b, b < 5 → a ≠ b → (F_TB a).2.1 ≠ (F_TB b).2.1 := by decide +kernel
theorem t_TB_ok : ∀ k, k < 5 → parseFieldDescriptor (F_TB k).2.2.1 = some (t_TB k) := by decide +kernel
theorem i_TB : ∀ w ∈ w_TB, w ∈ gw_tbl := by
  intro w hw
  obtain ⟨k, hk, rfl⟩ := List.mem_map.mp hw
  have hk := List.mem_range.mp hk
  match k, hk with
  | 0, _ => exact List.mem_filter.mpr ⟨kt_1 _ (List.mem_of_getElem? (i := 45) rfl), rfl⟩
  | 1, _ => exact List.mem_filter.mpr ⟨kt_1 _ (List.mem_of_getElem? (i := 47) rfl), rfl⟩
  | 2, _ => exact List.mem_filter.mpr ⟨kt_1 _ (List.mem_of_getElem? (i := 49) rfl), rfl⟩
  | 3, _ => exact List.mem_filter.mpr ⟨kt_1 _ (List.mem_of_getElem? (i := 51) rfl), rfl⟩
  | 4, _ => exact List.mem_filter.mpr ⟨kt_1 _ (List.mem_of_getElem? (i := 53) rfl), rfl⟩
  | k + 5, hk => exact absurd hk (by omega)
def R_TG : String := "BoostForests$Training"
def F_TG : u_T := fun k => match k with
  | 0 => ("BoostForests$Training", "grower", "LBoostForests$Grower;", true)
  | 1 => ("BoostForests$Training", "rows", "LBoostForests$Table;", true)
  | 2 => ("BoostForests$Training", "chosen", "[I", true)
  | 3 => ("BoostForests$Training", "trees", "[LBoostForests$Tree;", true)
  | 4 => ("BoostForests$Training", "f", "[J", true)
  | 5 => ("BoostForests$Training", "tookPart", "[I", true)
  | 6 => ("BoostForests$Training", "losses", "[[J", true)
  | 7 => ("BoostForests$Training", "tells", "[J", true)
  | 8 => ("BoostForests$Training", "done", "Z", false)
  | _ => ("BoostForests$Training", "made", "I", false)
def t_TG : Nat → FieldType := fun k => match k with
  | 0 => .object "BoostForests$Grower"
  | 1 => .object "BoostForests$Table"
  | 2 => .array .int
  | 3 => .array (.object "BoostForests$Tree")
  | 4 => .array .long
  | 5 => .array .int
  | 6 => .array (.array .long)
  | 7 => .array .long
  | 8 => .boolean
  | _ => .int
abbrev w_TG : List Cond := u_ws R_TG F_TG 10
theorem n_TG : ∀ a, a < 10 → ∀ b, b < 10 → a ≠ b → (F_TG a).2.1 ≠ (F_TG b).2.1 := by decide +kernel
theorem t_TG_ok : ∀ k, k < 10 → parseFieldDescriptor (F_TG k).2.2.1 = some (t_TG k) := by decide +kernel
theorem i_TG : ∀ w ∈ w_TG, w ∈ gw_tbl := by
  intro w hw
  obtain ⟨k, hk, rfl⟩ := List.mem_map.mp hw
  have hk := List.mem_range.mp hk
  match k, hk with
  | 0, _ => exact List.mem_filter.mpr ⟨kt_1 _ (List.mem_of_getElem? (i := 211) rfl), rfl⟩
  | 1, _ => exact List.mem_filter.mpr ⟨kt_1 _ (List.mem_of_getElem? (i := 213) rfl), rfl⟩
  | 2, _ => exact List.mem_filter.mpr ⟨kt_1 _ (List.mem_of_getElem? (i := 215) rfl), rfl⟩
  | 3, _ => exact List.mem_filter.mpr ⟨kt_1 _ (List.mem_of_getElem? (i := 217) rfl), rfl⟩
  | 4, _ => exact List.mem_filter.mpr ⟨kt_1 _ (List.mem_of_getElem? (i := 219) rfl), rfl⟩
  | 5, _ => exact List.mem_filter.mpr ⟨kt_1 _ (List.mem_of_getElem? (i := 221) rfl), rfl⟩
  | 6, _ => exact List.mem_filter.mpr ⟨kt_1 _ (List.mem_of_getElem? (i := 223) rfl), rfl⟩
  | 7, _ => exact List.mem_filter.mpr ⟨kt_1 _ (List.mem_of_getElem? (i := 225) rfl), rfl⟩
  | 8, _ => exact List.mem_filter.mpr ⟨kt_1 _ (List.mem_of_getElem? (i := 227) rfl), rfl⟩
  | 9, _ => exact List.mem_filter.mpr ⟨kt_1 _ (List.mem_of_getElem? (i := 229) rfl), rfl⟩
  | k + 10, hk => exact absurd hk (by omega)
def R_GR : String := "BoostForests$Grower"
def F_GR : u_T := fun k => match k with
  | 0 => ("BoostForests$Grower", "rows", "LBoostForests$Table;", true)
  | 1 => ("BoostForests$Grower", "chosen", "[I", true)
  | 2 => ("BoostForests$Grower", "order", "[[I", true)
  | 3 => ("BoostForests$Grower", "nodeOf", "[I", true)
  | 4 => ("BoostForests$Grower", "slopes", "[J", true)
  | 5 => ("BoostForests$Grower", "whole", "LBoostForests$Sums;", true)
  | 6 => ("BoostForests$Grower", "missing", "LBoostForests$Sums;", true)
  | 7 => ("BoostForests$Grower", "below", "LBoostForests$Sums;", true)
  | 8 => ("BoostForests$Grower", "low", "LBoostForests$Sums;", true)
  | 9 => ("BoostForests$Grower", "high", "LBoostForests$Sums;", true)
  | 10 => ("BoostForests$Grower", "nothing", "LBoostForests$Sums;", true)
  | _ => ("BoostForests$Grower", "split", "LBoostForests$Split;", true)
def t_GR : Nat → FieldType := fun k => match k with
  | 0 => .object "BoostForests$Table"
  | 1 => .array .int
  | 2 => .array (.array .int)
  | 3 => .array .int
  | 4 => .array .long
  | 5 => .object "BoostForests$Sums"
  | 6 => .object "BoostForests$Sums"
  | 7 => .object "BoostForests$Sums"
  | 8 => .object "BoostForests$Sums"
  | 9 => .object "BoostForests$Sums"
  | 10 => .object "BoostForests$Sums"
  | _ => .object "BoostForests$Split"
abbrev w_GR : List Cond := u_ws R_GR F_GR 12
theorem n_GR : ∀ a, a < 12 → ∀ b, b < 12 → a ≠ b → (F_GR a).2.1 ≠ (F_GR b).2.1 := by decide +kernel
theorem t_GR_ok : ∀ k, k < 12 → parseFieldDescriptor (F_GR k).2.2.1 = some (t_GR k) := by decide +kernel
theorem i_GR : ∀ w ∈ w_GR, w ∈ gw_tbl := by
  intro w hw
  obtain ⟨k, hk, rfl⟩ := List.mem_map.mp hw
  have hk := List.mem_range.mp hk
  match k, hk with
  | 0, _ => exact List.mem_filter.mpr ⟨kt_1 _ (List.mem_of_getElem? (i := 142) rfl), rfl⟩
  | 1, _ => exact List.mem_filter.mpr ⟨kt_1 _ (List.mem_of_getElem? (i := 144) rfl), rfl⟩
  | 2, _ => exact List.mem_filter.mpr ⟨kt_1 _ (List.mem_of_getElem? (i := 146) rfl), rfl⟩
  | 3, _ => exact List.mem_filter.mpr ⟨kt_1 _ (List.mem_of_getElem? (i := 148) rfl), rfl⟩
  | 4, _ => exact List.mem_filter.mpr ⟨kt_1 _ (List.mem_of_getElem? (i := 150) rfl), rfl⟩
  | 5, _ => exact List.mem_filter.mpr ⟨kt_1 _ (List.mem_of_getElem? (i := 152) rfl), rfl⟩
  | 6, _ => exact List.mem_filter.mpr ⟨kt_1 _ (List.mem_of_getElem? (i := 154) rfl), rfl⟩
  | 7, _ => exact List.mem_filter.mpr ⟨kt_1 _ (List.mem_of_getElem? (i := 156) rfl), rfl⟩
  | 8, _ => exact List.mem_filter.mpr ⟨kt_1 _ (List.mem_of_getElem? (i := 158) rfl), rfl⟩
  | 9, _ => exact List.mem_filter.mpr ⟨kt_1 _ (List.mem_of_getElem? (i := 160) rfl), rfl⟩
  | 10, _ => exact List.mem_filter.mpr ⟨kt_1 _ (List.mem_of_getElem? (i := 162) rfl), rfl⟩
  | 11, _ => exact List.mem_filter.mpr ⟨kt_1 _ (List.mem_of_getElem? (i := 164) rfl), rfl⟩
  | k + 12, hk => exact absurd hk (by omega)
def R_SM : String := "BoostForests$Sums"
def F_SM : u_T := fun k => match k with
  | 0 => ("BoostForests$Sums", "rows", "I", false)
  | 1 => ("BoostForests$Sums", "h", "I", false)
  | _ => ("BoostForests$Sums", "g", "J", false)
def t_SM : Nat → FieldType := fun k => match k with
  | 0 => .int
  | 1 => .int
  | _ => .long
abbrev w_SM : List Cond := u_ws R_SM F_SM 3
theorem n_SM : ∀ a, a < 3 → ∀ b, b < 3 → a ≠ b → (F_SM a).2.1 ≠ (F_SM b).2.1 := by decide +kernel
theorem t_SM_ok : ∀ k, k < 3 → parseFieldDescriptor (F_SM k).2.2.1 = some (t_SM k) := by decide +kernel
theorem i_SM : ∀ w ∈ w_SM, w ∈ gw_tbl := by
  intro w hw
  obtain ⟨k, hk, rfl⟩ := List.mem_map.mp hw
  have hk := List.mem_range.mp hk
  match k, hk with
  | 0, _ => exact List.mem_filter.mpr ⟨kt_1 _ (List.mem_of_getElem? (i := 95) rfl), rfl⟩
  | 1, _ => exact List.mem_filter.mpr ⟨kt_1 _ (List.mem_of_getElem? (i := 97) rfl), rfl⟩
  | 2, _ => exact List.mem_filter.mpr ⟨kt_1 _ (List.mem_of_getElem? (i := 99) rfl), rfl⟩
  | k + 3, hk => exact absurd hk (by omega)
def R_SP : String := "BoostForests$Split"
def F_SP : u_T := fun k => match k with
  | 0 => ("BoostForests$Split", "column", "I", false)
  | 1 => ("BoostForests$Split", "cut", "I", false)
  | 2 => ("BoostForests$Split", "side", "I", false)
  | _ => ("BoostForests$Split", "difference", "J", false)
def t_SP : Nat → FieldType := fun k => match k with
  | 0 => .int
  | 1 => .int
  | 2 => .int
  | _ => .long
abbrev w_SP : List Cond := u_ws R_SP F_SP 4
theorem n_SP : ∀ a, a < 4 → ∀ b, b < 4 → a ≠ b → (F_SP a).2.1 ≠ (F_SP b).2.1 := by decide +kernel
theorem t_SP_ok : ∀ k, k < 4 → parseFieldDescriptor (F_SP k).2.2.1 = some (t_SP k) := by decide +kernel
theorem i_SP : ∀ w ∈ w_SP, w ∈ gw_tbl := by
  intro w hw
  obtain ⟨k, hk, rfl⟩ := List.mem_map.mp hw
  have hk := List.mem_range.mp hk
  match k, hk with
  | 0, _ => exact List.mem_filter.mpr ⟨kt_1 _ (List.mem_of_getElem? (i := 119) rfl), rfl⟩
  | 1, _ => exact List.mem_filter.mpr ⟨kt_1 _ (List.mem_of_getElem? (i := 121) rfl), rfl⟩
  | 2, _ => exact List.mem_filter.mpr ⟨kt_1 _ (List.mem_of_getElem? (i := 123) rfl), rfl⟩
  | 3, _ => exact List.mem_filter.mpr ⟨kt_1 _ (List.mem_of_getElem? (i := 125) rfl), rfl⟩
  | k + 4, hk => exact absurd hk (by omega)
def R_TR : String := "BoostForests$Tree"
def F_TR : u_T := fun k => match k with
  | 0 => ("BoostForests$Tree", "facts", "[[I", true)
  | 1 => ("BoostForests$Tree", "sums", "[[J", true)
  | _ => ("BoostForests$Tree", "nodes", "I", false)
def t_TR : Nat → FieldType := fun k => match k with
  | 0 => .array (.array .int)
  | 1 => .array (.array .long)
  | _ => .int
abbrev w_TR : List Cond := u_ws R_TR F_TR 3
theorem n_TR : ∀ a, a < 3 → ∀ b, b < 3 → a ≠ b → (F_TR a).2.1 ≠ (F_TR b).2.1 := by decide +kernel
theorem t_TR_ok : ∀ k, k < 3 → parseFieldDescriptor (F_TR k).2.2.1 = some (t_TR k) := by decide +kernel
theorem i_TR : ∀ w ∈ w_TR, w ∈ gw_tbl := by
  intro w hw
  obtain ⟨k, hk, rfl⟩ := List.mem_map.mp hw
  have hk := List.mem_range.mp hk
  match k, hk with
  | 0, _ => exact List.mem_filter.mpr ⟨kt_1 _ (List.mem_of_getElem? (i := 188) rfl), rfl⟩
  | 1, _ => exact List.mem_filter.mpr ⟨kt_1 _ (List.mem_of_getElem? (i := 190) rfl), rfl⟩
  | 2, _ => exact List.mem_filter.mpr ⟨kt_1 _ (List.mem_of_getElem? (i := 192) rfl), rfl⟩
  | k + 3, hk => exact absurd hk (by omega)
def R_MD : String := "BoostForestsModel"
def F_MD : u_T := fun k => match k with
  | 0 => ("BoostForestsModel", "rows", "I", false)
  | 1 => ("BoostForestsModel", "columns", "[I", true)
  | 2 => ("BoostForestsModel", "aims", "[I", true)
  | 3 => ("BoostForestsModel", "weights", "[I", true)
  | 4 => ("BoostForestsModel", "held", "[Z", true)
  | 5 => ("BoostForestsModel", "settings", "[I", true)
  | 6 => ("BoostForestsModel", "trained", "Z", false)
  | 7 => ("BoostForestsModel", "trainedRows", "I", false)
  | 8 => ("BoostForestsModel", "cols", "[I", true)
  | 9 => ("BoostForestsModel", "ys", "[I", true)
  | 10 => ("BoostForestsModel", "ws", "[I", true)
  | 11 => ("BoostForestsModel", "isHeld", "[Z", true)
  | 12 => ("BoostForestsModel", "then", "[I", true)
  | 13 => ("BoostForestsModel", "now", "[J", true)
  | 14 => ("BoostForestsModel", "trees", "I", false)
  | 15 => ("BoostForestsModel", "losses", "[J", true)
  | 16 => ("BoostForestsModel", "takesPart", "[Z", true)
  | 17 => ("BoostForestsModel", "sizes", "[I", true)
  | 18 => ("BoostForestsModel", "nodeColumns", "[I", true)
  | 19 => ("BoostForestsModel", "nodeCuts", "[I", true)
  | 20 => ("BoostForestsModel", "nodeSides", "[I", true)
  | 21 => ("BoostForestsModel", "nodeLefts", "[I", true)
  | 22 => ("BoostForestsModel", "nodeRows", "[I", true)
  | 23 => ("BoostForestsModel", "nodeWeights", "[I", true)
  | 24 => ("BoostForestsModel", "nodeDepths", "[I", true)
  | 25 => ("BoostForestsModel", "nodeSlopes", "[J", true)
  | 26 => ("BoostForestsModel", "nodeGains", "[J", true)
  | 27 => ("BoostForestsModel", "nodeOf", "[I", true)
  | 28 => ("BoostForestsModel", "tells", "[J", true)
  | 29 => ("BoostForestsModel", "slope", "J", false)
  | 30 => ("BoostForestsModel", "weight", "I", false)
  | _ => ("BoostForestsModel", "count", "I", false)
def t_MD : Nat → FieldType := fun k => match k with
  | 0 => .int
  | 1 => .array .int
  | 2 => .array .int
  | 3 => .array .int
  | 4 => .array .boolean
  | 5 => .array .int
  | 6 => .boolean
  | 7 => .int
  | 8 => .array .int
  | 9 => .array .int
  | 10 => .array .int
  | 11 => .array .boolean
  | 12 => .array .int
  | 13 => .array .long
  | 14 => .int
  | 15 => .array .long
  | 16 => .array .boolean
  | 17 => .array .int
  | 18 => .array .int
  | 19 => .array .int
  | 20 => .array .int
  | 21 => .array .int
  | 22 => .array .int
  | 23 => .array .int
  | 24 => .array .int
  | 25 => .array .long
  | 26 => .array .long
  | 27 => .array .int
  | 28 => .array .long
  | 29 => .long
  | 30 => .int
  | _ => .int
abbrev w_MD : List Cond := u_ws R_MD F_MD 32
theorem n_MD : ∀ a, a < 32 → ∀ b, b < 32 → a ≠ b → (F_MD a).2.1 ≠ (F_MD b).2.1 := by decide +kernel
theorem t_MD_ok : ∀ k, k < 32 → parseFieldDescriptor (F_MD k).2.2.1 = some (t_MD k) := by decide +kernel
theorem i_MD : ∀ w ∈ w_MD, w ∈ gw_tbl := by
  intro w hw
  obtain ⟨k, hk, rfl⟩ := List.mem_map.mp hw
  have hk := List.mem_range.mp hk
  match k, hk with
  | 0, _ => exact List.mem_filter.mpr ⟨kt_3 _ (List.mem_of_getElem? (i := 103) rfl), rfl⟩
  | 1, _ => exact List.mem_filter.mpr ⟨kt_3 _ (List.mem_of_getElem? (i := 105) rfl), rfl⟩
  | 2, _ => exact List.mem_filter.mpr ⟨kt_3 _ (List.mem_of_getElem? (i := 107) rfl), rfl⟩
  | 3, _ => exact List.mem_filter.mpr ⟨kt_3 _ (List.mem_of_getElem? (i := 109) rfl), rfl⟩
  | 4, _ => exact List.mem_filter.mpr ⟨kt_3 _ (List.mem_of_getElem? (i := 111) rfl), rfl⟩
  | 5, _ => exact List.mem_filter.mpr ⟨kt_3 _ (List.mem_of_getElem? (i := 113) rfl), rfl⟩
  | 6, _ => exact List.mem_filter.mpr ⟨kt_3 _ (List.mem_of_getElem? (i := 115) rfl), rfl⟩
  | 7, _ => exact List.mem_filter.mpr ⟨kt_3 _ (List.mem_of_getElem? (i := 117) rfl), rfl⟩
  | 8, _ => exact List.mem_filter.mpr ⟨kt_3 _ (List.mem_of_getElem? (i := 119) rfl), rfl⟩
  | 9, _ => exact List.mem_filter.mpr ⟨kt_3 _ (List.mem_of_getElem? (i := 121) rfl), rfl⟩
  | 10, _ => exact List.mem_filter.mpr ⟨kt_3 _ (List.mem_of_getElem? (i := 123) rfl), rfl⟩
  | 11, _ => exact List.mem_filter.mpr ⟨kt_3 _ (List.mem_of_getElem? (i := 125) rfl), rfl⟩
  | 12, _ => exact List.mem_filter.mpr ⟨kt_3 _ (List.mem_of_getElem? (i := 127) rfl), rfl⟩
  | 13, _ => exact List.mem_filter.mpr ⟨kt_3 _ (List.mem_of_getElem? (i := 129) rfl), rfl⟩
  | 14, _ => exact List.mem_filter.mpr ⟨kt_3 _ (List.mem_of_getElem? (i := 131) rfl), rfl⟩
  | 15, _ => exact List.mem_filter.mpr ⟨kt_3 _ (List.mem_of_getElem? (i := 133) rfl), rfl⟩
  | 16, _ => exact List.mem_filter.mpr ⟨kt_3 _ (List.mem_of_getElem? (i := 135) rfl), rfl⟩
  | 17, _ => exact List.mem_filter.mpr ⟨kt_3 _ (List.mem_of_getElem? (i := 137) rfl), rfl⟩
  | 18, _ => exact List.mem_filter.mpr ⟨kt_3 _ (List.mem_of_getElem? (i := 139) rfl), rfl⟩
  | 19, _ => exact List.mem_filter.mpr ⟨kt_3 _ (List.mem_of_getElem? (i := 141) rfl), rfl⟩
  | 20, _ => exact List.mem_filter.mpr ⟨kt_3 _ (List.mem_of_getElem? (i := 143) rfl), rfl⟩
  | 21, _ => exact List.mem_filter.mpr ⟨kt_3 _ (List.mem_of_getElem? (i := 145) rfl), rfl⟩
  | 22, _ => exact List.mem_filter.mpr ⟨kt_3 _ (List.mem_of_getElem? (i := 147) rfl), rfl⟩
  | 23, _ => exact List.mem_filter.mpr ⟨kt_3 _ (List.mem_of_getElem? (i := 149) rfl), rfl⟩
  | 24, _ => exact List.mem_filter.mpr ⟨kt_3 _ (List.mem_of_getElem? (i := 151) rfl), rfl⟩
  | 25, _ => exact List.mem_filter.mpr ⟨kt_3 _ (List.mem_of_getElem? (i := 153) rfl), rfl⟩
  | 26, _ => exact List.mem_filter.mpr ⟨kt_3 _ (List.mem_of_getElem? (i := 155) rfl), rfl⟩
  | 27, _ => exact List.mem_filter.mpr ⟨kt_3 _ (List.mem_of_getElem? (i := 157) rfl), rfl⟩
  | 28, _ => exact List.mem_filter.mpr ⟨kt_3 _ (List.mem_of_getElem? (i := 159) rfl), rfl⟩
  | 29, _ => exact List.mem_filter.mpr ⟨kt_3 _ (List.mem_of_getElem? (i := 161) rfl), rfl⟩
  | 30, _ => exact List.mem_filter.mpr ⟨kt_3 _ (List.mem_of_getElem? (i := 163) rfl), rfl⟩
  | 31, _ => exact List.mem_filter.mpr ⟨kt_3 _ (List.mem_of_getElem? (i := 165) rfl), rfl⟩
  | k + 32, hk => exact absurd hk (by omega)
abbrev vCl : List vw_C := [(R_BF, F_BF, 4), (R_TB, F_TB, 5), (R_TG, F_TG, 10), (R_GR, F_GR, 12), (R_SM, F_SM, 3), (R_SP, F_SP, 4), (R_TR, F_TR, 3), (R_MD, F_MD, 32)]
abbrev b_BF_init : ByteArray := prog_1_method_1_code
abbrev y_BF_init : MethodName := ⟨"BoostForests", "<init>", "()V"⟩
abbrev b_BF_row : ByteArray := prog_1_method_2_code
abbrev y_BF_row : MethodName := ⟨"BoostForests", "row", "(IIIIII)I"⟩
abbrev b_BF_hold : ByteArray := prog_1_method_3_code
abbrev y_BF_hold : MethodName := ⟨"BoostForests", "hold", "(II)I"⟩
abbrev b_BF_set : ByteArray := prog_1_method_4_code
abbrev y_BF_set : MethodName := ⟨"BoostForests", "set", "(II)I"⟩
abbrev b_BF_clear : ByteArray := prog_1_method_5_code
abbrev y_BF_clear : MethodName := ⟨"BoostForests", "clear", "()I"⟩
abbrev b_BF_train : ByteArray := prog_1_method_6_code
abbrev y_BF_train : MethodName := ⟨"BoostForests", "train", "()I"⟩
abbrev b_BF_node : ByteArray := prog_1_method_7_code
abbrev y_BF_node : MethodName := ⟨"BoostForests", "node", "(III)I"⟩
abbrev b_BF_sum : ByteArray := prog_1_method_8_code
abbrev y_BF_sum : MethodName := ⟨"BoostForests", "sum", "(III)J"⟩
abbrev b_BF_size : ByteArray := prog_1_method_9_code
abbrev y_BF_size : MethodName := ⟨"BoostForests", "size", "(I)I"⟩
abbrev b_BF_leaf : ByteArray := prog_1_method_10_code
abbrev y_BF_leaf : MethodName := ⟨"BoostForests", "leaf", "(IIIII)I"⟩
abbrev b_BF_answer : ByteArray := prog_1_method_11_code
abbrev y_BF_answer : MethodName := ⟨"BoostForests", "answer", "(IIIII)J"⟩
abbrev b_BF_loss : ByteArray := prog_1_method_12_code
abbrev y_BF_loss : MethodName := ⟨"BoostForests", "loss", "(II)J"⟩
abbrev b_BF_best : ByteArray := prog_1_method_13_code
abbrev y_BF_best : MethodName := ⟨"BoostForests", "best", "()I"⟩
abbrev b_BF_without : ByteArray := prog_1_method_14_code
abbrev y_BF_without : MethodName := ⟨"BoostForests", "without", "(I)J"⟩
abbrev b_BF_took : ByteArray := prog_1_method_15_code
abbrev y_BF_took : MethodName := ⟨"BoostForests", "took", "(I)I"⟩
abbrev b_BF_gain : ByteArray := prog_1_method_16_code
abbrev y_BF_gain : MethodName := ⟨"BoostForests", "gain", "(I)J"⟩
abbrev b_BF_told : ByteArray := prog_1_method_17_code
abbrev y_BF_told : MethodName := ⟨"BoostForests", "told", "(IIIII)J"⟩
abbrev b_BF_share : ByteArray := prog_1_method_18_code
abbrev y_BF_share : MethodName := ⟨"BoostForests", "share", "(IIIII)J"⟩
abbrev b_BF_count : ByteArray := prog_1_method_19_code
abbrev y_BF_count : MethodName := ⟨"BoostForests", "count", "(I)I"⟩
abbrev b_BF_isNode : ByteArray := prog_1_method_20_code
abbrev y_BF_isNode : MethodName := ⟨"BoostForests", "isNode", "(II)Z"⟩
abbrev b_BF_isTrainedRow : ByteArray := prog_1_method_21_code
abbrev y_BF_isTrainedRow : MethodName := ⟨"BoostForests", "isTrainedRow", "(I)Z"⟩
abbrev b_BF_keepAsked : ByteArray := prog_1_method_22_code
abbrev y_BF_keepAsked : MethodName := ⟨"BoostForests", "keepAsked", "(IIII)V"⟩
abbrev b_BF_areCells : ByteArray := prog_1_method_23_code
abbrev y_BF_areCells : MethodName := ⟨"BoostForests", "areCells", "(IIII)Z"⟩
abbrev b_BF_isIndex : ByteArray := prog_1_method_24_code
abbrev y_BF_isIndex : MethodName := ⟨"BoostForests", "isIndex", "(II)Z"⟩
abbrev b_BF_isWithin : ByteArray := prog_1_method_25_code
abbrev y_BF_isWithin : MethodName := ⟨"BoostForests", "isWithin", "(III)Z"⟩
abbrev b_MD_init : ByteArray := prog_9_method_1_code
abbrev y_MD_init : MethodName := ⟨"BoostForestsModel", "<init>", "()V"⟩
abbrev b_MD_isNumber : ByteArray := prog_9_method_2_code
abbrev y_MD_isNumber : MethodName := ⟨"BoostForestsModel", "isNumber", "(I)Z"⟩
abbrev b_MD_areNumbers : ByteArray := prog_9_method_3_code
abbrev y_MD_areNumbers : MethodName := ⟨"BoostForestsModel", "areNumbers", "(IIII)Z"⟩
abbrev b_MD_number : ByteArray := prog_9_method_4_code
abbrev y_MD_number : MethodName := ⟨"BoostForestsModel", "number", "(IIIII)I"⟩
abbrev b_MD_row : ByteArray := prog_9_method_5_code
abbrev y_MD_row : MethodName := ⟨"BoostForestsModel", "row", "(IIIIII)I"⟩
abbrev b_MD_hold : ByteArray := prog_9_method_6_code
abbrev y_MD_hold : MethodName := ⟨"BoostForestsModel", "hold", "(II)I"⟩
abbrev b_MD_isSetting : ByteArray := prog_9_method_7_code
abbrev y_MD_isSetting : MethodName := ⟨"BoostForestsModel", "isSetting", "(II)Z"⟩
abbrev b_MD_set : ByteArray := prog_9_method_8_code
abbrev y_MD_set : MethodName := ⟨"BoostForestsModel", "set", "(II)I"⟩
abbrev b_MD_clear : ByteArray := prog_9_method_9_code
abbrev y_MD_clear : MethodName := ⟨"BoostForestsModel", "clear", "()I"⟩
abbrev b_MD_drawn : ByteArray := prog_9_method_10_code
abbrev y_MD_drawn : MethodName := ⟨"BoostForestsModel", "drawn", "(I)I"⟩
abbrev b_MD_train : ByteArray := prog_9_method_11_code
abbrev y_MD_train : MethodName := ⟨"BoostForestsModel", "train", "()I"⟩
abbrev b_MD_keepLosses : ByteArray := prog_9_method_12_code
abbrev y_MD_keepLosses : MethodName := ⟨"BoostForestsModel", "keepLosses", "()V"⟩
abbrev b_MD_valueOf : ByteArray := prog_9_method_13_code
abbrev y_MD_valueOf : MethodName := ⟨"BoostForestsModel", "valueOf", "(JI)J"⟩
abbrev b_MD_worthOf : ByteArray := prog_9_method_14_code
abbrev y_MD_worthOf : MethodName := ⟨"BoostForestsModel", "worthOf", "(JI)J"⟩
abbrev b_MD_goesLeft : ByteArray := prog_9_method_15_code
abbrev y_MD_goesLeft : MethodName := ⟨"BoostForestsModel", "goesLeft", "(III)Z"⟩
abbrev b_MD_sumUp : ByteArray := prog_9_method_16_code
abbrev y_MD_sumUp : MethodName := ⟨"BoostForestsModel", "sumUp", "(IIIIZ)V"⟩
abbrev b_MD_makeTree : ByteArray := prog_9_method_17_code
abbrev y_MD_makeTree : MethodName := ⟨"BoostForestsModel", "makeTree", "(I)V"⟩
abbrev b_MD_layNode : ByteArray := prog_9_method_18_code
abbrev y_MD_layNode : MethodName := ⟨"BoostForestsModel", "layNode", "(III)V"⟩
abbrev b_MD_isCut : ByteArray := prog_9_method_19_code
abbrev y_MD_isCut : MethodName := ⟨"BoostForestsModel", "isCut", "(III)Z"⟩
abbrev b_MD_split : ByteArray := prog_9_method_20_code
abbrev y_MD_split : MethodName := ⟨"BoostForestsModel", "split", "(II)V"⟩
abbrev b_MD_difference : ByteArray := prog_9_method_21_code
abbrev y_MD_difference : MethodName := ⟨"BoostForestsModel", "difference", "(IIIII)J"⟩
abbrev b_MD_leafOf : ByteArray := prog_9_method_22_code
abbrev y_MD_leafOf : MethodName := ⟨"BoostForestsModel", "leafOf", "(IIIII)I"⟩
abbrev b_MD_addOf : ByteArray := prog_9_method_23_code
abbrev y_MD_addOf : MethodName := ⟨"BoostForestsModel", "addOf", "(II)J"⟩
abbrev b_MD_isTree : ByteArray := prog_9_method_24_code
abbrev y_MD_isTree : MethodName := ⟨"BoostForestsModel", "isTree", "(I)Z"⟩
abbrev b_MD_isNode : ByteArray := prog_9_method_25_code
abbrev y_MD_isNode : MethodName := ⟨"BoostForestsModel", "isNode", "(II)Z"⟩
abbrev b_MD_node : ByteArray := prog_9_method_26_code
abbrev y_MD_node : MethodName := ⟨"BoostForestsModel", "node", "(III)I"⟩
abbrev b_MD_sum : ByteArray := prog_9_method_27_code
abbrev y_MD_sum : MethodName := ⟨"BoostForestsModel", "sum", "(III)J"⟩
abbrev b_MD_size : ByteArray := prog_9_method_28_code
abbrev y_MD_size : MethodName := ⟨"BoostForestsModel", "size", "(I)I"⟩
abbrev b_MD_leaf : ByteArray := prog_9_method_29_code
abbrev y_MD_leaf : MethodName := ⟨"BoostForestsModel", "leaf", "(IIIII)I"⟩
abbrev b_MD_answer : ByteArray := prog_9_method_30_code
abbrev y_MD_answer : MethodName := ⟨"BoostForestsModel", "answer", "(IIIII)J"⟩
abbrev b_MD_loss : ByteArray := prog_9_method_31_code
abbrev y_MD_loss : MethodName := ⟨"BoostForestsModel", "loss", "(II)J"⟩
abbrev b_MD_best : ByteArray := prog_9_method_32_code
abbrev y_MD_best : MethodName := ⟨"BoostForestsModel", "best", "()I"⟩
abbrev b_MD_without : ByteArray := prog_9_method_33_code
abbrev y_MD_without : MethodName := ⟨"BoostForestsModel", "without", "(I)J"⟩
abbrev b_MD_took : ByteArray := prog_9_method_34_code
abbrev y_MD_took : MethodName := ⟨"BoostForestsModel", "took", "(I)I"⟩
abbrev b_MD_gain : ByteArray := prog_9_method_35_code
abbrev y_MD_gain : MethodName := ⟨"BoostForestsModel", "gain", "(I)J"⟩
abbrev b_MD_downward : ByteArray := prog_9_method_36_code
abbrev y_MD_downward : MethodName := ⟨"BoostForestsModel", "downward", "(JJ)J"⟩
abbrev b_MD_tellOf : ByteArray := prog_9_method_37_code
abbrev y_MD_tellOf : MethodName := ⟨"BoostForestsModel", "tellOf", "(IIIIII)J"⟩
abbrev b_MD_allTell : ByteArray := prog_9_method_38_code
abbrev y_MD_allTell : MethodName := ⟨"BoostForestsModel", "allTell", "(IIIII)J"⟩
abbrev b_MD_told : ByteArray := prog_9_method_39_code
abbrev y_MD_told : MethodName := ⟨"BoostForestsModel", "told", "(IIIII)J"⟩
abbrev b_MD_share : ByteArray := prog_9_method_40_code
abbrev y_MD_share : MethodName := ⟨"BoostForestsModel", "share", "(IIIII)J"⟩
abbrev b_MD_count : ByteArray := prog_9_method_41_code
abbrev y_MD_count : MethodName := ⟨"BoostForestsModel", "count", "(I)I"⟩
abbrev b_GR_init : ByteArray := prog_2_method_1_code
abbrev y_GR_init : MethodName := ⟨"BoostForests$Grower", "<init>", "()V"⟩
abbrev b_GR_sortRows : ByteArray := prog_2_method_2_code
abbrev y_GR_sortRows : MethodName := ⟨"BoostForests$Grower", "sortRows", "()V"⟩
abbrev b_GR_growTree : ByteArray := prog_2_method_3_code
abbrev y_GR_growTree : MethodName := ⟨"BoostForests$Grower", "growTree", "(LBoostForests$Tree;I[J)V"⟩
abbrev b_GR_hasDrawn : ByteArray := prog_2_method_4_code
abbrev y_GR_hasDrawn : MethodName := ⟨"BoostForests$Grower", "hasDrawn", "(I)Z"⟩
abbrev b_GR_drawRows : ByteArray := prog_2_method_5_code
abbrev y_GR_drawRows : MethodName := ⟨"BoostForests$Grower", "drawRows", "(I[J)V"⟩
abbrev b_GR_gatherNode : ByteArray := prog_2_method_6_code
abbrev y_GR_gatherNode : MethodName := ⟨"BoostForests$Grower", "gatherNode", "(I)V"⟩
abbrev b_GR_moveRows : ByteArray := prog_2_method_7_code
abbrev y_GR_moveRows : MethodName := ⟨"BoostForests$Grower", "moveRows", "(LBoostForests$Tree;I)V"⟩
abbrev b_GR_findSplit : ByteArray := prog_2_method_8_code
abbrev y_GR_findSplit : MethodName := ⟨"BoostForests$Grower", "findSplit", "(II)V"⟩
abbrev b_GR_tryColumn : ByteArray := prog_2_method_9_code
abbrev y_GR_tryColumn : MethodName := ⟨"BoostForests$Grower", "tryColumn", "(II)V"⟩
abbrev b_GR_trySplit : ByteArray := prog_2_method_10_code
abbrev y_GR_trySplit : MethodName := ⟨"BoostForests$Grower", "trySplit", "(III)V"⟩
abbrev b_GR_keepsSign : ByteArray := prog_2_method_11_code
abbrev y_GR_keepsSign : MethodName := ⟨"BoostForests$Grower", "keepsSign", "(IJJ)Z"⟩
abbrev b_GR_drawn : ByteArray := prog_2_method_12_code
abbrev y_GR_drawn : MethodName := ⟨"BoostForests$Grower", "drawn", "(I)I"⟩
abbrev b_SP_init : ByteArray := prog_3_method_1_code
abbrev y_SP_init : MethodName := ⟨"BoostForests$Split", "<init>", "()V"⟩
abbrev b_SP_forget : ByteArray := prog_3_method_2_code
abbrev y_SP_forget : MethodName := ⟨"BoostForests$Split", "forget", "(J)V"⟩
abbrev b_SP_become : ByteArray := prog_3_method_3_code
abbrev y_SP_become : MethodName := ⟨"BoostForests$Split", "become", "(IIIJ)V"⟩
abbrev b_SM_init : ByteArray := prog_4_method_1_code
abbrev y_SM_init : MethodName := ⟨"BoostForests$Sums", "<init>", "()V"⟩
abbrev b_SM_empty : ByteArray := prog_4_method_2_code
abbrev y_SM_empty : MethodName := ⟨"BoostForests$Sums", "empty", "()V"⟩
abbrev b_SM_addRow : ByteArray := prog_4_method_3_code
abbrev y_SM_addRow : MethodName := ⟨"BoostForests$Sums", "addRow", "(JI)V"⟩
abbrev b_SM_becomeSum : ByteArray := prog_4_method_4_code
abbrev y_SM_becomeSum : MethodName := ⟨"BoostForests$Sums", "becomeSum", "(LBoostForests$Sums;LBoostForests$Sums;)V"⟩
abbrev b_SM_becomeRest : ByteArray := prog_4_method_5_code
abbrev y_SM_becomeRest : MethodName := ⟨"BoostForests$Sums", "becomeRest", "(LBoostForests$Sums;LBoostForests$Sums;)V"⟩
abbrev b_SM_valueWith : ByteArray := prog_4_method_6_code
abbrev y_SM_valueWith : MethodName := ⟨"BoostForests$Sums", "valueWith", "(I)J"⟩
abbrev b_SM_worthWith : ByteArray := prog_4_method_7_code
abbrev y_SM_worthWith : MethodName := ⟨"BoostForests$Sums", "worthWith", "(I)J"⟩
abbrev b_TB_init : ByteArray := prog_5_method_1_code
abbrev y_TB_init : MethodName := ⟨"BoostForests$Table", "<init>", "()V"⟩
abbrev b_TB_append : ByteArray := prog_5_method_2_code
abbrev y_TB_append : MethodName := ⟨"BoostForests$Table", "append", "([III)I"⟩
abbrev b_TB_heldRows : ByteArray := prog_5_method_3_code
abbrev y_TB_heldRows : MethodName := ⟨"BoostForests$Table", "heldRows", "()I"⟩
abbrev b_TB_copyFrom : ByteArray := prog_5_method_4_code
abbrev y_TB_copyFrom : MethodName := ⟨"BoostForests$Table", "copyFrom", "(LBoostForests$Table;)V"⟩
abbrev b_TG_init : ByteArray := prog_6_method_1_code
abbrev y_TG_init : MethodName := ⟨"BoostForests$Training", "<init>", "()V"⟩
abbrev b_TG_run : ByteArray := prog_6_method_2_code
abbrev y_TG_run : MethodName := ⟨"BoostForests$Training", "run", "(LBoostForests$Table;[I)V"⟩
abbrev b_TG_begin : ByteArray := prog_6_method_3_code
abbrev y_TG_begin : MethodName := ⟨"BoostForests$Training", "begin", "()V"⟩
abbrev b_TG_addTree : ByteArray := prog_6_method_4_code
abbrev y_TG_addTree : MethodName := ⟨"BoostForests$Training", "addTree", "(I)V"⟩
abbrev b_TG_keepLosses : ByteArray := prog_6_method_5_code
abbrev y_TG_keepLosses : MethodName := ⟨"BoostForests$Training", "keepLosses", "()V"⟩
abbrev b_TG_treesOfLeastLoss : ByteArray := prog_6_method_6_code
abbrev y_TG_treesOfLeastLoss : MethodName := ⟨"BoostForests$Training", "treesOfLeastLoss", "()I"⟩
abbrev b_TG_answerBy : ByteArray := prog_6_method_7_code
abbrev y_TG_answerBy : MethodName := ⟨"BoostForests$Training", "answerBy", "(I[I)J"⟩
abbrev b_TG_leftOut : ByteArray := prog_6_method_8_code
abbrev y_TG_leftOut : MethodName := ⟨"BoostForests$Training", "leftOut", "(I)J"⟩
abbrev b_TG_gainBy : ByteArray := prog_6_method_9_code
abbrev y_TG_gainBy : MethodName := ⟨"BoostForests$Training", "gainBy", "(I)J"⟩
abbrev b_TG_tellAll : ByteArray := prog_6_method_10_code
abbrev y_TG_tellAll : MethodName := ⟨"BoostForests$Training", "tellAll", "(I[I)J"⟩
abbrev b_TG_fairShare : ByteArray := prog_6_method_11_code
abbrev y_TG_fairShare : MethodName := ⟨"BoostForests$Training", "fairShare", "(I[I)J"⟩
abbrev b_TG_tellTree : ByteArray := prog_6_method_12_code
abbrev y_TG_tellTree : MethodName := ⟨"BoostForests$Training", "tellTree", "(LBoostForests$Tree;I[I)J"⟩
abbrev b_TG_tellBoth : ByteArray := prog_6_method_13_code
abbrev y_TG_tellBoth : MethodName := ⟨"BoostForests$Training", "tellBoth", "(LBoostForests$Tree;I)J"⟩
abbrev b_TG_addOf : ByteArray := prog_6_method_14_code
abbrev y_TG_addOf : MethodName := ⟨"BoostForests$Training", "addOf", "(LBoostForests$Tree;[I)J"⟩
abbrev b_TG_shrunk : ByteArray := prog_6_method_15_code
abbrev y_TG_shrunk : MethodName := ⟨"BoostForests$Training", "shrunk", "(J)J"⟩
abbrev b_TG_baseUnits : ByteArray := prog_6_method_16_code
abbrev y_TG_baseUnits : MethodName := ⟨"BoostForests$Training", "baseUnits", "()J"⟩
abbrev b_TR_init : ByteArray := prog_7_method_1_code
abbrev y_TR_init : MethodName := ⟨"BoostForests$Tree", "<init>", "()V"⟩
abbrev b_TR_appendNode : ByteArray := prog_7_method_2_code
abbrev y_TR_appendNode : MethodName := ⟨"BoostForests$Tree", "appendNode", "(I)V"⟩
abbrev b_TR_keepSums : ByteArray := prog_7_method_3_code
abbrev y_TR_keepSums : MethodName := ⟨"BoostForests$Tree", "keepSums", "(ILBoostForests$Sums;I)V"⟩
abbrev b_TR_mayDivide : ByteArray := prog_7_method_4_code
abbrev y_TR_mayDivide : MethodName := ⟨"BoostForests$Tree", "mayDivide", "(II)Z"⟩
abbrev b_TR_divide : ByteArray := prog_7_method_5_code
abbrev y_TR_divide : MethodName := ⟨"BoostForests$Tree", "divide", "(ILBoostForests$Split;)V"⟩
abbrev b_TR_stepFrom : ByteArray := prog_7_method_6_code
abbrev y_TR_stepFrom : MethodName := ⟨"BoostForests$Tree", "stepFrom", "(I[I)I"⟩
abbrev b_TR_leafOf : ByteArray := prog_7_method_7_code
abbrev y_TR_leafOf : MethodName := ⟨"BoostForests$Tree", "leafOf", "([I)I"⟩
abbrev b_JO_init : ByteArray := object_method_1_code
abbrev y_JO_init : MethodName := ⟨"java/lang/Object", "<init>", "()V"⟩
abbrev b_JI_bitCount : ByteArray := prog_11_method_49_code
abbrev y_JI_bitCount : MethodName := ⟨"java/lang/Integer", "bitCount", "(I)I"⟩
abbrev b_JM_floorDiv : ByteArray := prog_12_method_49_code
abbrev y_JM_floorDiv : MethodName := ⟨"java/lang/Math", "floorDiv", "(JJ)J"⟩
abbrev b_JM_min : ByteArray := prog_12_method_70_code
abbrev y_JM_min : MethodName := ⟨"java/lang/Math", "min", "(JJ)J"⟩
theorem kw_1_0 : (Jvm.Cond.initialized "BoostForestsLaw") ∈ gw_tbl := List.mem_filter.mpr ⟨kt_1 _ (List.mem_of_getElem? (i := 0) rfl), rfl⟩
theorem kw_1_1 : (Jvm.Cond.initialized "BoostForests") ∈ gw_tbl := List.mem_filter.mpr ⟨kt_1 _ (List.mem_of_getElem? (i := 1) rfl), rfl⟩
theorem kw_1_2 : (Jvm.Cond.initialized "BoostForests$Table") ∈ gw_tbl := List.mem_filter.mpr ⟨kt_1 _ (List.mem_of_getElem? (i := 2) rfl), rfl⟩
theorem kw_1_3 : (Jvm.Cond.initialized "BoostForests$Training") ∈ gw_tbl := List.mem_filter.mpr ⟨kt_1 _ (List.mem_of_getElem? (i := 3) rfl), rfl⟩
theorem kw_1_4 : (Jvm.Cond.initialized "BoostForests$Grower") ∈ gw_tbl := List.mem_filter.mpr ⟨kt_1 _ (List.mem_of_getElem? (i := 4) rfl), rfl⟩
theorem kw_1_5 : (Jvm.Cond.initialized "BoostForests$Sums") ∈ gw_tbl := List.mem_filter.mpr ⟨kt_1 _ (List.mem_of_getElem? (i := 5) rfl), rfl⟩
theorem kw_1_6 : (Jvm.Cond.initialized "BoostForests$Split") ∈ gw_tbl := List.mem_filter.mpr ⟨kt_1 _ (List.mem_of_getElem? (i := 6) rfl), rfl⟩
theorem kw_1_7 : (Jvm.Cond.initialized "BoostForests$Tree") ∈ gw_tbl := List.mem_filter.mpr ⟨kt_1 _ (List.mem_of_getElem? (i := 7) rfl), rfl⟩
theorem kw_1_8 : (Jvm.Cond.initialized "BoostForestsModel") ∈ gw_tbl := List.mem_filter.mpr ⟨kt_1 _ (List.mem_of_getElem? (i := 8) rfl), rfl⟩
theorem kw_1_9 : (Jvm.Cond.initialized "java/lang/System") ∈ gw_tbl := List.mem_filter.mpr ⟨kt_1 _ (List.mem_of_getElem? (i := 9) rfl), rfl⟩
theorem kw_1_10 : (Jvm.Cond.initialized "java/lang/Math") ∈ gw_tbl := List.mem_filter.mpr ⟨kt_1 _ (List.mem_of_getElem? (i := 10) rfl), rfl⟩
theorem kw_1_11 : (Jvm.Cond.initialized "java/lang/Integer") ∈ gw_tbl := List.mem_filter.mpr ⟨kt_1 _ (List.mem_of_getElem? (i := 11) rfl), rfl⟩
theorem kw_1_12 : (Jvm.Cond.classLink "BoostForestsLaw" (7 : Nat) "BoostForests") ∈ gw_tbl := List.mem_filter.mpr ⟨kt_1 _ (List.mem_of_getElem? (i := 12) rfl), rfl⟩
theorem kw_1_13 : (Jvm.Cond.instantiable "BoostForests" (4 : Nat)) ∈ gw_tbl := List.mem_filter.mpr ⟨kt_1 _ (List.mem_of_getElem? (i := 13) rfl), rfl⟩
theorem kw_1_14 : (Jvm.Cond.methodLink "BoostForestsLaw" (9 : Nat) ({ cls := "BoostForests", name := "<init>", desc := "()V" } : Jvm.MethodName)) ∈ gw_tbl := List.mem_filter.mpr ⟨kt_1 _ (List.mem_of_getElem? (i := 14) rfl), rfl⟩
theorem kw_1_15 : (Jvm.Cond.instanceMethod ({ cls := "BoostForests", name := "<init>", desc := "()V" } : Jvm.MethodName)) ∈ gw_tbl := List.mem_filter.mpr ⟨kt_1 _ (List.mem_of_getElem? (i := 15) rfl), rfl⟩
theorem kw_1_16 : (Jvm.Cond.code ({ cls := "BoostForests", name := "<init>", desc := "()V" } : Jvm.MethodName) prog_1_method_1_code (1 : Nat) (Option.none : Option Jvm.ClassFile.FieldType)) ∈ gw_tbl := List.mem_filter.mpr ⟨kt_1 _ (List.mem_of_getElem? (i := 16) rfl), rfl⟩
theorem kw_1_17 : (Jvm.Cond.methodLink "BoostForests" (1 : Nat) ({ cls := "java/lang/Object", name := "<init>", desc := "()V" } : Jvm.MethodName)) ∈ gw_tbl := List.mem_filter.mpr ⟨kt_1 _ (List.mem_of_getElem? (i := 17) rfl), rfl⟩
theorem kw_1_18 : (Jvm.Cond.instanceMethod ({ cls := "java/lang/Object", name := "<init>", desc := "()V" } : Jvm.MethodName)) ∈ gw_tbl := List.mem_filter.mpr ⟨kt_1 _ (List.mem_of_getElem? (i := 18) rfl), rfl⟩
theorem kw_1_19 : (Jvm.Cond.code ({ cls := "java/lang/Object", name := "<init>", desc := "()V" } : Jvm.MethodName) object_method_1_code (1 : Nat) (Option.none : Option Jvm.ClassFile.FieldType)) ∈ gw_tbl := List.mem_filter.mpr ⟨kt_1 _ (List.mem_of_getElem? (i := 19) rfl), rfl⟩
theorem kw_1_20 : (Jvm.Cond.classLink "BoostForests" (7 : Nat) "BoostForests$Table") ∈ gw_tbl := List.mem_filter.mpr ⟨kt_1 _ (List.mem_of_getElem? (i := 20) rfl), rfl⟩
theorem kw_1_21 : (Jvm.Cond.instantiable "BoostForests$Table" (5 : Nat)) ∈ gw_tbl := List.mem_filter.mpr ⟨kt_1 _ (List.mem_of_getElem? (i := 21) rfl), rfl⟩
theorem kl_1_22 : (Jvm.Cond.methodLinkNest "BoostForests" (9 : Nat) ({ cls := "BoostForests$Table", name := "<init>", desc := "()V" } : Jvm.MethodName) "BoostForests") ∈ lw_tbl := kt_1 _ (List.mem_of_getElem? (i := 22) rfl)
theorem kw_1_23 : (Jvm.Cond.instanceMethod ({ cls := "BoostForests$Table", name := "<init>", desc := "()V" } : Jvm.MethodName)) ∈ gw_tbl := List.mem_filter.mpr ⟨kt_1 _ (List.mem_of_getElem? (i := 23) rfl), rfl⟩
theorem kw_1_24 : (Jvm.Cond.code ({ cls := "BoostForests$Table", name := "<init>", desc := "()V" } : Jvm.MethodName) prog_5_method_1_code (1 : Nat) (Option.none : Option Jvm.ClassFile.FieldType)) ∈ gw_tbl := List.mem_filter.mpr ⟨kt_1 _ (List.mem_of_getElem? (i := 24) rfl), rfl⟩
theorem kw_1_25 : (Jvm.Cond.methodLink "BoostForests$Table" (3 : Nat) ({ cls := "java/lang/Object", name := "<init>", desc := "()V" } : Jvm.MethodName)) ∈ gw_tbl := List.mem_filter.mpr ⟨kt_1 _ (List.mem_of_getElem? (i := 25) rfl), rfl⟩
theorem kw_1_26 : (Jvm.Cond.classLink "BoostForests$Table" (9 : Nat) "[[I") ∈ gw_tbl := List.mem_filter.mpr ⟨kt_1 _ (List.mem_of_getElem? (i := 26) rfl), rfl⟩
theorem kl_1_27 : (Jvm.Cond.arrayOver (Jvm.ClassFile.FieldType.array Jvm.ClassFile.FieldType.int)) ∈ lw_tbl := kt_1 _ (List.mem_of_getElem? (i := 27) rfl)
theorem kw_1_28 : (Jvm.Cond.fieldLink "BoostForests$Table" (11 : Nat) "BoostForests$Table" "cells" "[[I") ∈ gw_tbl := List.mem_filter.mpr ⟨kt_1 _ (List.mem_of_getElem? (i := 28) rfl), rfl⟩
theorem kw_1_29 : (Jvm.Cond.fieldLink "BoostForests$Grower" (67 : Nat) "BoostForests$Table" "cells" "[[I") ∈ gw_tbl := List.mem_filter.mpr ⟨kt_1 _ (List.mem_of_getElem? (i := 29) rfl), rfl⟩
theorem kw_1_30 : (Jvm.Cond.fieldLink "BoostForests$Training" (104 : Nat) "BoostForests$Table" "cells" "[[I") ∈ gw_tbl := List.mem_filter.mpr ⟨kt_1 _ (List.mem_of_getElem? (i := 30) rfl), rfl⟩
theorem kw_1_31 : (Jvm.Cond.fieldLink "BoostForests$Table" (16 : Nat) "BoostForests$Table" "aims" "[I") ∈ gw_tbl := List.mem_filter.mpr ⟨kt_1 _ (List.mem_of_getElem? (i := 31) rfl), rfl⟩
theorem kw_1_32 : (Jvm.Cond.fieldLink "BoostForests$Training" (116 : Nat) "BoostForests$Table" "aims" "[I") ∈ gw_tbl := List.mem_filter.mpr ⟨kt_1 _ (List.mem_of_getElem? (i := 32) rfl), rfl⟩
theorem kw_1_33 : (Jvm.Cond.fieldLink "BoostForests$Grower" (120 : Nat) "BoostForests$Table" "aims" "[I") ∈ gw_tbl := List.mem_filter.mpr ⟨kt_1 _ (List.mem_of_getElem? (i := 33) rfl), rfl⟩
theorem kw_1_34 : (Jvm.Cond.fieldLink "BoostForests$Table" (20 : Nat) "BoostForests$Table" "weights" "[I") ∈ gw_tbl := List.mem_filter.mpr ⟨kt_1 _ (List.mem_of_getElem? (i := 34) rfl), rfl⟩
theorem kw_1_35 : (Jvm.Cond.fieldLink "BoostForests$Grower" (117 : Nat) "BoostForests$Table" "weights" "[I") ∈ gw_tbl := List.mem_filter.mpr ⟨kt_1 _ (List.mem_of_getElem? (i := 35) rfl), rfl⟩
theorem kw_1_36 : (Jvm.Cond.fieldLink "BoostForests$Training" (123 : Nat) "BoostForests$Table" "weights" "[I") ∈ gw_tbl := List.mem_filter.mpr ⟨kt_1 _ (List.mem_of_getElem? (i := 36) rfl), rfl⟩
theorem kw_1_37 : (Jvm.Cond.fieldLink "BoostForests$Table" (23 : Nat) "BoostForests$Table" "held" "[Z") ∈ gw_tbl := List.mem_filter.mpr ⟨kt_1 _ (List.mem_of_getElem? (i := 37) rfl), rfl⟩
theorem kw_1_38 : (Jvm.Cond.fieldLink "BoostForests" (62 : Nat) "BoostForests$Table" "held" "[Z") ∈ gw_tbl := List.mem_filter.mpr ⟨kt_1 _ (List.mem_of_getElem? (i := 38) rfl), rfl⟩
theorem kw_1_39 : (Jvm.Cond.fieldLink "BoostForests$Grower" (109 : Nat) "BoostForests$Table" "held" "[Z") ∈ gw_tbl := List.mem_filter.mpr ⟨kt_1 _ (List.mem_of_getElem? (i := 39) rfl), rfl⟩
theorem kw_1_40 : (Jvm.Cond.fieldLink "BoostForests$Training" (119 : Nat) "BoostForests$Table" "held" "[Z") ∈ gw_tbl := List.mem_filter.mpr ⟨kt_1 _ (List.mem_of_getElem? (i := 40) rfl), rfl⟩
theorem kw_1_41 : (Jvm.Cond.fieldLink "BoostForests$Table" (27 : Nat) "BoostForests$Table" "number" "I") ∈ gw_tbl := List.mem_filter.mpr ⟨kt_1 _ (List.mem_of_getElem? (i := 41) rfl), rfl⟩
theorem kw_1_42 : (Jvm.Cond.fieldLink "BoostForests$Grower" (63 : Nat) "BoostForests$Table" "number" "I") ∈ gw_tbl := List.mem_filter.mpr ⟨kt_1 _ (List.mem_of_getElem? (i := 42) rfl), rfl⟩
theorem kw_1_43 : (Jvm.Cond.fieldLink "BoostForests" (54 : Nat) "BoostForests$Table" "number" "I") ∈ gw_tbl := List.mem_filter.mpr ⟨kt_1 _ (List.mem_of_getElem? (i := 43) rfl), rfl⟩
theorem kw_1_44 : (Jvm.Cond.fieldLink "BoostForests$Training" (91 : Nat) "BoostForests$Table" "number" "I") ∈ gw_tbl := List.mem_filter.mpr ⟨kt_1 _ (List.mem_of_getElem? (i := 44) rfl), rfl⟩
theorem kw_1_45 : (Jvm.Cond.laysFinal "BoostForests$Table" "BoostForests$Table" "cells" "[[I") ∈ gw_tbl := List.mem_filter.mpr ⟨kt_1 _ (List.mem_of_getElem? (i := 45) rfl), rfl⟩
theorem kl_1_46 : (Jvm.Cond.soleField "BoostForests$Table" "cells") ∈ lw_tbl := kt_1 _ (List.mem_of_getElem? (i := 46) rfl)
theorem kw_1_47 : (Jvm.Cond.laysFinal "BoostForests$Table" "BoostForests$Table" "aims" "[I") ∈ gw_tbl := List.mem_filter.mpr ⟨kt_1 _ (List.mem_of_getElem? (i := 47) rfl), rfl⟩
theorem kl_1_48 : (Jvm.Cond.soleField "BoostForests$Table" "aims") ∈ lw_tbl := kt_1 _ (List.mem_of_getElem? (i := 48) rfl)
theorem kw_1_49 : (Jvm.Cond.laysFinal "BoostForests$Table" "BoostForests$Table" "weights" "[I") ∈ gw_tbl := List.mem_filter.mpr ⟨kt_1 _ (List.mem_of_getElem? (i := 49) rfl), rfl⟩
theorem kl_1_50 : (Jvm.Cond.soleField "BoostForests$Table" "weights") ∈ lw_tbl := kt_1 _ (List.mem_of_getElem? (i := 50) rfl)
theorem kw_1_51 : (Jvm.Cond.laysFinal "BoostForests$Table" "BoostForests$Table" "held" "[Z") ∈ gw_tbl := List.mem_filter.mpr ⟨kt_1 _ (List.mem_of_getElem? (i := 51) rfl), rfl⟩
theorem kl_1_52 : (Jvm.Cond.soleField "BoostForests$Table" "held") ∈ lw_tbl := kt_1 _ (List.mem_of_getElem? (i := 52) rfl)
theorem kw_1_53 : (Jvm.Cond.lays "BoostForests$Table" "BoostForests$Table" "number" "I") ∈ gw_tbl := List.mem_filter.mpr ⟨kt_1 _ (List.mem_of_getElem? (i := 53) rfl), rfl⟩
theorem kl_1_54 : (Jvm.Cond.soleField "BoostForests$Table" "number") ∈ lw_tbl := kt_1 _ (List.mem_of_getElem? (i := 54) rfl)
theorem kl_1_55 : (Jvm.Cond.superclass "BoostForests$Table" "java/lang/Object") ∈ lw_tbl := kt_1 _ (List.mem_of_getElem? (i := 55) rfl)
theorem kw_1_56 : (Jvm.Cond.arrayClass Jvm.ClassFile.FieldType.int) ∈ gw_tbl := List.mem_filter.mpr ⟨kt_1 _ (List.mem_of_getElem? (i := 56) rfl), rfl⟩
theorem kw_1_57 : (Jvm.Cond.arrayClass Jvm.ClassFile.FieldType.boolean) ∈ gw_tbl := List.mem_filter.mpr ⟨kt_1 _ (List.mem_of_getElem? (i := 57) rfl), rfl⟩
theorem kw_1_58 : (Jvm.Cond.fieldLink "BoostForests" (16 : Nat) "BoostForests" "AT_FIRST" "[I") ∈ gw_tbl := List.mem_filter.mpr ⟨kt_1 _ (List.mem_of_getElem? (i := 58) rfl), rfl⟩
theorem kl_1_59 : (Jvm.Cond.laysStatic "BoostForests" "AT_FIRST" "[I") ∈ lw_tbl := kt_1 _ (List.mem_of_getElem? (i := 59) rfl)
theorem kw_1_60 : (Jvm.Cond.methodLink "BoostForests" (20 : Nat) ({ cls := "[I", name := "clone", desc := "()Ljava/lang/Object;" } : Jvm.MethodName)) ∈ gw_tbl := List.mem_filter.mpr ⟨kt_1 _ (List.mem_of_getElem? (i := 60) rfl), rfl⟩
theorem kl_1_61 : (Jvm.Cond.sameMethod "[I" "java/lang/Object" "clone" "()Ljava/lang/Object;") ∈ lw_tbl := kt_1 _ (List.mem_of_getElem? (i := 61) rfl)
theorem kw_1_62 : (Jvm.Cond.native ({ cls := "java/lang/Object", name := "clone", desc := "()Ljava/lang/Object;" } : Jvm.MethodName)) ∈ gw_tbl := List.mem_filter.mpr ⟨kt_1 _ (List.mem_of_getElem? (i := 62) rfl), rfl⟩
theorem kw_1_63 : (Jvm.Cond.instanceMethod ({ cls := "java/lang/Object", name := "clone", desc := "()Ljava/lang/Object;" } : Jvm.MethodName)) ∈ gw_tbl := List.mem_filter.mpr ⟨kt_1 _ (List.mem_of_getElem? (i := 63) rfl), rfl⟩
theorem kw_1_64 : (Jvm.Cond.selects "[I" ({ cls := "[I", name := "clone", desc := "()Ljava/lang/Object;" } : Jvm.MethodName) ({ cls := "java/lang/Object", name := "clone", desc := "()Ljava/lang/Object;" } : Jvm.MethodName)) ∈ gw_tbl := List.mem_filter.mpr ⟨kt_1 _ (List.mem_of_getElem? (i := 64) rfl), rfl⟩
theorem kl_1_65 : (Jvm.Cond.castable "[I" "java/lang/Cloneable") ∈ lw_tbl := kt_1 _ (List.mem_of_getElem? (i := 65) rfl)
theorem kw_1_66 : (Jvm.Cond.classLink "BoostForests" (21 : Nat) "[I") ∈ gw_tbl := List.mem_filter.mpr ⟨kt_1 _ (List.mem_of_getElem? (i := 66) rfl), rfl⟩
theorem kw_1_67 : (Jvm.Cond.classLink "BoostForests" (28 : Nat) "BoostForests$Training") ∈ gw_tbl := List.mem_filter.mpr ⟨kt_1 _ (List.mem_of_getElem? (i := 67) rfl), rfl⟩
theorem kw_1_68 : (Jvm.Cond.instantiable "BoostForests$Training" (10 : Nat)) ∈ gw_tbl := List.mem_filter.mpr ⟨kt_1 _ (List.mem_of_getElem? (i := 68) rfl), rfl⟩
theorem kw_1_69 : (Jvm.Cond.methodLink "BoostForests" (30 : Nat) ({ cls := "BoostForests$Training", name := "<init>", desc := "()V" } : Jvm.MethodName)) ∈ gw_tbl := List.mem_filter.mpr ⟨kt_1 _ (List.mem_of_getElem? (i := 69) rfl), rfl⟩
theorem kw_1_70 : (Jvm.Cond.instanceMethod ({ cls := "BoostForests$Training", name := "<init>", desc := "()V" } : Jvm.MethodName)) ∈ gw_tbl := List.mem_filter.mpr ⟨kt_1 _ (List.mem_of_getElem? (i := 70) rfl), rfl⟩
theorem kw_1_71 : (Jvm.Cond.code ({ cls := "BoostForests$Training", name := "<init>", desc := "()V" } : Jvm.MethodName) prog_6_method_1_code (2 : Nat) (Option.none : Option Jvm.ClassFile.FieldType)) ∈ gw_tbl := List.mem_filter.mpr ⟨kt_1 _ (List.mem_of_getElem? (i := 71) rfl), rfl⟩
theorem kw_1_72 : (Jvm.Cond.methodLink "BoostForests$Training" (3 : Nat) ({ cls := "java/lang/Object", name := "<init>", desc := "()V" } : Jvm.MethodName)) ∈ gw_tbl := List.mem_filter.mpr ⟨kt_1 _ (List.mem_of_getElem? (i := 72) rfl), rfl⟩
theorem kw_1_73 : (Jvm.Cond.classLink "BoostForests$Training" (9 : Nat) "BoostForests$Grower") ∈ gw_tbl := List.mem_filter.mpr ⟨kt_1 _ (List.mem_of_getElem? (i := 73) rfl), rfl⟩
theorem kw_1_74 : (Jvm.Cond.instantiable "BoostForests$Grower" (12 : Nat)) ∈ gw_tbl := List.mem_filter.mpr ⟨kt_1 _ (List.mem_of_getElem? (i := 74) rfl), rfl⟩
theorem kl_1_75 : (Jvm.Cond.methodLinkNest "BoostForests$Training" (11 : Nat) ({ cls := "BoostForests$Grower", name := "<init>", desc := "()V" } : Jvm.MethodName) "BoostForests") ∈ lw_tbl := kt_1 _ (List.mem_of_getElem? (i := 75) rfl)
theorem kw_1_76 : (Jvm.Cond.instanceMethod ({ cls := "BoostForests$Grower", name := "<init>", desc := "()V" } : Jvm.MethodName)) ∈ gw_tbl := List.mem_filter.mpr ⟨kt_1 _ (List.mem_of_getElem? (i := 76) rfl), rfl⟩
theorem kw_1_77 : (Jvm.Cond.code ({ cls := "BoostForests$Grower", name := "<init>", desc := "()V" } : Jvm.MethodName) prog_2_method_1_code (1 : Nat) (Option.none : Option Jvm.ClassFile.FieldType)) ∈ gw_tbl := List.mem_filter.mpr ⟨kt_1 _ (List.mem_of_getElem? (i := 77) rfl), rfl⟩
theorem kw_1_78 : (Jvm.Cond.methodLink "BoostForests$Grower" (3 : Nat) ({ cls := "java/lang/Object", name := "<init>", desc := "()V" } : Jvm.MethodName)) ∈ gw_tbl := List.mem_filter.mpr ⟨kt_1 _ (List.mem_of_getElem? (i := 78) rfl), rfl⟩
theorem kw_1_79 : (Jvm.Cond.classLink "BoostForests$Grower" (9 : Nat) "BoostForests$Table") ∈ gw_tbl := List.mem_filter.mpr ⟨kt_1 _ (List.mem_of_getElem? (i := 79) rfl), rfl⟩
theorem kl_1_80 : (Jvm.Cond.methodLinkNest "BoostForests$Grower" (11 : Nat) ({ cls := "BoostForests$Table", name := "<init>", desc := "()V" } : Jvm.MethodName) "BoostForests") ∈ lw_tbl := kt_1 _ (List.mem_of_getElem? (i := 80) rfl)
theorem kw_1_81 : (Jvm.Cond.classLink "BoostForests$Grower" (22 : Nat) "[[I") ∈ gw_tbl := List.mem_filter.mpr ⟨kt_1 _ (List.mem_of_getElem? (i := 81) rfl), rfl⟩
theorem kw_1_82 : (Jvm.Cond.classLink "BoostForests$Grower" (34 : Nat) "BoostForests$Sums") ∈ gw_tbl := List.mem_filter.mpr ⟨kt_1 _ (List.mem_of_getElem? (i := 82) rfl), rfl⟩
theorem kw_1_83 : (Jvm.Cond.instantiable "BoostForests$Sums" (3 : Nat)) ∈ gw_tbl := List.mem_filter.mpr ⟨kt_1 _ (List.mem_of_getElem? (i := 83) rfl), rfl⟩
theorem kl_1_84 : (Jvm.Cond.methodLinkNest "BoostForests$Grower" (36 : Nat) ({ cls := "BoostForests$Sums", name := "<init>", desc := "()V" } : Jvm.MethodName) "BoostForests") ∈ lw_tbl := kt_1 _ (List.mem_of_getElem? (i := 84) rfl)
theorem kw_1_85 : (Jvm.Cond.instanceMethod ({ cls := "BoostForests$Sums", name := "<init>", desc := "()V" } : Jvm.MethodName)) ∈ gw_tbl := List.mem_filter.mpr ⟨kt_1 _ (List.mem_of_getElem? (i := 85) rfl), rfl⟩
theorem kw_1_86 : (Jvm.Cond.code ({ cls := "BoostForests$Sums", name := "<init>", desc := "()V" } : Jvm.MethodName) prog_4_method_1_code (1 : Nat) (Option.none : Option Jvm.ClassFile.FieldType)) ∈ gw_tbl := List.mem_filter.mpr ⟨kt_1 _ (List.mem_of_getElem? (i := 86) rfl), rfl⟩
theorem kw_1_87 : (Jvm.Cond.methodLink "BoostForests$Sums" (1 : Nat) ({ cls := "java/lang/Object", name := "<init>", desc := "()V" } : Jvm.MethodName)) ∈ gw_tbl := List.mem_filter.mpr ⟨kt_1 _ (List.mem_of_getElem? (i := 87) rfl), rfl⟩
theorem kw_1_88 : (Jvm.Cond.fieldLink "BoostForests$Sums" (7 : Nat) "BoostForests$Sums" "rows" "I") ∈ gw_tbl := List.mem_filter.mpr ⟨kt_1 _ (List.mem_of_getElem? (i := 88) rfl), rfl⟩
theorem kw_1_89 : (Jvm.Cond.fieldLink "BoostForests$Tree" (25 : Nat) "BoostForests$Sums" "rows" "I") ∈ gw_tbl := List.mem_filter.mpr ⟨kt_1 _ (List.mem_of_getElem? (i := 89) rfl), rfl⟩
theorem kw_1_90 : (Jvm.Cond.fieldLink "BoostForests$Grower" (146 : Nat) "BoostForests$Sums" "rows" "I") ∈ gw_tbl := List.mem_filter.mpr ⟨kt_1 _ (List.mem_of_getElem? (i := 90) rfl), rfl⟩
theorem kw_1_91 : (Jvm.Cond.fieldLink "BoostForests$Sums" (13 : Nat) "BoostForests$Sums" "h" "I") ∈ gw_tbl := List.mem_filter.mpr ⟨kt_1 _ (List.mem_of_getElem? (i := 91) rfl), rfl⟩
theorem kw_1_92 : (Jvm.Cond.fieldLink "BoostForests$Tree" (30 : Nat) "BoostForests$Sums" "h" "I") ∈ gw_tbl := List.mem_filter.mpr ⟨kt_1 _ (List.mem_of_getElem? (i := 92) rfl), rfl⟩
theorem kw_1_93 : (Jvm.Cond.fieldLink "BoostForests$Sums" (16 : Nat) "BoostForests$Sums" "g" "J") ∈ gw_tbl := List.mem_filter.mpr ⟨kt_1 _ (List.mem_of_getElem? (i := 93) rfl), rfl⟩
theorem kw_1_94 : (Jvm.Cond.fieldLink "BoostForests$Tree" (33 : Nat) "BoostForests$Sums" "g" "J") ∈ gw_tbl := List.mem_filter.mpr ⟨kt_1 _ (List.mem_of_getElem? (i := 94) rfl), rfl⟩
theorem kw_1_95 : (Jvm.Cond.lays "BoostForests$Sums" "BoostForests$Sums" "rows" "I") ∈ gw_tbl := List.mem_filter.mpr ⟨kt_1 _ (List.mem_of_getElem? (i := 95) rfl), rfl⟩
theorem kl_1_96 : (Jvm.Cond.soleField "BoostForests$Sums" "rows") ∈ lw_tbl := kt_1 _ (List.mem_of_getElem? (i := 96) rfl)
theorem kw_1_97 : (Jvm.Cond.lays "BoostForests$Sums" "BoostForests$Sums" "h" "I") ∈ gw_tbl := List.mem_filter.mpr ⟨kt_1 _ (List.mem_of_getElem? (i := 97) rfl), rfl⟩
theorem kl_1_98 : (Jvm.Cond.soleField "BoostForests$Sums" "h") ∈ lw_tbl := kt_1 _ (List.mem_of_getElem? (i := 98) rfl)
theorem kw_1_99 : (Jvm.Cond.lays "BoostForests$Sums" "BoostForests$Sums" "g" "J") ∈ gw_tbl := List.mem_filter.mpr ⟨kt_1 _ (List.mem_of_getElem? (i := 99) rfl), rfl⟩
theorem kl_1_100 : (Jvm.Cond.soleField "BoostForests$Sums" "g") ∈ lw_tbl := kt_1 _ (List.mem_of_getElem? (i := 100) rfl)
theorem kl_1_101 : (Jvm.Cond.superclass "BoostForests$Sums" "java/lang/Object") ∈ lw_tbl := kt_1 _ (List.mem_of_getElem? (i := 101) rfl)
theorem kw_1_102 : (Jvm.Cond.arrayClass Jvm.ClassFile.FieldType.long) ∈ gw_tbl := List.mem_filter.mpr ⟨kt_1 _ (List.mem_of_getElem? (i := 102) rfl), rfl⟩
theorem kw_1_103 : (Jvm.Cond.classLink "BoostForests$Grower" (56 : Nat) "BoostForests$Split") ∈ gw_tbl := List.mem_filter.mpr ⟨kt_1 _ (List.mem_of_getElem? (i := 103) rfl), rfl⟩
theorem kw_1_104 : (Jvm.Cond.instantiable "BoostForests$Split" (4 : Nat)) ∈ gw_tbl := List.mem_filter.mpr ⟨kt_1 _ (List.mem_of_getElem? (i := 104) rfl), rfl⟩
theorem kl_1_105 : (Jvm.Cond.methodLinkNest "BoostForests$Grower" (58 : Nat) ({ cls := "BoostForests$Split", name := "<init>", desc := "()V" } : Jvm.MethodName) "BoostForests") ∈ lw_tbl := kt_1 _ (List.mem_of_getElem? (i := 105) rfl)
theorem kw_1_106 : (Jvm.Cond.instanceMethod ({ cls := "BoostForests$Split", name := "<init>", desc := "()V" } : Jvm.MethodName)) ∈ gw_tbl := List.mem_filter.mpr ⟨kt_1 _ (List.mem_of_getElem? (i := 106) rfl), rfl⟩
theorem kw_1_107 : (Jvm.Cond.code ({ cls := "BoostForests$Split", name := "<init>", desc := "()V" } : Jvm.MethodName) prog_3_method_1_code (1 : Nat) (Option.none : Option Jvm.ClassFile.FieldType)) ∈ gw_tbl := List.mem_filter.mpr ⟨kt_1 _ (List.mem_of_getElem? (i := 107) rfl), rfl⟩
theorem kw_1_108 : (Jvm.Cond.methodLink "BoostForests$Split" (3 : Nat) ({ cls := "java/lang/Object", name := "<init>", desc := "()V" } : Jvm.MethodName)) ∈ gw_tbl := List.mem_filter.mpr ⟨kt_1 _ (List.mem_of_getElem? (i := 108) rfl), rfl⟩
theorem kw_1_109 : (Jvm.Cond.fieldLink "BoostForests$Split" (15 : Nat) "BoostForests$Split" "column" "I") ∈ gw_tbl := List.mem_filter.mpr ⟨kt_1 _ (List.mem_of_getElem? (i := 109) rfl), rfl⟩
theorem kw_1_110 : (Jvm.Cond.fieldLink "BoostForests$Grower" (98 : Nat) "BoostForests$Split" "column" "I") ∈ gw_tbl := List.mem_filter.mpr ⟨kt_1 _ (List.mem_of_getElem? (i := 110) rfl), rfl⟩
theorem kw_1_111 : (Jvm.Cond.fieldLink "BoostForests$Tree" (41 : Nat) "BoostForests$Split" "column" "I") ∈ gw_tbl := List.mem_filter.mpr ⟨kt_1 _ (List.mem_of_getElem? (i := 111) rfl), rfl⟩
theorem kw_1_112 : (Jvm.Cond.fieldLink "BoostForests$Split" (19 : Nat) "BoostForests$Split" "cut" "I") ∈ gw_tbl := List.mem_filter.mpr ⟨kt_1 _ (List.mem_of_getElem? (i := 112) rfl), rfl⟩
theorem kw_1_113 : (Jvm.Cond.fieldLink "BoostForests$Tree" (46 : Nat) "BoostForests$Split" "cut" "I") ∈ gw_tbl := List.mem_filter.mpr ⟨kt_1 _ (List.mem_of_getElem? (i := 113) rfl), rfl⟩
theorem kw_1_114 : (Jvm.Cond.fieldLink "BoostForests$Split" (22 : Nat) "BoostForests$Split" "side" "I") ∈ gw_tbl := List.mem_filter.mpr ⟨kt_1 _ (List.mem_of_getElem? (i := 114) rfl), rfl⟩
theorem kw_1_115 : (Jvm.Cond.fieldLink "BoostForests$Tree" (49 : Nat) "BoostForests$Split" "side" "I") ∈ gw_tbl := List.mem_filter.mpr ⟨kt_1 _ (List.mem_of_getElem? (i := 115) rfl), rfl⟩
theorem kw_1_116 : (Jvm.Cond.fieldLink "BoostForests$Split" (25 : Nat) "BoostForests$Split" "difference" "J") ∈ gw_tbl := List.mem_filter.mpr ⟨kt_1 _ (List.mem_of_getElem? (i := 116) rfl), rfl⟩
theorem kw_1_117 : (Jvm.Cond.fieldLink "BoostForests$Tree" (52 : Nat) "BoostForests$Split" "difference" "J") ∈ gw_tbl := List.mem_filter.mpr ⟨kt_1 _ (List.mem_of_getElem? (i := 117) rfl), rfl⟩
theorem kw_1_118 : (Jvm.Cond.fieldLink "BoostForests$Grower" (159 : Nat) "BoostForests$Split" "difference" "J") ∈ gw_tbl := List.mem_filter.mpr ⟨kt_1 _ (List.mem_of_getElem? (i := 118) rfl), rfl⟩
theorem kw_1_119 : (Jvm.Cond.lays "BoostForests$Split" "BoostForests$Split" "column" "I") ∈ gw_tbl := List.mem_filter.mpr ⟨kt_1 _ (List.mem_of_getElem? (i := 119) rfl), rfl⟩
theorem kl_1_120 : (Jvm.Cond.soleField "BoostForests$Split" "column") ∈ lw_tbl := kt_1 _ (List.mem_of_getElem? (i := 120) rfl)
theorem kw_1_121 : (Jvm.Cond.lays "BoostForests$Split" "BoostForests$Split" "cut" "I") ∈ gw_tbl := List.mem_filter.mpr ⟨kt_1 _ (List.mem_of_getElem? (i := 121) rfl), rfl⟩
theorem kl_1_122 : (Jvm.Cond.soleField "BoostForests$Split" "cut") ∈ lw_tbl := kt_1 _ (List.mem_of_getElem? (i := 122) rfl)
theorem kw_1_123 : (Jvm.Cond.lays "BoostForests$Split" "BoostForests$Split" "side" "I") ∈ gw_tbl := List.mem_filter.mpr ⟨kt_1 _ (List.mem_of_getElem? (i := 123) rfl), rfl⟩
theorem kl_1_124 : (Jvm.Cond.soleField "BoostForests$Split" "side") ∈ lw_tbl := kt_1 _ (List.mem_of_getElem? (i := 124) rfl)
theorem kw_1_125 : (Jvm.Cond.lays "BoostForests$Split" "BoostForests$Split" "difference" "J") ∈ gw_tbl := List.mem_filter.mpr ⟨kt_1 _ (List.mem_of_getElem? (i := 125) rfl), rfl⟩
theorem kl_1_126 : (Jvm.Cond.soleField "BoostForests$Split" "difference") ∈ lw_tbl := kt_1 _ (List.mem_of_getElem? (i := 126) rfl)
theorem kl_1_127 : (Jvm.Cond.superclass "BoostForests$Split" "java/lang/Object") ∈ lw_tbl := kt_1 _ (List.mem_of_getElem? (i := 127) rfl)
theorem kw_1_128 : (Jvm.Cond.fieldLink "BoostForests$Grower" (12 : Nat) "BoostForests$Grower" "rows" "LBoostForests$Table;") ∈ gw_tbl := List.mem_filter.mpr ⟨kt_1 _ (List.mem_of_getElem? (i := 128) rfl), rfl⟩
theorem kw_1_129 : (Jvm.Cond.fieldLink "BoostForests$Training" (18 : Nat) "BoostForests$Grower" "rows" "LBoostForests$Table;") ∈ gw_tbl := List.mem_filter.mpr ⟨kt_1 _ (List.mem_of_getElem? (i := 129) rfl), rfl⟩
theorem kw_1_130 : (Jvm.Cond.fieldLink "BoostForests$Grower" (18 : Nat) "BoostForests$Grower" "chosen" "[I") ∈ gw_tbl := List.mem_filter.mpr ⟨kt_1 _ (List.mem_of_getElem? (i := 130) rfl), rfl⟩
theorem kw_1_131 : (Jvm.Cond.fieldLink "BoostForests$Training" (23 : Nat) "BoostForests$Grower" "chosen" "[I") ∈ gw_tbl := List.mem_filter.mpr ⟨kt_1 _ (List.mem_of_getElem? (i := 131) rfl), rfl⟩
theorem kw_1_132 : (Jvm.Cond.fieldLink "BoostForests$Grower" (24 : Nat) "BoostForests$Grower" "order" "[[I") ∈ gw_tbl := List.mem_filter.mpr ⟨kt_1 _ (List.mem_of_getElem? (i := 132) rfl), rfl⟩
theorem kw_1_133 : (Jvm.Cond.fieldLink "BoostForests$Grower" (27 : Nat) "BoostForests$Grower" "nodeOf" "[I") ∈ gw_tbl := List.mem_filter.mpr ⟨kt_1 _ (List.mem_of_getElem? (i := 133) rfl), rfl⟩
theorem kw_1_134 : (Jvm.Cond.fieldLink "BoostForests$Grower" (30 : Nat) "BoostForests$Grower" "slopes" "[J") ∈ gw_tbl := List.mem_filter.mpr ⟨kt_1 _ (List.mem_of_getElem? (i := 134) rfl), rfl⟩
theorem kw_1_135 : (Jvm.Cond.fieldLink "BoostForests$Grower" (37 : Nat) "BoostForests$Grower" "whole" "LBoostForests$Sums;") ∈ gw_tbl := List.mem_filter.mpr ⟨kt_1 _ (List.mem_of_getElem? (i := 135) rfl), rfl⟩
theorem kw_1_136 : (Jvm.Cond.fieldLink "BoostForests$Grower" (41 : Nat) "BoostForests$Grower" "missing" "LBoostForests$Sums;") ∈ gw_tbl := List.mem_filter.mpr ⟨kt_1 _ (List.mem_of_getElem? (i := 136) rfl), rfl⟩
theorem kw_1_137 : (Jvm.Cond.fieldLink "BoostForests$Grower" (44 : Nat) "BoostForests$Grower" "below" "LBoostForests$Sums;") ∈ gw_tbl := List.mem_filter.mpr ⟨kt_1 _ (List.mem_of_getElem? (i := 137) rfl), rfl⟩
theorem kw_1_138 : (Jvm.Cond.fieldLink "BoostForests$Grower" (47 : Nat) "BoostForests$Grower" "low" "LBoostForests$Sums;") ∈ gw_tbl := List.mem_filter.mpr ⟨kt_1 _ (List.mem_of_getElem? (i := 138) rfl), rfl⟩
theorem kw_1_139 : (Jvm.Cond.fieldLink "BoostForests$Grower" (50 : Nat) "BoostForests$Grower" "high" "LBoostForests$Sums;") ∈ gw_tbl := List.mem_filter.mpr ⟨kt_1 _ (List.mem_of_getElem? (i := 139) rfl), rfl⟩
theorem kw_1_140 : (Jvm.Cond.fieldLink "BoostForests$Grower" (53 : Nat) "BoostForests$Grower" "nothing" "LBoostForests$Sums;") ∈ gw_tbl := List.mem_filter.mpr ⟨kt_1 _ (List.mem_of_getElem? (i := 140) rfl), rfl⟩
theorem kw_1_141 : (Jvm.Cond.fieldLink "BoostForests$Grower" (59 : Nat) "BoostForests$Grower" "split" "LBoostForests$Split;") ∈ gw_tbl := List.mem_filter.mpr ⟨kt_1 _ (List.mem_of_getElem? (i := 141) rfl), rfl⟩
theorem kw_1_142 : (Jvm.Cond.laysFinal "BoostForests$Grower" "BoostForests$Grower" "rows" "LBoostForests$Table;") ∈ gw_tbl := List.mem_filter.mpr ⟨kt_1 _ (List.mem_of_getElem? (i := 142) rfl), rfl⟩
theorem kl_1_143 : (Jvm.Cond.soleField "BoostForests$Grower" "rows") ∈ lw_tbl := kt_1 _ (List.mem_of_getElem? (i := 143) rfl)
theorem kw_1_144 : (Jvm.Cond.laysFinal "BoostForests$Grower" "BoostForests$Grower" "chosen" "[I") ∈ gw_tbl := List.mem_filter.mpr ⟨kt_1 _ (List.mem_of_getElem? (i := 144) rfl), rfl⟩
theorem kl_1_145 : (Jvm.Cond.soleField "BoostForests$Grower" "chosen") ∈ lw_tbl := kt_1 _ (List.mem_of_getElem? (i := 145) rfl)
theorem kw_1_146 : (Jvm.Cond.laysFinal "BoostForests$Grower" "BoostForests$Grower" "order" "[[I") ∈ gw_tbl := List.mem_filter.mpr ⟨kt_1 _ (List.mem_of_getElem? (i := 146) rfl), rfl⟩
theorem kl_1_147 : (Jvm.Cond.soleField "BoostForests$Grower" "order") ∈ lw_tbl := kt_1 _ (List.mem_of_getElem? (i := 147) rfl)
theorem kw_1_148 : (Jvm.Cond.laysFinal "BoostForests$Grower" "BoostForests$Grower" "nodeOf" "[I") ∈ gw_tbl := List.mem_filter.mpr ⟨kt_1 _ (List.mem_of_getElem? (i := 148) rfl), rfl⟩
theorem kl_1_149 : (Jvm.Cond.soleField "BoostForests$Grower" "nodeOf") ∈ lw_tbl := kt_1 _ (List.mem_of_getElem? (i := 149) rfl)
theorem kw_1_150 : (Jvm.Cond.laysFinal "BoostForests$Grower" "BoostForests$Grower" "slopes" "[J") ∈ gw_tbl := List.mem_filter.mpr ⟨kt_1 _ (List.mem_of_getElem? (i := 150) rfl), rfl⟩
theorem kl_1_151 : (Jvm.Cond.soleField "BoostForests$Grower" "slopes") ∈ lw_tbl := kt_1 _ (List.mem_of_getElem? (i := 151) rfl)
theorem kw_1_152 : (Jvm.Cond.laysFinal "BoostForests$Grower" "BoostForests$Grower" "whole" "LBoostForests$Sums;") ∈ gw_tbl := List.mem_filter.mpr ⟨kt_1 _ (List.mem_of_getElem? (i := 152) rfl), rfl⟩
theorem kl_1_153 : (Jvm.Cond.soleField "BoostForests$Grower" "whole") ∈ lw_tbl := kt_1 _ (List.mem_of_getElem? (i := 153) rfl)
theorem kw_1_154 : (Jvm.Cond.laysFinal "BoostForests$Grower" "BoostForests$Grower" "missing" "LBoostForests$Sums;") ∈ gw_tbl := List.mem_filter.mpr ⟨kt_1 _ (List.mem_of_getElem? (i := 154) rfl), rfl⟩
theorem kl_1_155 : (Jvm.Cond.soleField "BoostForests$Grower" "missing") ∈ lw_tbl := kt_1 _ (List.mem_of_getElem? (i := 155) rfl)
theorem kw_1_156 : (Jvm.Cond.laysFinal "BoostForests$Grower" "BoostForests$Grower" "below" "LBoostForests$Sums;") ∈ gw_tbl := List.mem_filter.mpr ⟨kt_1 _ (List.mem_of_getElem? (i := 156) rfl), rfl⟩
theorem kl_1_157 : (Jvm.Cond.soleField "BoostForests$Grower" "below") ∈ lw_tbl := kt_1 _ (List.mem_of_getElem? (i := 157) rfl)
theorem kw_1_158 : (Jvm.Cond.laysFinal "BoostForests$Grower" "BoostForests$Grower" "low" "LBoostForests$Sums;") ∈ gw_tbl := List.mem_filter.mpr ⟨kt_1 _ (List.mem_of_getElem? (i := 158) rfl), rfl⟩
theorem kl_1_159 : (Jvm.Cond.soleField "BoostForests$Grower" "low") ∈ lw_tbl := kt_1 _ (List.mem_of_getElem? (i := 159) rfl)
theorem kw_1_160 : (Jvm.Cond.laysFinal "BoostForests$Grower" "BoostForests$Grower" "high" "LBoostForests$Sums;") ∈ gw_tbl := List.mem_filter.mpr ⟨kt_1 _ (List.mem_of_getElem? (i := 160) rfl), rfl⟩
theorem kl_1_161 : (Jvm.Cond.soleField "BoostForests$Grower" "high") ∈ lw_tbl := kt_1 _ (List.mem_of_getElem? (i := 161) rfl)
theorem kw_1_162 : (Jvm.Cond.laysFinal "BoostForests$Grower" "BoostForests$Grower" "nothing" "LBoostForests$Sums;") ∈ gw_tbl := List.mem_filter.mpr ⟨kt_1 _ (List.mem_of_getElem? (i := 162) rfl), rfl⟩
theorem kl_1_163 : (Jvm.Cond.soleField "BoostForests$Grower" "nothing") ∈ lw_tbl := kt_1 _ (List.mem_of_getElem? (i := 163) rfl)
theorem kw_1_164 : (Jvm.Cond.laysFinal "BoostForests$Grower" "BoostForests$Grower" "split" "LBoostForests$Split;") ∈ gw_tbl := List.mem_filter.mpr ⟨kt_1 _ (List.mem_of_getElem? (i := 164) rfl), rfl⟩
theorem kl_1_165 : (Jvm.Cond.soleField "BoostForests$Grower" "split") ∈ lw_tbl := kt_1 _ (List.mem_of_getElem? (i := 165) rfl)
theorem kl_1_166 : (Jvm.Cond.superclass "BoostForests$Grower" "java/lang/Object") ∈ lw_tbl := kt_1 _ (List.mem_of_getElem? (i := 166) rfl)
theorem kw_1_167 : (Jvm.Cond.classLink "BoostForests$Training" (28 : Nat) "BoostForests$Tree") ∈ gw_tbl := List.mem_filter.mpr ⟨kt_1 _ (List.mem_of_getElem? (i := 167) rfl), rfl⟩
theorem kl_1_168 : (Jvm.Cond.arrayOver (Jvm.ClassFile.FieldType.object "BoostForests$Tree")) ∈ lw_tbl := kt_1 _ (List.mem_of_getElem? (i := 168) rfl)
theorem kw_1_169 : (Jvm.Cond.classLink "BoostForests$Training" (41 : Nat) "[[J") ∈ gw_tbl := List.mem_filter.mpr ⟨kt_1 _ (List.mem_of_getElem? (i := 169) rfl), rfl⟩
theorem kl_1_170 : (Jvm.Cond.arrayOver (Jvm.ClassFile.FieldType.array Jvm.ClassFile.FieldType.long)) ∈ lw_tbl := kt_1 _ (List.mem_of_getElem? (i := 170) rfl)
theorem kw_1_171 : (Jvm.Cond.instantiable "BoostForests$Tree" (3 : Nat)) ∈ gw_tbl := List.mem_filter.mpr ⟨kt_1 _ (List.mem_of_getElem? (i := 171) rfl), rfl⟩
theorem kl_1_172 : (Jvm.Cond.methodLinkNest "BoostForests$Training" (49 : Nat) ({ cls := "BoostForests$Tree", name := "<init>", desc := "()V" } : Jvm.MethodName) "BoostForests") ∈ lw_tbl := kt_1 _ (List.mem_of_getElem? (i := 172) rfl)
theorem kw_1_173 : (Jvm.Cond.instanceMethod ({ cls := "BoostForests$Tree", name := "<init>", desc := "()V" } : Jvm.MethodName)) ∈ gw_tbl := List.mem_filter.mpr ⟨kt_1 _ (List.mem_of_getElem? (i := 173) rfl), rfl⟩
theorem kw_1_174 : (Jvm.Cond.code ({ cls := "BoostForests$Tree", name := "<init>", desc := "()V" } : Jvm.MethodName) prog_7_method_1_code (1 : Nat) (Option.none : Option Jvm.ClassFile.FieldType)) ∈ gw_tbl := List.mem_filter.mpr ⟨kt_1 _ (List.mem_of_getElem? (i := 174) rfl), rfl⟩
theorem kw_1_175 : (Jvm.Cond.methodLink "BoostForests$Tree" (3 : Nat) ({ cls := "java/lang/Object", name := "<init>", desc := "()V" } : Jvm.MethodName)) ∈ gw_tbl := List.mem_filter.mpr ⟨kt_1 _ (List.mem_of_getElem? (i := 175) rfl), rfl⟩
theorem kw_1_176 : (Jvm.Cond.classLink "BoostForests$Tree" (9 : Nat) "[[I") ∈ gw_tbl := List.mem_filter.mpr ⟨kt_1 _ (List.mem_of_getElem? (i := 176) rfl), rfl⟩
theorem kw_1_177 : (Jvm.Cond.classLink "BoostForests$Tree" (16 : Nat) "[[J") ∈ gw_tbl := List.mem_filter.mpr ⟨kt_1 _ (List.mem_of_getElem? (i := 177) rfl), rfl⟩
theorem kw_1_178 : (Jvm.Cond.fieldLink "BoostForests$Tree" (11 : Nat) "BoostForests$Tree" "facts" "[[I") ∈ gw_tbl := List.mem_filter.mpr ⟨kt_1 _ (List.mem_of_getElem? (i := 178) rfl), rfl⟩
theorem kw_1_179 : (Jvm.Cond.fieldLink "BoostForests" (90 : Nat) "BoostForests$Tree" "facts" "[[I") ∈ gw_tbl := List.mem_filter.mpr ⟨kt_1 _ (List.mem_of_getElem? (i := 179) rfl), rfl⟩
theorem kw_1_180 : (Jvm.Cond.fieldLink "BoostForests$Training" (129 : Nat) "BoostForests$Tree" "facts" "[[I") ∈ gw_tbl := List.mem_filter.mpr ⟨kt_1 _ (List.mem_of_getElem? (i := 180) rfl), rfl⟩
theorem kw_1_181 : (Jvm.Cond.fieldLink "BoostForests$Tree" (18 : Nat) "BoostForests$Tree" "sums" "[[J") ∈ gw_tbl := List.mem_filter.mpr ⟨kt_1 _ (List.mem_of_getElem? (i := 181) rfl), rfl⟩
theorem kw_1_182 : (Jvm.Cond.fieldLink "BoostForests" (96 : Nat) "BoostForests$Tree" "sums" "[[J") ∈ gw_tbl := List.mem_filter.mpr ⟨kt_1 _ (List.mem_of_getElem? (i := 182) rfl), rfl⟩
theorem kw_1_183 : (Jvm.Cond.fieldLink "BoostForests$Training" (132 : Nat) "BoostForests$Tree" "sums" "[[J") ∈ gw_tbl := List.mem_filter.mpr ⟨kt_1 _ (List.mem_of_getElem? (i := 183) rfl), rfl⟩
theorem kw_1_184 : (Jvm.Cond.fieldLink "BoostForests$Tree" (21 : Nat) "BoostForests$Tree" "nodes" "I") ∈ gw_tbl := List.mem_filter.mpr ⟨kt_1 _ (List.mem_of_getElem? (i := 184) rfl), rfl⟩
theorem kw_1_185 : (Jvm.Cond.fieldLink "BoostForests$Grower" (74 : Nat) "BoostForests$Tree" "nodes" "I") ∈ gw_tbl := List.mem_filter.mpr ⟨kt_1 _ (List.mem_of_getElem? (i := 185) rfl), rfl⟩
theorem kw_1_186 : (Jvm.Cond.fieldLink "BoostForests" (100 : Nat) "BoostForests$Tree" "nodes" "I") ∈ gw_tbl := List.mem_filter.mpr ⟨kt_1 _ (List.mem_of_getElem? (i := 186) rfl), rfl⟩
theorem kw_1_187 : (Jvm.Cond.fieldLink "BoostForests$Training" (126 : Nat) "BoostForests$Tree" "nodes" "I") ∈ gw_tbl := List.mem_filter.mpr ⟨kt_1 _ (List.mem_of_getElem? (i := 187) rfl), rfl⟩
theorem kw_1_188 : (Jvm.Cond.laysFinal "BoostForests$Tree" "BoostForests$Tree" "facts" "[[I") ∈ gw_tbl := List.mem_filter.mpr ⟨kt_1 _ (List.mem_of_getElem? (i := 188) rfl), rfl⟩
theorem kl_1_189 : (Jvm.Cond.soleField "BoostForests$Tree" "facts") ∈ lw_tbl := kt_1 _ (List.mem_of_getElem? (i := 189) rfl)
theorem kw_1_190 : (Jvm.Cond.laysFinal "BoostForests$Tree" "BoostForests$Tree" "sums" "[[J") ∈ gw_tbl := List.mem_filter.mpr ⟨kt_1 _ (List.mem_of_getElem? (i := 190) rfl), rfl⟩
theorem kl_1_191 : (Jvm.Cond.soleField "BoostForests$Tree" "sums") ∈ lw_tbl := kt_1 _ (List.mem_of_getElem? (i := 191) rfl)
theorem kw_1_192 : (Jvm.Cond.lays "BoostForests$Tree" "BoostForests$Tree" "nodes" "I") ∈ gw_tbl := List.mem_filter.mpr ⟨kt_1 _ (List.mem_of_getElem? (i := 192) rfl), rfl⟩
theorem kl_1_193 : (Jvm.Cond.soleField "BoostForests$Tree" "nodes") ∈ lw_tbl := kt_1 _ (List.mem_of_getElem? (i := 193) rfl)
theorem kl_1_194 : (Jvm.Cond.superclass "BoostForests$Tree" "java/lang/Object") ∈ lw_tbl := kt_1 _ (List.mem_of_getElem? (i := 194) rfl)
theorem kw_1_195 : (Jvm.Cond.fieldLink "BoostForests$Training" (12 : Nat) "BoostForests$Training" "grower" "LBoostForests$Grower;") ∈ gw_tbl := List.mem_filter.mpr ⟨kt_1 _ (List.mem_of_getElem? (i := 195) rfl), rfl⟩
theorem kw_1_196 : (Jvm.Cond.fieldLink "BoostForests$Training" (22 : Nat) "BoostForests$Training" "rows" "LBoostForests$Table;") ∈ gw_tbl := List.mem_filter.mpr ⟨kt_1 _ (List.mem_of_getElem? (i := 196) rfl), rfl⟩
theorem kw_1_197 : (Jvm.Cond.fieldLink "BoostForests" (149 : Nat) "BoostForests$Training" "rows" "LBoostForests$Table;") ∈ gw_tbl := List.mem_filter.mpr ⟨kt_1 _ (List.mem_of_getElem? (i := 197) rfl), rfl⟩
theorem kw_1_198 : (Jvm.Cond.fieldLink "BoostForests$Training" (27 : Nat) "BoostForests$Training" "chosen" "[I") ∈ gw_tbl := List.mem_filter.mpr ⟨kt_1 _ (List.mem_of_getElem? (i := 198) rfl), rfl⟩
theorem kw_1_199 : (Jvm.Cond.fieldLink "BoostForests$Training" (30 : Nat) "BoostForests$Training" "trees" "[LBoostForests$Tree;") ∈ gw_tbl := List.mem_filter.mpr ⟨kt_1 _ (List.mem_of_getElem? (i := 199) rfl), rfl⟩
theorem kw_1_200 : (Jvm.Cond.fieldLink "BoostForests" (86 : Nat) "BoostForests$Training" "trees" "[LBoostForests$Tree;") ∈ gw_tbl := List.mem_filter.mpr ⟨kt_1 _ (List.mem_of_getElem? (i := 200) rfl), rfl⟩
theorem kw_1_201 : (Jvm.Cond.fieldLink "BoostForests$Training" (34 : Nat) "BoostForests$Training" "f" "[J") ∈ gw_tbl := List.mem_filter.mpr ⟨kt_1 _ (List.mem_of_getElem? (i := 201) rfl), rfl⟩
theorem kw_1_202 : (Jvm.Cond.fieldLink "BoostForests$Training" (38 : Nat) "BoostForests$Training" "tookPart" "[I") ∈ gw_tbl := List.mem_filter.mpr ⟨kt_1 _ (List.mem_of_getElem? (i := 202) rfl), rfl⟩
theorem kw_1_203 : (Jvm.Cond.fieldLink "BoostForests" (131 : Nat) "BoostForests$Training" "tookPart" "[I") ∈ gw_tbl := List.mem_filter.mpr ⟨kt_1 _ (List.mem_of_getElem? (i := 203) rfl), rfl⟩
theorem kw_1_204 : (Jvm.Cond.fieldLink "BoostForests$Training" (43 : Nat) "BoostForests$Training" "losses" "[[J") ∈ gw_tbl := List.mem_filter.mpr ⟨kt_1 _ (List.mem_of_getElem? (i := 204) rfl), rfl⟩
theorem kw_1_205 : (Jvm.Cond.fieldLink "BoostForests" (117 : Nat) "BoostForests$Training" "losses" "[[J") ∈ gw_tbl := List.mem_filter.mpr ⟨kt_1 _ (List.mem_of_getElem? (i := 205) rfl), rfl⟩
theorem kw_1_206 : (Jvm.Cond.fieldLink "BoostForests$Training" (46 : Nat) "BoostForests$Training" "tells" "[J") ∈ gw_tbl := List.mem_filter.mpr ⟨kt_1 _ (List.mem_of_getElem? (i := 206) rfl), rfl⟩
theorem kw_1_207 : (Jvm.Cond.fieldLink "BoostForests$Training" (87 : Nat) "BoostForests$Training" "done" "Z") ∈ gw_tbl := List.mem_filter.mpr ⟨kt_1 _ (List.mem_of_getElem? (i := 207) rfl), rfl⟩
theorem kw_1_208 : (Jvm.Cond.fieldLink "BoostForests" (107 : Nat) "BoostForests$Training" "done" "Z") ∈ gw_tbl := List.mem_filter.mpr ⟨kt_1 _ (List.mem_of_getElem? (i := 208) rfl), rfl⟩
theorem kw_1_209 : (Jvm.Cond.fieldLink "BoostForests$Training" (77 : Nat) "BoostForests$Training" "made" "I") ∈ gw_tbl := List.mem_filter.mpr ⟨kt_1 _ (List.mem_of_getElem? (i := 209) rfl), rfl⟩
theorem kw_1_210 : (Jvm.Cond.fieldLink "BoostForests" (80 : Nat) "BoostForests$Training" "made" "I") ∈ gw_tbl := List.mem_filter.mpr ⟨kt_1 _ (List.mem_of_getElem? (i := 210) rfl), rfl⟩
theorem kw_1_211 : (Jvm.Cond.laysFinal "BoostForests$Training" "BoostForests$Training" "grower" "LBoostForests$Grower;") ∈ gw_tbl := List.mem_filter.mpr ⟨kt_1 _ (List.mem_of_getElem? (i := 211) rfl), rfl⟩
theorem kl_1_212 : (Jvm.Cond.soleField "BoostForests$Training" "grower") ∈ lw_tbl := kt_1 _ (List.mem_of_getElem? (i := 212) rfl)
theorem kw_1_213 : (Jvm.Cond.laysFinal "BoostForests$Training" "BoostForests$Training" "rows" "LBoostForests$Table;") ∈ gw_tbl := List.mem_filter.mpr ⟨kt_1 _ (List.mem_of_getElem? (i := 213) rfl), rfl⟩
theorem kl_1_214 : (Jvm.Cond.soleField "BoostForests$Training" "rows") ∈ lw_tbl := kt_1 _ (List.mem_of_getElem? (i := 214) rfl)
theorem kw_1_215 : (Jvm.Cond.laysFinal "BoostForests$Training" "BoostForests$Training" "chosen" "[I") ∈ gw_tbl := List.mem_filter.mpr ⟨kt_1 _ (List.mem_of_getElem? (i := 215) rfl), rfl⟩
theorem kl_1_216 : (Jvm.Cond.soleField "BoostForests$Training" "chosen") ∈ lw_tbl := kt_1 _ (List.mem_of_getElem? (i := 216) rfl)
theorem kw_1_217 : (Jvm.Cond.laysFinal "BoostForests$Training" "BoostForests$Training" "trees" "[LBoostForests$Tree;") ∈ gw_tbl := List.mem_filter.mpr ⟨kt_1 _ (List.mem_of_getElem? (i := 217) rfl), rfl⟩
theorem kl_1_218 : (Jvm.Cond.soleField "BoostForests$Training" "trees") ∈ lw_tbl := kt_1 _ (List.mem_of_getElem? (i := 218) rfl)
theorem kw_1_219 : (Jvm.Cond.laysFinal "BoostForests$Training" "BoostForests$Training" "f" "[J") ∈ gw_tbl := List.mem_filter.mpr ⟨kt_1 _ (List.mem_of_getElem? (i := 219) rfl), rfl⟩
theorem kl_1_220 : (Jvm.Cond.soleField "BoostForests$Training" "f") ∈ lw_tbl := kt_1 _ (List.mem_of_getElem? (i := 220) rfl)
theorem kw_1_221 : (Jvm.Cond.laysFinal "BoostForests$Training" "BoostForests$Training" "tookPart" "[I") ∈ gw_tbl := List.mem_filter.mpr ⟨kt_1 _ (List.mem_of_getElem? (i := 221) rfl), rfl⟩
theorem kl_1_222 : (Jvm.Cond.soleField "BoostForests$Training" "tookPart") ∈ lw_tbl := kt_1 _ (List.mem_of_getElem? (i := 222) rfl)
theorem kw_1_223 : (Jvm.Cond.laysFinal "BoostForests$Training" "BoostForests$Training" "losses" "[[J") ∈ gw_tbl := List.mem_filter.mpr ⟨kt_1 _ (List.mem_of_getElem? (i := 223) rfl), rfl⟩
theorem kl_1_224 : (Jvm.Cond.soleField "BoostForests$Training" "losses") ∈ lw_tbl := kt_1 _ (List.mem_of_getElem? (i := 224) rfl)
theorem kw_1_225 : (Jvm.Cond.laysFinal "BoostForests$Training" "BoostForests$Training" "tells" "[J") ∈ gw_tbl := List.mem_filter.mpr ⟨kt_1 _ (List.mem_of_getElem? (i := 225) rfl), rfl⟩
theorem kl_1_226 : (Jvm.Cond.soleField "BoostForests$Training" "tells") ∈ lw_tbl := kt_1 _ (List.mem_of_getElem? (i := 226) rfl)
theorem kw_1_227 : (Jvm.Cond.lays "BoostForests$Training" "BoostForests$Training" "done" "Z") ∈ gw_tbl := List.mem_filter.mpr ⟨kt_1 _ (List.mem_of_getElem? (i := 227) rfl), rfl⟩
theorem kl_1_228 : (Jvm.Cond.soleField "BoostForests$Training" "done") ∈ lw_tbl := kt_1 _ (List.mem_of_getElem? (i := 228) rfl)
theorem kw_1_229 : (Jvm.Cond.lays "BoostForests$Training" "BoostForests$Training" "made" "I") ∈ gw_tbl := List.mem_filter.mpr ⟨kt_1 _ (List.mem_of_getElem? (i := 229) rfl), rfl⟩
theorem kl_1_230 : (Jvm.Cond.soleField "BoostForests$Training" "made") ∈ lw_tbl := kt_1 _ (List.mem_of_getElem? (i := 230) rfl)
theorem kl_1_231 : (Jvm.Cond.superclass "BoostForests$Training" "java/lang/Object") ∈ lw_tbl := kt_1 _ (List.mem_of_getElem? (i := 231) rfl)
theorem kw_1_232 : (Jvm.Cond.fieldLink "BoostForests" (10 : Nat) "BoostForests" "table" "LBoostForests$Table;") ∈ gw_tbl := List.mem_filter.mpr ⟨kt_1 _ (List.mem_of_getElem? (i := 232) rfl), rfl⟩
theorem kw_1_233 : (Jvm.Cond.fieldLink "BoostForests" (25 : Nat) "BoostForests" "settings" "[I") ∈ gw_tbl := List.mem_filter.mpr ⟨kt_1 _ (List.mem_of_getElem? (i := 233) rfl), rfl⟩
theorem kw_1_234 : (Jvm.Cond.fieldLink "BoostForests" (31 : Nat) "BoostForests" "training" "LBoostForests$Training;") ∈ gw_tbl := List.mem_filter.mpr ⟨kt_1 _ (List.mem_of_getElem? (i := 234) rfl), rfl⟩
theorem kw_1_235 : (Jvm.Cond.fieldLink "BoostForests" (35 : Nat) "BoostForests" "asked" "[I") ∈ gw_tbl := List.mem_filter.mpr ⟨kt_1 _ (List.mem_of_getElem? (i := 235) rfl), rfl⟩
theorem kw_1_236 : (Jvm.Cond.laysFinal "BoostForests" "BoostForests" "table" "LBoostForests$Table;") ∈ gw_tbl := List.mem_filter.mpr ⟨kt_1 _ (List.mem_of_getElem? (i := 236) rfl), rfl⟩
theorem kl_1_237 : (Jvm.Cond.soleField "BoostForests" "table") ∈ lw_tbl := kt_1 _ (List.mem_of_getElem? (i := 237) rfl)
theorem kw_1_238 : (Jvm.Cond.laysFinal "BoostForests" "BoostForests" "settings" "[I") ∈ gw_tbl := List.mem_filter.mpr ⟨kt_1 _ (List.mem_of_getElem? (i := 238) rfl), rfl⟩
theorem kl_1_239 : (Jvm.Cond.soleField "BoostForests" "settings") ∈ lw_tbl := kt_1 _ (List.mem_of_getElem? (i := 239) rfl)
theorem kw_2_0 : (Jvm.Cond.laysFinal "BoostForests" "BoostForests" "training" "LBoostForests$Training;") ∈ gw_tbl := List.mem_filter.mpr ⟨kt_2 _ (List.mem_of_getElem? (i := 0) rfl), rfl⟩
theorem kl_2_1 : (Jvm.Cond.soleField "BoostForests" "training") ∈ lw_tbl := kt_2 _ (List.mem_of_getElem? (i := 1) rfl)
theorem kw_2_2 : (Jvm.Cond.laysFinal "BoostForests" "BoostForests" "asked" "[I") ∈ gw_tbl := List.mem_filter.mpr ⟨kt_2 _ (List.mem_of_getElem? (i := 2) rfl), rfl⟩
theorem kl_2_3 : (Jvm.Cond.soleField "BoostForests" "asked") ∈ lw_tbl := kt_2 _ (List.mem_of_getElem? (i := 3) rfl)
theorem kl_2_4 : (Jvm.Cond.superclass "BoostForests" "java/lang/Object") ∈ lw_tbl := kt_2 _ (List.mem_of_getElem? (i := 4) rfl)
theorem kw_2_5 : (Jvm.Cond.methodLink "BoostForestsLaw" (13 : Nat) ({ cls := "BoostForests", name := "row", desc := "(IIIIII)I" } : Jvm.MethodName)) ∈ gw_tbl := List.mem_filter.mpr ⟨kt_2 _ (List.mem_of_getElem? (i := 5) rfl), rfl⟩
theorem kw_2_6 : (Jvm.Cond.instanceMethod ({ cls := "BoostForests", name := "row", desc := "(IIIIII)I" } : Jvm.MethodName)) ∈ gw_tbl := List.mem_filter.mpr ⟨kt_2 _ (List.mem_of_getElem? (i := 6) rfl), rfl⟩
theorem kw_2_7 : (Jvm.Cond.selects "BoostForests" ({ cls := "BoostForests", name := "row", desc := "(IIIIII)I" } : Jvm.MethodName) ({ cls := "BoostForests", name := "row", desc := "(IIIIII)I" } : Jvm.MethodName)) ∈ gw_tbl := List.mem_filter.mpr ⟨kt_2 _ (List.mem_of_getElem? (i := 7) rfl), rfl⟩
theorem kw_2_8 : (Jvm.Cond.code ({ cls := "BoostForests", name := "row", desc := "(IIIIII)I" } : Jvm.MethodName) prog_1_method_2_code (7 : Nat) (Option.some Jvm.ClassFile.FieldType.int)) ∈ gw_tbl := List.mem_filter.mpr ⟨kt_2 _ (List.mem_of_getElem? (i := 8) rfl), rfl⟩
theorem kw_2_9 : (Jvm.Cond.methodLink "BoostForests" (38 : Nat) ({ cls := "BoostForests", name := "areCells", desc := "(IIII)Z" } : Jvm.MethodName)) ∈ gw_tbl := List.mem_filter.mpr ⟨kt_2 _ (List.mem_of_getElem? (i := 9) rfl), rfl⟩
theorem kw_2_10 : (Jvm.Cond.static ({ cls := "BoostForests", name := "areCells", desc := "(IIII)Z" } : Jvm.MethodName)) ∈ gw_tbl := List.mem_filter.mpr ⟨kt_2 _ (List.mem_of_getElem? (i := 10) rfl), rfl⟩
theorem kw_2_11 : (Jvm.Cond.code ({ cls := "BoostForests", name := "areCells", desc := "(IIII)Z" } : Jvm.MethodName) prog_1_method_23_code (4 : Nat) (Option.some Jvm.ClassFile.FieldType.boolean)) ∈ gw_tbl := List.mem_filter.mpr ⟨kt_2 _ (List.mem_of_getElem? (i := 11) rfl), rfl⟩
theorem kw_2_12 : (Jvm.Cond.methodLink "BoostForests" (42 : Nat) ({ cls := "BoostForests", name := "isWithin", desc := "(III)Z" } : Jvm.MethodName)) ∈ gw_tbl := List.mem_filter.mpr ⟨kt_2 _ (List.mem_of_getElem? (i := 12) rfl), rfl⟩
theorem kw_2_13 : (Jvm.Cond.static ({ cls := "BoostForests", name := "isWithin", desc := "(III)Z" } : Jvm.MethodName)) ∈ gw_tbl := List.mem_filter.mpr ⟨kt_2 _ (List.mem_of_getElem? (i := 13) rfl), rfl⟩
theorem kw_2_14 : (Jvm.Cond.code ({ cls := "BoostForests", name := "isWithin", desc := "(III)Z" } : Jvm.MethodName) prog_1_method_25_code (3 : Nat) (Option.some Jvm.ClassFile.FieldType.boolean)) ∈ gw_tbl := List.mem_filter.mpr ⟨kt_2 _ (List.mem_of_getElem? (i := 14) rfl), rfl⟩
theorem kw_2_15 : (Jvm.Cond.methodLink "BoostForests" (46 : Nat) ({ cls := "BoostForests", name := "keepAsked", desc := "(IIII)V" } : Jvm.MethodName)) ∈ gw_tbl := List.mem_filter.mpr ⟨kt_2 _ (List.mem_of_getElem? (i := 15) rfl), rfl⟩
theorem kl_2_16 : (Jvm.Cond.privateMethod ({ cls := "BoostForests", name := "keepAsked", desc := "(IIII)V" } : Jvm.MethodName)) ∈ lw_tbl := kt_2 _ (List.mem_of_getElem? (i := 16) rfl)
theorem kw_2_17 : (Jvm.Cond.instanceMethod ({ cls := "BoostForests", name := "keepAsked", desc := "(IIII)V" } : Jvm.MethodName)) ∈ gw_tbl := List.mem_filter.mpr ⟨kt_2 _ (List.mem_of_getElem? (i := 17) rfl), rfl⟩
theorem kw_2_18 : (Jvm.Cond.code ({ cls := "BoostForests", name := "keepAsked", desc := "(IIII)V" } : Jvm.MethodName) prog_1_method_22_code (5 : Nat) (Option.none : Option Jvm.ClassFile.FieldType)) ∈ gw_tbl := List.mem_filter.mpr ⟨kt_2 _ (List.mem_of_getElem? (i := 18) rfl), rfl⟩
theorem kw_2_19 : (Jvm.Cond.methodLink "BoostForests" (50 : Nat) ({ cls := "BoostForests$Table", name := "append", desc := "([III)I" } : Jvm.MethodName)) ∈ gw_tbl := List.mem_filter.mpr ⟨kt_2 _ (List.mem_of_getElem? (i := 19) rfl), rfl⟩
theorem kw_2_20 : (Jvm.Cond.instanceMethod ({ cls := "BoostForests$Table", name := "append", desc := "([III)I" } : Jvm.MethodName)) ∈ gw_tbl := List.mem_filter.mpr ⟨kt_2 _ (List.mem_of_getElem? (i := 20) rfl), rfl⟩
theorem kw_2_21 : (Jvm.Cond.selects "BoostForests$Table" ({ cls := "BoostForests$Table", name := "append", desc := "([III)I" } : Jvm.MethodName) ({ cls := "BoostForests$Table", name := "append", desc := "([III)I" } : Jvm.MethodName)) ∈ gw_tbl := List.mem_filter.mpr ⟨kt_2 _ (List.mem_of_getElem? (i := 21) rfl), rfl⟩
theorem kw_2_22 : (Jvm.Cond.code ({ cls := "BoostForests$Table", name := "append", desc := "([III)I" } : Jvm.MethodName) prog_5_method_2_code (5 : Nat) (Option.some Jvm.ClassFile.FieldType.int)) ∈ gw_tbl := List.mem_filter.mpr ⟨kt_2 _ (List.mem_of_getElem? (i := 22) rfl), rfl⟩
theorem kw_2_23 : (Jvm.Cond.methodLink "BoostForests$Table" (31 : Nat) ({ cls := "java/lang/System", name := "arraycopy", desc := "(Ljava/lang/Object;ILjava/lang/Object;II)V" } : Jvm.MethodName)) ∈ gw_tbl := List.mem_filter.mpr ⟨kt_2 _ (List.mem_of_getElem? (i := 23) rfl), rfl⟩
theorem kw_2_24 : (Jvm.Cond.static ({ cls := "java/lang/System", name := "arraycopy", desc := "(Ljava/lang/Object;ILjava/lang/Object;II)V" } : Jvm.MethodName)) ∈ gw_tbl := List.mem_filter.mpr ⟨kt_2 _ (List.mem_of_getElem? (i := 24) rfl), rfl⟩
theorem kw_2_25 : (Jvm.Cond.native ({ cls := "java/lang/System", name := "arraycopy", desc := "(Ljava/lang/Object;ILjava/lang/Object;II)V" } : Jvm.MethodName)) ∈ gw_tbl := List.mem_filter.mpr ⟨kt_2 _ (List.mem_of_getElem? (i := 25) rfl), rfl⟩
theorem kw_2_26 : (Jvm.Cond.methodLink "BoostForestsLaw" (18 : Nat) ({ cls := "BoostForests", name := "hold", desc := "(II)I" } : Jvm.MethodName)) ∈ gw_tbl := List.mem_filter.mpr ⟨kt_2 _ (List.mem_of_getElem? (i := 26) rfl), rfl⟩
theorem kw_2_27 : (Jvm.Cond.instanceMethod ({ cls := "BoostForests", name := "hold", desc := "(II)I" } : Jvm.MethodName)) ∈ gw_tbl := List.mem_filter.mpr ⟨kt_2 _ (List.mem_of_getElem? (i := 27) rfl), rfl⟩
theorem kw_2_28 : (Jvm.Cond.selects "BoostForests" ({ cls := "BoostForests", name := "hold", desc := "(II)I" } : Jvm.MethodName) ({ cls := "BoostForests", name := "hold", desc := "(II)I" } : Jvm.MethodName)) ∈ gw_tbl := List.mem_filter.mpr ⟨kt_2 _ (List.mem_of_getElem? (i := 28) rfl), rfl⟩
theorem kw_2_29 : (Jvm.Cond.code ({ cls := "BoostForests", name := "hold", desc := "(II)I" } : Jvm.MethodName) prog_1_method_3_code (4 : Nat) (Option.some Jvm.ClassFile.FieldType.int)) ∈ gw_tbl := List.mem_filter.mpr ⟨kt_2 _ (List.mem_of_getElem? (i := 29) rfl), rfl⟩
theorem kw_2_30 : (Jvm.Cond.methodLink "BoostForests" (58 : Nat) ({ cls := "BoostForests", name := "isIndex", desc := "(II)Z" } : Jvm.MethodName)) ∈ gw_tbl := List.mem_filter.mpr ⟨kt_2 _ (List.mem_of_getElem? (i := 30) rfl), rfl⟩
theorem kw_2_31 : (Jvm.Cond.static ({ cls := "BoostForests", name := "isIndex", desc := "(II)Z" } : Jvm.MethodName)) ∈ gw_tbl := List.mem_filter.mpr ⟨kt_2 _ (List.mem_of_getElem? (i := 31) rfl), rfl⟩
theorem kw_2_32 : (Jvm.Cond.code ({ cls := "BoostForests", name := "isIndex", desc := "(II)Z" } : Jvm.MethodName) prog_1_method_24_code (2 : Nat) (Option.some Jvm.ClassFile.FieldType.boolean)) ∈ gw_tbl := List.mem_filter.mpr ⟨kt_2 _ (List.mem_of_getElem? (i := 32) rfl), rfl⟩
theorem kw_2_33 : (Jvm.Cond.methodLink "BoostForestsLaw" (23 : Nat) ({ cls := "BoostForests", name := "set", desc := "(II)I" } : Jvm.MethodName)) ∈ gw_tbl := List.mem_filter.mpr ⟨kt_2 _ (List.mem_of_getElem? (i := 33) rfl), rfl⟩
theorem kw_2_34 : (Jvm.Cond.instanceMethod ({ cls := "BoostForests", name := "set", desc := "(II)I" } : Jvm.MethodName)) ∈ gw_tbl := List.mem_filter.mpr ⟨kt_2 _ (List.mem_of_getElem? (i := 34) rfl), rfl⟩
theorem kw_2_35 : (Jvm.Cond.selects "BoostForests" ({ cls := "BoostForests", name := "set", desc := "(II)I" } : Jvm.MethodName) ({ cls := "BoostForests", name := "set", desc := "(II)I" } : Jvm.MethodName)) ∈ gw_tbl := List.mem_filter.mpr ⟨kt_2 _ (List.mem_of_getElem? (i := 35) rfl), rfl⟩
theorem kw_2_36 : (Jvm.Cond.code ({ cls := "BoostForests", name := "set", desc := "(II)I" } : Jvm.MethodName) prog_1_method_4_code (4 : Nat) (Option.some Jvm.ClassFile.FieldType.int)) ∈ gw_tbl := List.mem_filter.mpr ⟨kt_2 _ (List.mem_of_getElem? (i := 36) rfl), rfl⟩
theorem kw_2_37 : (Jvm.Cond.fieldLink "BoostForests" (66 : Nat) "BoostForests" "LOWEST" "[I") ∈ gw_tbl := List.mem_filter.mpr ⟨kt_2 _ (List.mem_of_getElem? (i := 37) rfl), rfl⟩
theorem kl_2_38 : (Jvm.Cond.laysStatic "BoostForests" "LOWEST" "[I") ∈ lw_tbl := kt_2 _ (List.mem_of_getElem? (i := 38) rfl)
theorem kw_2_39 : (Jvm.Cond.fieldLink "BoostForests" (69 : Nat) "BoostForests" "HIGHEST" "[I") ∈ gw_tbl := List.mem_filter.mpr ⟨kt_2 _ (List.mem_of_getElem? (i := 39) rfl), rfl⟩
theorem kl_2_40 : (Jvm.Cond.laysStatic "BoostForests" "HIGHEST" "[I") ∈ lw_tbl := kt_2 _ (List.mem_of_getElem? (i := 40) rfl)
theorem kw_2_41 : (Jvm.Cond.methodLink "BoostForestsLaw" (27 : Nat) ({ cls := "BoostForests", name := "clear", desc := "()I" } : Jvm.MethodName)) ∈ gw_tbl := List.mem_filter.mpr ⟨kt_2 _ (List.mem_of_getElem? (i := 41) rfl), rfl⟩
theorem kw_2_42 : (Jvm.Cond.instanceMethod ({ cls := "BoostForests", name := "clear", desc := "()I" } : Jvm.MethodName)) ∈ gw_tbl := List.mem_filter.mpr ⟨kt_2 _ (List.mem_of_getElem? (i := 42) rfl), rfl⟩
theorem kw_2_43 : (Jvm.Cond.selects "BoostForests" ({ cls := "BoostForests", name := "clear", desc := "()I" } : Jvm.MethodName) ({ cls := "BoostForests", name := "clear", desc := "()I" } : Jvm.MethodName)) ∈ gw_tbl := List.mem_filter.mpr ⟨kt_2 _ (List.mem_of_getElem? (i := 43) rfl), rfl⟩
theorem kw_2_44 : (Jvm.Cond.code ({ cls := "BoostForests", name := "clear", desc := "()I" } : Jvm.MethodName) prog_1_method_5_code (2 : Nat) (Option.some Jvm.ClassFile.FieldType.int)) ∈ gw_tbl := List.mem_filter.mpr ⟨kt_2 _ (List.mem_of_getElem? (i := 44) rfl), rfl⟩
theorem kw_2_45 : (Jvm.Cond.methodLink "BoostForestsLaw" (32 : Nat) ({ cls := "BoostForests", name := "train", desc := "()I" } : Jvm.MethodName)) ∈ gw_tbl := List.mem_filter.mpr ⟨kt_2 _ (List.mem_of_getElem? (i := 45) rfl), rfl⟩
theorem kw_2_46 : (Jvm.Cond.instanceMethod ({ cls := "BoostForests", name := "train", desc := "()I" } : Jvm.MethodName)) ∈ gw_tbl := List.mem_filter.mpr ⟨kt_2 _ (List.mem_of_getElem? (i := 46) rfl), rfl⟩
theorem kw_2_47 : (Jvm.Cond.selects "BoostForests" ({ cls := "BoostForests", name := "train", desc := "()I" } : Jvm.MethodName) ({ cls := "BoostForests", name := "train", desc := "()I" } : Jvm.MethodName)) ∈ gw_tbl := List.mem_filter.mpr ⟨kt_2 _ (List.mem_of_getElem? (i := 47) rfl), rfl⟩
theorem kw_2_48 : (Jvm.Cond.code ({ cls := "BoostForests", name := "train", desc := "()I" } : Jvm.MethodName) prog_1_method_6_code (1 : Nat) (Option.some Jvm.ClassFile.FieldType.int)) ∈ gw_tbl := List.mem_filter.mpr ⟨kt_2 _ (List.mem_of_getElem? (i := 48) rfl), rfl⟩
theorem kw_2_49 : (Jvm.Cond.methodLink "BoostForests" (72 : Nat) ({ cls := "BoostForests$Table", name := "heldRows", desc := "()I" } : Jvm.MethodName)) ∈ gw_tbl := List.mem_filter.mpr ⟨kt_2 _ (List.mem_of_getElem? (i := 49) rfl), rfl⟩
theorem kw_2_50 : (Jvm.Cond.instanceMethod ({ cls := "BoostForests$Table", name := "heldRows", desc := "()I" } : Jvm.MethodName)) ∈ gw_tbl := List.mem_filter.mpr ⟨kt_2 _ (List.mem_of_getElem? (i := 50) rfl), rfl⟩
theorem kw_2_51 : (Jvm.Cond.selects "BoostForests$Table" ({ cls := "BoostForests$Table", name := "heldRows", desc := "()I" } : Jvm.MethodName) ({ cls := "BoostForests$Table", name := "heldRows", desc := "()I" } : Jvm.MethodName)) ∈ gw_tbl := List.mem_filter.mpr ⟨kt_2 _ (List.mem_of_getElem? (i := 51) rfl), rfl⟩
theorem kw_2_52 : (Jvm.Cond.code ({ cls := "BoostForests$Table", name := "heldRows", desc := "()I" } : Jvm.MethodName) prog_5_method_3_code (3 : Nat) (Option.some Jvm.ClassFile.FieldType.int)) ∈ gw_tbl := List.mem_filter.mpr ⟨kt_2 _ (List.mem_of_getElem? (i := 52) rfl), rfl⟩
theorem kw_2_53 : (Jvm.Cond.methodLink "BoostForests" (76 : Nat) ({ cls := "BoostForests$Training", name := "run", desc := "(LBoostForests$Table;[I)V" } : Jvm.MethodName)) ∈ gw_tbl := List.mem_filter.mpr ⟨kt_2 _ (List.mem_of_getElem? (i := 53) rfl), rfl⟩
theorem kw_2_54 : (Jvm.Cond.instanceMethod ({ cls := "BoostForests$Training", name := "run", desc := "(LBoostForests$Table;[I)V" } : Jvm.MethodName)) ∈ gw_tbl := List.mem_filter.mpr ⟨kt_2 _ (List.mem_of_getElem? (i := 54) rfl), rfl⟩
theorem kw_2_55 : (Jvm.Cond.selects "BoostForests$Training" ({ cls := "BoostForests$Training", name := "run", desc := "(LBoostForests$Table;[I)V" } : Jvm.MethodName) ({ cls := "BoostForests$Training", name := "run", desc := "(LBoostForests$Table;[I)V" } : Jvm.MethodName)) ∈ gw_tbl := List.mem_filter.mpr ⟨kt_2 _ (List.mem_of_getElem? (i := 55) rfl), rfl⟩
theorem kw_2_56 : (Jvm.Cond.code ({ cls := "BoostForests$Training", name := "run", desc := "(LBoostForests$Table;[I)V" } : Jvm.MethodName) prog_6_method_2_code (8 : Nat) (Option.none : Option Jvm.ClassFile.FieldType)) ∈ gw_tbl := List.mem_filter.mpr ⟨kt_2 _ (List.mem_of_getElem? (i := 56) rfl), rfl⟩
theorem kw_2_57 : (Jvm.Cond.methodLink "BoostForests$Training" (50 : Nat) ({ cls := "BoostForests$Table", name := "copyFrom", desc := "(LBoostForests$Table;)V" } : Jvm.MethodName)) ∈ gw_tbl := List.mem_filter.mpr ⟨kt_2 _ (List.mem_of_getElem? (i := 57) rfl), rfl⟩
theorem kw_2_58 : (Jvm.Cond.instanceMethod ({ cls := "BoostForests$Table", name := "copyFrom", desc := "(LBoostForests$Table;)V" } : Jvm.MethodName)) ∈ gw_tbl := List.mem_filter.mpr ⟨kt_2 _ (List.mem_of_getElem? (i := 58) rfl), rfl⟩
theorem kw_2_59 : (Jvm.Cond.selects "BoostForests$Table" ({ cls := "BoostForests$Table", name := "copyFrom", desc := "(LBoostForests$Table;)V" } : Jvm.MethodName) ({ cls := "BoostForests$Table", name := "copyFrom", desc := "(LBoostForests$Table;)V" } : Jvm.MethodName)) ∈ gw_tbl := List.mem_filter.mpr ⟨kt_2 _ (List.mem_of_getElem? (i := 59) rfl), rfl⟩
theorem kw_2_60 : (Jvm.Cond.code ({ cls := "BoostForests$Table", name := "copyFrom", desc := "(LBoostForests$Table;)V" } : Jvm.MethodName) prog_5_method_4_code (3 : Nat) (Option.none : Option Jvm.ClassFile.FieldType)) ∈ gw_tbl := List.mem_filter.mpr ⟨kt_2 _ (List.mem_of_getElem? (i := 60) rfl), rfl⟩
theorem kw_2_61 : (Jvm.Cond.methodLink "BoostForests$Table" (37 : Nat) ({ cls := "BoostForests$Table", name := "append", desc := "([III)I" } : Jvm.MethodName)) ∈ gw_tbl := List.mem_filter.mpr ⟨kt_2 _ (List.mem_of_getElem? (i := 61) rfl), rfl⟩
theorem kw_2_62 : (Jvm.Cond.methodLink "BoostForests$Training" (56 : Nat) ({ cls := "java/lang/System", name := "arraycopy", desc := "(Ljava/lang/Object;ILjava/lang/Object;II)V" } : Jvm.MethodName)) ∈ gw_tbl := List.mem_filter.mpr ⟨kt_2 _ (List.mem_of_getElem? (i := 62) rfl), rfl⟩
theorem kw_2_63 : (Jvm.Cond.methodLink "BoostForests$Training" (62 : Nat) ({ cls := "BoostForests$Training", name := "begin", desc := "()V" } : Jvm.MethodName)) ∈ gw_tbl := List.mem_filter.mpr ⟨kt_2 _ (List.mem_of_getElem? (i := 63) rfl), rfl⟩
theorem kl_2_64 : (Jvm.Cond.privateMethod ({ cls := "BoostForests$Training", name := "begin", desc := "()V" } : Jvm.MethodName)) ∈ lw_tbl := kt_2 _ (List.mem_of_getElem? (i := 64) rfl)
theorem kw_2_65 : (Jvm.Cond.instanceMethod ({ cls := "BoostForests$Training", name := "begin", desc := "()V" } : Jvm.MethodName)) ∈ gw_tbl := List.mem_filter.mpr ⟨kt_2 _ (List.mem_of_getElem? (i := 65) rfl), rfl⟩
theorem kw_2_66 : (Jvm.Cond.code ({ cls := "BoostForests$Training", name := "begin", desc := "()V" } : Jvm.MethodName) prog_6_method_3_code (2 : Nat) (Option.none : Option Jvm.ClassFile.FieldType)) ∈ gw_tbl := List.mem_filter.mpr ⟨kt_2 _ (List.mem_of_getElem? (i := 66) rfl), rfl⟩
theorem kw_2_67 : (Jvm.Cond.methodLink "BoostForests$Training" (94 : Nat) ({ cls := "BoostForests$Training", name := "baseUnits", desc := "()J" } : Jvm.MethodName)) ∈ gw_tbl := List.mem_filter.mpr ⟨kt_2 _ (List.mem_of_getElem? (i := 67) rfl), rfl⟩
theorem kl_2_68 : (Jvm.Cond.privateMethod ({ cls := "BoostForests$Training", name := "baseUnits", desc := "()J" } : Jvm.MethodName)) ∈ lw_tbl := kt_2 _ (List.mem_of_getElem? (i := 68) rfl)
theorem kw_2_69 : (Jvm.Cond.instanceMethod ({ cls := "BoostForests$Training", name := "baseUnits", desc := "()J" } : Jvm.MethodName)) ∈ gw_tbl := List.mem_filter.mpr ⟨kt_2 _ (List.mem_of_getElem? (i := 69) rfl), rfl⟩
theorem kw_2_70 : (Jvm.Cond.code ({ cls := "BoostForests$Training", name := "baseUnits", desc := "()J" } : Jvm.MethodName) prog_6_method_16_code (1 : Nat) (Option.some Jvm.ClassFile.FieldType.long)) ∈ gw_tbl := List.mem_filter.mpr ⟨kt_2 _ (List.mem_of_getElem? (i := 70) rfl), rfl⟩
theorem kw_2_71 : (Jvm.Cond.constantLong "BoostForests$Training" (168 : Nat) (256 : Int64)) ∈ gw_tbl := List.mem_filter.mpr ⟨kt_2 _ (List.mem_of_getElem? (i := 71) rfl), rfl⟩
theorem kw_2_72 : (Jvm.Cond.methodLink "BoostForests$Training" (98 : Nat) ({ cls := "BoostForests$Training", name := "keepLosses", desc := "()V" } : Jvm.MethodName)) ∈ gw_tbl := List.mem_filter.mpr ⟨kt_2 _ (List.mem_of_getElem? (i := 72) rfl), rfl⟩
theorem kl_2_73 : (Jvm.Cond.privateMethod ({ cls := "BoostForests$Training", name := "keepLosses", desc := "()V" } : Jvm.MethodName)) ∈ lw_tbl := kt_2 _ (List.mem_of_getElem? (i := 73) rfl)
theorem kw_2_74 : (Jvm.Cond.instanceMethod ({ cls := "BoostForests$Training", name := "keepLosses", desc := "()V" } : Jvm.MethodName)) ∈ gw_tbl := List.mem_filter.mpr ⟨kt_2 _ (List.mem_of_getElem? (i := 74) rfl), rfl⟩
theorem kw_2_75 : (Jvm.Cond.code ({ cls := "BoostForests$Training", name := "keepLosses", desc := "()V" } : Jvm.MethodName) prog_6_method_5_code (4 : Nat) (Option.none : Option Jvm.ClassFile.FieldType)) ∈ gw_tbl := List.mem_filter.mpr ⟨kt_2 _ (List.mem_of_getElem? (i := 75) rfl), rfl⟩
theorem kw_2_76 : (Jvm.Cond.methodLink "BoostForests$Training" (101 : Nat) ({ cls := "BoostForests$Grower", name := "sortRows", desc := "()V" } : Jvm.MethodName)) ∈ gw_tbl := List.mem_filter.mpr ⟨kt_2 _ (List.mem_of_getElem? (i := 76) rfl), rfl⟩
theorem kw_2_77 : (Jvm.Cond.instanceMethod ({ cls := "BoostForests$Grower", name := "sortRows", desc := "()V" } : Jvm.MethodName)) ∈ gw_tbl := List.mem_filter.mpr ⟨kt_2 _ (List.mem_of_getElem? (i := 77) rfl), rfl⟩
theorem kw_2_78 : (Jvm.Cond.selects "BoostForests$Grower" ({ cls := "BoostForests$Grower", name := "sortRows", desc := "()V" } : Jvm.MethodName) ({ cls := "BoostForests$Grower", name := "sortRows", desc := "()V" } : Jvm.MethodName)) ∈ gw_tbl := List.mem_filter.mpr ⟨kt_2 _ (List.mem_of_getElem? (i := 78) rfl), rfl⟩
theorem kw_2_79 : (Jvm.Cond.code ({ cls := "BoostForests$Grower", name := "sortRows", desc := "()V" } : Jvm.MethodName) prog_2_method_2_code (4 : Nat) (Option.none : Option Jvm.ClassFile.FieldType)) ∈ gw_tbl := List.mem_filter.mpr ⟨kt_2 _ (List.mem_of_getElem? (i := 79) rfl), rfl⟩
theorem kw_2_80 : (Jvm.Cond.methodLink "BoostForests$Training" (65 : Nat) ({ cls := "BoostForests$Table", name := "heldRows", desc := "()I" } : Jvm.MethodName)) ∈ gw_tbl := List.mem_filter.mpr ⟨kt_2 _ (List.mem_of_getElem? (i := 80) rfl), rfl⟩
theorem kw_2_81 : (Jvm.Cond.methodLink "BoostForests$Training" (69 : Nat) ({ cls := "BoostForests$Grower", name := "growTree", desc := "(LBoostForests$Tree;I[J)V" } : Jvm.MethodName)) ∈ gw_tbl := List.mem_filter.mpr ⟨kt_2 _ (List.mem_of_getElem? (i := 81) rfl), rfl⟩
theorem kw_2_82 : (Jvm.Cond.instanceMethod ({ cls := "BoostForests$Grower", name := "growTree", desc := "(LBoostForests$Tree;I[J)V" } : Jvm.MethodName)) ∈ gw_tbl := List.mem_filter.mpr ⟨kt_2 _ (List.mem_of_getElem? (i := 82) rfl), rfl⟩
theorem kw_2_83 : (Jvm.Cond.selects "BoostForests$Grower" ({ cls := "BoostForests$Grower", name := "growTree", desc := "(LBoostForests$Tree;I[J)V" } : Jvm.MethodName) ({ cls := "BoostForests$Grower", name := "growTree", desc := "(LBoostForests$Tree;I[J)V" } : Jvm.MethodName)) ∈ gw_tbl := List.mem_filter.mpr ⟨kt_2 _ (List.mem_of_getElem? (i := 83) rfl), rfl⟩
theorem kw_2_84 : (Jvm.Cond.code ({ cls := "BoostForests$Grower", name := "growTree", desc := "(LBoostForests$Tree;I[J)V" } : Jvm.MethodName) prog_2_method_3_code (5 : Nat) (Option.none : Option Jvm.ClassFile.FieldType)) ∈ gw_tbl := List.mem_filter.mpr ⟨kt_2 _ (List.mem_of_getElem? (i := 84) rfl), rfl⟩
theorem kw_2_85 : (Jvm.Cond.methodLink "BoostForests$Grower" (70 : Nat) ({ cls := "BoostForests$Grower", name := "drawRows", desc := "(I[J)V" } : Jvm.MethodName)) ∈ gw_tbl := List.mem_filter.mpr ⟨kt_2 _ (List.mem_of_getElem? (i := 85) rfl), rfl⟩
theorem kl_2_86 : (Jvm.Cond.privateMethod ({ cls := "BoostForests$Grower", name := "drawRows", desc := "(I[J)V" } : Jvm.MethodName)) ∈ lw_tbl := kt_2 _ (List.mem_of_getElem? (i := 86) rfl)
theorem kw_2_87 : (Jvm.Cond.instanceMethod ({ cls := "BoostForests$Grower", name := "drawRows", desc := "(I[J)V" } : Jvm.MethodName)) ∈ gw_tbl := List.mem_filter.mpr ⟨kt_2 _ (List.mem_of_getElem? (i := 87) rfl), rfl⟩
theorem kw_2_88 : (Jvm.Cond.code ({ cls := "BoostForests$Grower", name := "drawRows", desc := "(I[J)V" } : Jvm.MethodName) prog_2_method_5_code (5 : Nat) (Option.none : Option Jvm.ClassFile.FieldType)) ∈ gw_tbl := List.mem_filter.mpr ⟨kt_2 _ (List.mem_of_getElem? (i := 88) rfl), rfl⟩
theorem kw_2_89 : (Jvm.Cond.methodLink "BoostForests$Grower" (113 : Nat) ({ cls := "BoostForests$Grower", name := "drawn", desc := "(I)I" } : Jvm.MethodName)) ∈ gw_tbl := List.mem_filter.mpr ⟨kt_2 _ (List.mem_of_getElem? (i := 89) rfl), rfl⟩
theorem kl_2_90 : (Jvm.Cond.privateMethod ({ cls := "BoostForests$Grower", name := "drawn", desc := "(I)I" } : Jvm.MethodName)) ∈ lw_tbl := kt_2 _ (List.mem_of_getElem? (i := 90) rfl)
theorem kw_2_91 : (Jvm.Cond.instanceMethod ({ cls := "BoostForests$Grower", name := "drawn", desc := "(I)I" } : Jvm.MethodName)) ∈ gw_tbl := List.mem_filter.mpr ⟨kt_2 _ (List.mem_of_getElem? (i := 91) rfl), rfl⟩
theorem kw_2_92 : (Jvm.Cond.code ({ cls := "BoostForests$Grower", name := "drawn", desc := "(I)I" } : Jvm.MethodName) prog_2_method_12_code (3 : Nat) (Option.some Jvm.ClassFile.FieldType.int)) ∈ gw_tbl := List.mem_filter.mpr ⟨kt_2 _ (List.mem_of_getElem? (i := 92) rfl), rfl⟩
theorem kw_2_93 : (Jvm.Cond.constant "BoostForests$Grower" (174 : Nat) (1000003 : Int32)) ∈ gw_tbl := List.mem_filter.mpr ⟨kt_2 _ (List.mem_of_getElem? (i := 93) rfl), rfl⟩
theorem kw_2_94 : (Jvm.Cond.constant "BoostForests$Grower" (175 : Nat) (739982445 : Int32)) ∈ gw_tbl := List.mem_filter.mpr ⟨kt_2 _ (List.mem_of_getElem? (i := 94) rfl), rfl⟩
theorem kw_2_95 : (Jvm.Cond.constant "BoostForests$Grower" (176 : Nat) (695872825 : Int32)) ∈ gw_tbl := List.mem_filter.mpr ⟨kt_2 _ (List.mem_of_getElem? (i := 95) rfl), rfl⟩
theorem kw_2_96 : (Jvm.Cond.methodLink "BoostForests$Grower" (79 : Nat) ({ cls := "BoostForests$Tree", name := "appendNode", desc := "(I)V" } : Jvm.MethodName)) ∈ gw_tbl := List.mem_filter.mpr ⟨kt_2 _ (List.mem_of_getElem? (i := 96) rfl), rfl⟩
theorem kw_2_97 : (Jvm.Cond.instanceMethod ({ cls := "BoostForests$Tree", name := "appendNode", desc := "(I)V" } : Jvm.MethodName)) ∈ gw_tbl := List.mem_filter.mpr ⟨kt_2 _ (List.mem_of_getElem? (i := 97) rfl), rfl⟩
theorem kw_2_98 : (Jvm.Cond.selects "BoostForests$Tree" ({ cls := "BoostForests$Tree", name := "appendNode", desc := "(I)V" } : Jvm.MethodName) ({ cls := "BoostForests$Tree", name := "appendNode", desc := "(I)V" } : Jvm.MethodName)) ∈ gw_tbl := List.mem_filter.mpr ⟨kt_2 _ (List.mem_of_getElem? (i := 98) rfl), rfl⟩
theorem kw_2_99 : (Jvm.Cond.code ({ cls := "BoostForests$Tree", name := "appendNode", desc := "(I)V" } : Jvm.MethodName) prog_7_method_2_code (3 : Nat) (Option.none : Option Jvm.ClassFile.FieldType)) ∈ gw_tbl := List.mem_filter.mpr ⟨kt_2 _ (List.mem_of_getElem? (i := 99) rfl), rfl⟩
theorem kw_2_100 : (Jvm.Cond.methodLink "BoostForests$Grower" (83 : Nat) ({ cls := "BoostForests$Grower", name := "gatherNode", desc := "(I)V" } : Jvm.MethodName)) ∈ gw_tbl := List.mem_filter.mpr ⟨kt_2 _ (List.mem_of_getElem? (i := 100) rfl), rfl⟩
theorem kl_2_101 : (Jvm.Cond.privateMethod ({ cls := "BoostForests$Grower", name := "gatherNode", desc := "(I)V" } : Jvm.MethodName)) ∈ lw_tbl := kt_2 _ (List.mem_of_getElem? (i := 101) rfl)
theorem kw_2_102 : (Jvm.Cond.instanceMethod ({ cls := "BoostForests$Grower", name := "gatherNode", desc := "(I)V" } : Jvm.MethodName)) ∈ gw_tbl := List.mem_filter.mpr ⟨kt_2 _ (List.mem_of_getElem? (i := 102) rfl), rfl⟩
theorem kw_2_103 : (Jvm.Cond.code ({ cls := "BoostForests$Grower", name := "gatherNode", desc := "(I)V" } : Jvm.MethodName) prog_2_method_6_code (3 : Nat) (Option.none : Option Jvm.ClassFile.FieldType)) ∈ gw_tbl := List.mem_filter.mpr ⟨kt_2 _ (List.mem_of_getElem? (i := 103) rfl), rfl⟩
theorem kw_2_104 : (Jvm.Cond.methodLink "BoostForests$Grower" (123 : Nat) ({ cls := "BoostForests$Sums", name := "empty", desc := "()V" } : Jvm.MethodName)) ∈ gw_tbl := List.mem_filter.mpr ⟨kt_2 _ (List.mem_of_getElem? (i := 104) rfl), rfl⟩
theorem kw_2_105 : (Jvm.Cond.instanceMethod ({ cls := "BoostForests$Sums", name := "empty", desc := "()V" } : Jvm.MethodName)) ∈ gw_tbl := List.mem_filter.mpr ⟨kt_2 _ (List.mem_of_getElem? (i := 105) rfl), rfl⟩
theorem kw_2_106 : (Jvm.Cond.selects "BoostForests$Sums" ({ cls := "BoostForests$Sums", name := "empty", desc := "()V" } : Jvm.MethodName) ({ cls := "BoostForests$Sums", name := "empty", desc := "()V" } : Jvm.MethodName)) ∈ gw_tbl := List.mem_filter.mpr ⟨kt_2 _ (List.mem_of_getElem? (i := 106) rfl), rfl⟩
theorem kw_2_107 : (Jvm.Cond.code ({ cls := "BoostForests$Sums", name := "empty", desc := "()V" } : Jvm.MethodName) prog_4_method_2_code (1 : Nat) (Option.none : Option Jvm.ClassFile.FieldType)) ∈ gw_tbl := List.mem_filter.mpr ⟨kt_2 _ (List.mem_of_getElem? (i := 107) rfl), rfl⟩
theorem kw_2_108 : (Jvm.Cond.methodLink "BoostForests$Grower" (126 : Nat) ({ cls := "BoostForests$Sums", name := "addRow", desc := "(JI)V" } : Jvm.MethodName)) ∈ gw_tbl := List.mem_filter.mpr ⟨kt_2 _ (List.mem_of_getElem? (i := 108) rfl), rfl⟩
theorem kw_2_109 : (Jvm.Cond.instanceMethod ({ cls := "BoostForests$Sums", name := "addRow", desc := "(JI)V" } : Jvm.MethodName)) ∈ gw_tbl := List.mem_filter.mpr ⟨kt_2 _ (List.mem_of_getElem? (i := 109) rfl), rfl⟩
theorem kw_2_110 : (Jvm.Cond.selects "BoostForests$Sums" ({ cls := "BoostForests$Sums", name := "addRow", desc := "(JI)V" } : Jvm.MethodName) ({ cls := "BoostForests$Sums", name := "addRow", desc := "(JI)V" } : Jvm.MethodName)) ∈ gw_tbl := List.mem_filter.mpr ⟨kt_2 _ (List.mem_of_getElem? (i := 110) rfl), rfl⟩
theorem kw_2_111 : (Jvm.Cond.code ({ cls := "BoostForests$Sums", name := "addRow", desc := "(JI)V" } : Jvm.MethodName) prog_4_method_3_code (4 : Nat) (Option.none : Option Jvm.ClassFile.FieldType)) ∈ gw_tbl := List.mem_filter.mpr ⟨kt_2 _ (List.mem_of_getElem? (i := 111) rfl), rfl⟩
theorem kw_2_112 : (Jvm.Cond.methodLink "BoostForests$Grower" (86 : Nat) ({ cls := "BoostForests$Tree", name := "keepSums", desc := "(ILBoostForests$Sums;I)V" } : Jvm.MethodName)) ∈ gw_tbl := List.mem_filter.mpr ⟨kt_2 _ (List.mem_of_getElem? (i := 112) rfl), rfl⟩
theorem kw_2_113 : (Jvm.Cond.instanceMethod ({ cls := "BoostForests$Tree", name := "keepSums", desc := "(ILBoostForests$Sums;I)V" } : Jvm.MethodName)) ∈ gw_tbl := List.mem_filter.mpr ⟨kt_2 _ (List.mem_of_getElem? (i := 113) rfl), rfl⟩
theorem kw_2_114 : (Jvm.Cond.selects "BoostForests$Tree" ({ cls := "BoostForests$Tree", name := "keepSums", desc := "(ILBoostForests$Sums;I)V" } : Jvm.MethodName) ({ cls := "BoostForests$Tree", name := "keepSums", desc := "(ILBoostForests$Sums;I)V" } : Jvm.MethodName)) ∈ gw_tbl := List.mem_filter.mpr ⟨kt_2 _ (List.mem_of_getElem? (i := 114) rfl), rfl⟩
theorem kw_2_115 : (Jvm.Cond.code ({ cls := "BoostForests$Tree", name := "keepSums", desc := "(ILBoostForests$Sums;I)V" } : Jvm.MethodName) prog_7_method_3_code (4 : Nat) (Option.none : Option Jvm.ClassFile.FieldType)) ∈ gw_tbl := List.mem_filter.mpr ⟨kt_2 _ (List.mem_of_getElem? (i := 115) rfl), rfl⟩
theorem kw_2_116 : (Jvm.Cond.methodLink "BoostForests$Tree" (37 : Nat) ({ cls := "BoostForests$Sums", name := "valueWith", desc := "(I)J" } : Jvm.MethodName)) ∈ gw_tbl := List.mem_filter.mpr ⟨kt_2 _ (List.mem_of_getElem? (i := 116) rfl), rfl⟩
theorem kw_2_117 : (Jvm.Cond.instanceMethod ({ cls := "BoostForests$Sums", name := "valueWith", desc := "(I)J" } : Jvm.MethodName)) ∈ gw_tbl := List.mem_filter.mpr ⟨kt_2 _ (List.mem_of_getElem? (i := 117) rfl), rfl⟩
theorem kw_2_118 : (Jvm.Cond.selects "BoostForests$Sums" ({ cls := "BoostForests$Sums", name := "valueWith", desc := "(I)J" } : Jvm.MethodName) ({ cls := "BoostForests$Sums", name := "valueWith", desc := "(I)J" } : Jvm.MethodName)) ∈ gw_tbl := List.mem_filter.mpr ⟨kt_2 _ (List.mem_of_getElem? (i := 118) rfl), rfl⟩
theorem kw_2_119 : (Jvm.Cond.code ({ cls := "BoostForests$Sums", name := "valueWith", desc := "(I)J" } : Jvm.MethodName) prog_4_method_6_code (4 : Nat) (Option.some Jvm.ClassFile.FieldType.long)) ∈ gw_tbl := List.mem_filter.mpr ⟨kt_2 _ (List.mem_of_getElem? (i := 119) rfl), rfl⟩
theorem kw_2_120 : (Jvm.Cond.methodLink "BoostForests$Grower" (90 : Nat) ({ cls := "BoostForests$Tree", name := "mayDivide", desc := "(II)Z" } : Jvm.MethodName)) ∈ gw_tbl := List.mem_filter.mpr ⟨kt_2 _ (List.mem_of_getElem? (i := 120) rfl), rfl⟩
theorem kw_2_121 : (Jvm.Cond.instanceMethod ({ cls := "BoostForests$Tree", name := "mayDivide", desc := "(II)Z" } : Jvm.MethodName)) ∈ gw_tbl := List.mem_filter.mpr ⟨kt_2 _ (List.mem_of_getElem? (i := 121) rfl), rfl⟩
theorem kw_2_122 : (Jvm.Cond.selects "BoostForests$Tree" ({ cls := "BoostForests$Tree", name := "mayDivide", desc := "(II)Z" } : Jvm.MethodName) ({ cls := "BoostForests$Tree", name := "mayDivide", desc := "(II)Z" } : Jvm.MethodName)) ∈ gw_tbl := List.mem_filter.mpr ⟨kt_2 _ (List.mem_of_getElem? (i := 122) rfl), rfl⟩
theorem kw_2_123 : (Jvm.Cond.code ({ cls := "BoostForests$Tree", name := "mayDivide", desc := "(II)Z" } : Jvm.MethodName) prog_7_method_4_code (3 : Nat) (Option.some Jvm.ClassFile.FieldType.boolean)) ∈ gw_tbl := List.mem_filter.mpr ⟨kt_2 _ (List.mem_of_getElem? (i := 123) rfl), rfl⟩
theorem kw_2_124 : (Jvm.Cond.methodLink "BoostForests$Grower" (94 : Nat) ({ cls := "BoostForests$Grower", name := "findSplit", desc := "(II)V" } : Jvm.MethodName)) ∈ gw_tbl := List.mem_filter.mpr ⟨kt_2 _ (List.mem_of_getElem? (i := 124) rfl), rfl⟩
theorem kl_2_125 : (Jvm.Cond.privateMethod ({ cls := "BoostForests$Grower", name := "findSplit", desc := "(II)V" } : Jvm.MethodName)) ∈ lw_tbl := kt_2 _ (List.mem_of_getElem? (i := 125) rfl)
theorem kw_2_126 : (Jvm.Cond.instanceMethod ({ cls := "BoostForests$Grower", name := "findSplit", desc := "(II)V" } : Jvm.MethodName)) ∈ gw_tbl := List.mem_filter.mpr ⟨kt_2 _ (List.mem_of_getElem? (i := 126) rfl), rfl⟩
theorem kw_2_127 : (Jvm.Cond.code ({ cls := "BoostForests$Grower", name := "findSplit", desc := "(II)V" } : Jvm.MethodName) prog_2_method_8_code (4 : Nat) (Option.none : Option Jvm.ClassFile.FieldType)) ∈ gw_tbl := List.mem_filter.mpr ⟨kt_2 _ (List.mem_of_getElem? (i := 127) rfl), rfl⟩
theorem kw_2_128 : (Jvm.Cond.methodLink "BoostForests$Grower" (134 : Nat) ({ cls := "BoostForests$Split", name := "forget", desc := "(J)V" } : Jvm.MethodName)) ∈ gw_tbl := List.mem_filter.mpr ⟨kt_2 _ (List.mem_of_getElem? (i := 128) rfl), rfl⟩
theorem kw_2_129 : (Jvm.Cond.instanceMethod ({ cls := "BoostForests$Split", name := "forget", desc := "(J)V" } : Jvm.MethodName)) ∈ gw_tbl := List.mem_filter.mpr ⟨kt_2 _ (List.mem_of_getElem? (i := 129) rfl), rfl⟩
theorem kw_2_130 : (Jvm.Cond.selects "BoostForests$Split" ({ cls := "BoostForests$Split", name := "forget", desc := "(J)V" } : Jvm.MethodName) ({ cls := "BoostForests$Split", name := "forget", desc := "(J)V" } : Jvm.MethodName)) ∈ gw_tbl := List.mem_filter.mpr ⟨kt_2 _ (List.mem_of_getElem? (i := 130) rfl), rfl⟩
theorem kw_2_131 : (Jvm.Cond.code ({ cls := "BoostForests$Split", name := "forget", desc := "(J)V" } : Jvm.MethodName) prog_3_method_2_code (3 : Nat) (Option.none : Option Jvm.ClassFile.FieldType)) ∈ gw_tbl := List.mem_filter.mpr ⟨kt_2 _ (List.mem_of_getElem? (i := 131) rfl), rfl⟩
theorem kw_2_132 : (Jvm.Cond.methodLink "BoostForests$Split" (9 : Nat) ({ cls := "BoostForests$Split", name := "become", desc := "(IIIJ)V" } : Jvm.MethodName)) ∈ gw_tbl := List.mem_filter.mpr ⟨kt_2 _ (List.mem_of_getElem? (i := 132) rfl), rfl⟩
theorem kw_2_133 : (Jvm.Cond.instanceMethod ({ cls := "BoostForests$Split", name := "become", desc := "(IIIJ)V" } : Jvm.MethodName)) ∈ gw_tbl := List.mem_filter.mpr ⟨kt_2 _ (List.mem_of_getElem? (i := 133) rfl), rfl⟩
theorem kw_2_134 : (Jvm.Cond.selects "BoostForests$Split" ({ cls := "BoostForests$Split", name := "become", desc := "(IIIJ)V" } : Jvm.MethodName) ({ cls := "BoostForests$Split", name := "become", desc := "(IIIJ)V" } : Jvm.MethodName)) ∈ gw_tbl := List.mem_filter.mpr ⟨kt_2 _ (List.mem_of_getElem? (i := 134) rfl), rfl⟩
theorem kw_2_135 : (Jvm.Cond.code ({ cls := "BoostForests$Split", name := "become", desc := "(IIIJ)V" } : Jvm.MethodName) prog_3_method_3_code (6 : Nat) (Option.none : Option Jvm.ClassFile.FieldType)) ∈ gw_tbl := List.mem_filter.mpr ⟨kt_2 _ (List.mem_of_getElem? (i := 135) rfl), rfl⟩
theorem kw_2_136 : (Jvm.Cond.constant "BoostForests$Grower" (138 : Nat) (100000 : Int32)) ∈ gw_tbl := List.mem_filter.mpr ⟨kt_2 _ (List.mem_of_getElem? (i := 136) rfl), rfl⟩
theorem kw_2_137 : (Jvm.Cond.methodLink "BoostForests$Grower" (139 : Nat) ({ cls := "BoostForests$Grower", name := "tryColumn", desc := "(II)V" } : Jvm.MethodName)) ∈ gw_tbl := List.mem_filter.mpr ⟨kt_2 _ (List.mem_of_getElem? (i := 137) rfl), rfl⟩
theorem kl_2_138 : (Jvm.Cond.privateMethod ({ cls := "BoostForests$Grower", name := "tryColumn", desc := "(II)V" } : Jvm.MethodName)) ∈ lw_tbl := kt_2 _ (List.mem_of_getElem? (i := 138) rfl)
theorem kw_2_139 : (Jvm.Cond.instanceMethod ({ cls := "BoostForests$Grower", name := "tryColumn", desc := "(II)V" } : Jvm.MethodName)) ∈ gw_tbl := List.mem_filter.mpr ⟨kt_2 _ (List.mem_of_getElem? (i := 139) rfl), rfl⟩
theorem kw_2_140 : (Jvm.Cond.code ({ cls := "BoostForests$Grower", name := "tryColumn", desc := "(II)V" } : Jvm.MethodName) prog_2_method_9_code (7 : Nat) (Option.none : Option Jvm.ClassFile.FieldType)) ∈ gw_tbl := List.mem_filter.mpr ⟨kt_2 _ (List.mem_of_getElem? (i := 140) rfl), rfl⟩
theorem kw_2_141 : (Jvm.Cond.methodLink "BoostForests$Grower" (142 : Nat) ({ cls := "BoostForests$Grower", name := "trySplit", desc := "(III)V" } : Jvm.MethodName)) ∈ gw_tbl := List.mem_filter.mpr ⟨kt_2 _ (List.mem_of_getElem? (i := 141) rfl), rfl⟩
theorem kl_2_142 : (Jvm.Cond.privateMethod ({ cls := "BoostForests$Grower", name := "trySplit", desc := "(III)V" } : Jvm.MethodName)) ∈ lw_tbl := kt_2 _ (List.mem_of_getElem? (i := 142) rfl)
theorem kw_2_143 : (Jvm.Cond.instanceMethod ({ cls := "BoostForests$Grower", name := "trySplit", desc := "(III)V" } : Jvm.MethodName)) ∈ gw_tbl := List.mem_filter.mpr ⟨kt_2 _ (List.mem_of_getElem? (i := 143) rfl), rfl⟩
theorem kw_2_144 : (Jvm.Cond.code ({ cls := "BoostForests$Grower", name := "trySplit", desc := "(III)V" } : Jvm.MethodName) prog_2_method_10_code (7 : Nat) (Option.none : Option Jvm.ClassFile.FieldType)) ∈ gw_tbl := List.mem_filter.mpr ⟨kt_2 _ (List.mem_of_getElem? (i := 144) rfl), rfl⟩
theorem kw_2_145 : (Jvm.Cond.methodLink "BoostForests$Grower" (148 : Nat) ({ cls := "BoostForests$Sums", name := "becomeSum", desc := "(LBoostForests$Sums;LBoostForests$Sums;)V" } : Jvm.MethodName)) ∈ gw_tbl := List.mem_filter.mpr ⟨kt_2 _ (List.mem_of_getElem? (i := 145) rfl), rfl⟩
theorem kw_2_146 : (Jvm.Cond.instanceMethod ({ cls := "BoostForests$Sums", name := "becomeSum", desc := "(LBoostForests$Sums;LBoostForests$Sums;)V" } : Jvm.MethodName)) ∈ gw_tbl := List.mem_filter.mpr ⟨kt_2 _ (List.mem_of_getElem? (i := 146) rfl), rfl⟩
theorem kw_2_147 : (Jvm.Cond.selects "BoostForests$Sums" ({ cls := "BoostForests$Sums", name := "becomeSum", desc := "(LBoostForests$Sums;LBoostForests$Sums;)V" } : Jvm.MethodName) ({ cls := "BoostForests$Sums", name := "becomeSum", desc := "(LBoostForests$Sums;LBoostForests$Sums;)V" } : Jvm.MethodName)) ∈ gw_tbl := List.mem_filter.mpr ⟨kt_2 _ (List.mem_of_getElem? (i := 147) rfl), rfl⟩
theorem kw_2_148 : (Jvm.Cond.code ({ cls := "BoostForests$Sums", name := "becomeSum", desc := "(LBoostForests$Sums;LBoostForests$Sums;)V" } : Jvm.MethodName) prog_4_method_4_code (3 : Nat) (Option.none : Option Jvm.ClassFile.FieldType)) ∈ gw_tbl := List.mem_filter.mpr ⟨kt_2 _ (List.mem_of_getElem? (i := 148) rfl), rfl⟩
theorem kw_2_149 : (Jvm.Cond.methodLink "BoostForests$Grower" (152 : Nat) ({ cls := "BoostForests$Sums", name := "becomeRest", desc := "(LBoostForests$Sums;LBoostForests$Sums;)V" } : Jvm.MethodName)) ∈ gw_tbl := List.mem_filter.mpr ⟨kt_2 _ (List.mem_of_getElem? (i := 149) rfl), rfl⟩
theorem kw_2_150 : (Jvm.Cond.instanceMethod ({ cls := "BoostForests$Sums", name := "becomeRest", desc := "(LBoostForests$Sums;LBoostForests$Sums;)V" } : Jvm.MethodName)) ∈ gw_tbl := List.mem_filter.mpr ⟨kt_2 _ (List.mem_of_getElem? (i := 150) rfl), rfl⟩
theorem kw_2_151 : (Jvm.Cond.selects "BoostForests$Sums" ({ cls := "BoostForests$Sums", name := "becomeRest", desc := "(LBoostForests$Sums;LBoostForests$Sums;)V" } : Jvm.MethodName) ({ cls := "BoostForests$Sums", name := "becomeRest", desc := "(LBoostForests$Sums;LBoostForests$Sums;)V" } : Jvm.MethodName)) ∈ gw_tbl := List.mem_filter.mpr ⟨kt_2 _ (List.mem_of_getElem? (i := 151) rfl), rfl⟩
theorem kw_2_152 : (Jvm.Cond.code ({ cls := "BoostForests$Sums", name := "becomeRest", desc := "(LBoostForests$Sums;LBoostForests$Sums;)V" } : Jvm.MethodName) prog_4_method_5_code (3 : Nat) (Option.none : Option Jvm.ClassFile.FieldType)) ∈ gw_tbl := List.mem_filter.mpr ⟨kt_2 _ (List.mem_of_getElem? (i := 152) rfl), rfl⟩
theorem kw_2_153 : (Jvm.Cond.methodLink "BoostForests$Grower" (155 : Nat) ({ cls := "BoostForests$Sums", name := "worthWith", desc := "(I)J" } : Jvm.MethodName)) ∈ gw_tbl := List.mem_filter.mpr ⟨kt_2 _ (List.mem_of_getElem? (i := 153) rfl), rfl⟩
theorem kw_2_154 : (Jvm.Cond.instanceMethod ({ cls := "BoostForests$Sums", name := "worthWith", desc := "(I)J" } : Jvm.MethodName)) ∈ gw_tbl := List.mem_filter.mpr ⟨kt_2 _ (List.mem_of_getElem? (i := 154) rfl), rfl⟩
theorem kw_2_155 : (Jvm.Cond.selects "BoostForests$Sums" ({ cls := "BoostForests$Sums", name := "worthWith", desc := "(I)J" } : Jvm.MethodName) ({ cls := "BoostForests$Sums", name := "worthWith", desc := "(I)J" } : Jvm.MethodName)) ∈ gw_tbl := List.mem_filter.mpr ⟨kt_2 _ (List.mem_of_getElem? (i := 155) rfl), rfl⟩
theorem kw_2_156 : (Jvm.Cond.code ({ cls := "BoostForests$Sums", name := "worthWith", desc := "(I)J" } : Jvm.MethodName) prog_4_method_7_code (4 : Nat) (Option.some Jvm.ClassFile.FieldType.long)) ∈ gw_tbl := List.mem_filter.mpr ⟨kt_2 _ (List.mem_of_getElem? (i := 156) rfl), rfl⟩
theorem kw_2_157 : (Jvm.Cond.methodLink "BoostForests$Grower" (163 : Nat) ({ cls := "BoostForests$Sums", name := "valueWith", desc := "(I)J" } : Jvm.MethodName)) ∈ gw_tbl := List.mem_filter.mpr ⟨kt_2 _ (List.mem_of_getElem? (i := 157) rfl), rfl⟩
theorem kw_2_158 : (Jvm.Cond.methodLink "BoostForests$Grower" (166 : Nat) ({ cls := "BoostForests$Grower", name := "keepsSign", desc := "(IJJ)Z" } : Jvm.MethodName)) ∈ gw_tbl := List.mem_filter.mpr ⟨kt_2 _ (List.mem_of_getElem? (i := 158) rfl), rfl⟩
theorem kw_2_159 : (Jvm.Cond.static ({ cls := "BoostForests$Grower", name := "keepsSign", desc := "(IJJ)Z" } : Jvm.MethodName)) ∈ gw_tbl := List.mem_filter.mpr ⟨kt_2 _ (List.mem_of_getElem? (i := 159) rfl), rfl⟩
theorem kw_2_160 : (Jvm.Cond.code ({ cls := "BoostForests$Grower", name := "keepsSign", desc := "(IJJ)Z" } : Jvm.MethodName) prog_2_method_11_code (5 : Nat) (Option.some Jvm.ClassFile.FieldType.boolean)) ∈ gw_tbl := List.mem_filter.mpr ⟨kt_2 _ (List.mem_of_getElem? (i := 160) rfl), rfl⟩
theorem kw_2_161 : (Jvm.Cond.methodLink "BoostForests$Grower" (170 : Nat) ({ cls := "BoostForests$Split", name := "become", desc := "(IIIJ)V" } : Jvm.MethodName)) ∈ gw_tbl := List.mem_filter.mpr ⟨kt_2 _ (List.mem_of_getElem? (i := 161) rfl), rfl⟩
theorem kw_2_162 : (Jvm.Cond.methodLink "BoostForests$Grower" (101 : Nat) ({ cls := "BoostForests$Tree", name := "divide", desc := "(ILBoostForests$Split;)V" } : Jvm.MethodName)) ∈ gw_tbl := List.mem_filter.mpr ⟨kt_2 _ (List.mem_of_getElem? (i := 162) rfl), rfl⟩
theorem kw_2_163 : (Jvm.Cond.instanceMethod ({ cls := "BoostForests$Tree", name := "divide", desc := "(ILBoostForests$Split;)V" } : Jvm.MethodName)) ∈ gw_tbl := List.mem_filter.mpr ⟨kt_2 _ (List.mem_of_getElem? (i := 163) rfl), rfl⟩
theorem kw_2_164 : (Jvm.Cond.selects "BoostForests$Tree" ({ cls := "BoostForests$Tree", name := "divide", desc := "(ILBoostForests$Split;)V" } : Jvm.MethodName) ({ cls := "BoostForests$Tree", name := "divide", desc := "(ILBoostForests$Split;)V" } : Jvm.MethodName)) ∈ gw_tbl := List.mem_filter.mpr ⟨kt_2 _ (List.mem_of_getElem? (i := 164) rfl), rfl⟩
theorem kw_2_165 : (Jvm.Cond.code ({ cls := "BoostForests$Tree", name := "divide", desc := "(ILBoostForests$Split;)V" } : Jvm.MethodName) prog_7_method_5_code (3 : Nat) (Option.none : Option Jvm.ClassFile.FieldType)) ∈ gw_tbl := List.mem_filter.mpr ⟨kt_2 _ (List.mem_of_getElem? (i := 165) rfl), rfl⟩
theorem kw_2_166 : (Jvm.Cond.methodLink "BoostForests$Tree" (55 : Nat) ({ cls := "BoostForests$Tree", name := "appendNode", desc := "(I)V" } : Jvm.MethodName)) ∈ gw_tbl := List.mem_filter.mpr ⟨kt_2 _ (List.mem_of_getElem? (i := 166) rfl), rfl⟩
theorem kw_2_167 : (Jvm.Cond.methodLink "BoostForests$Grower" (105 : Nat) ({ cls := "BoostForests$Grower", name := "moveRows", desc := "(LBoostForests$Tree;I)V" } : Jvm.MethodName)) ∈ gw_tbl := List.mem_filter.mpr ⟨kt_2 _ (List.mem_of_getElem? (i := 167) rfl), rfl⟩
theorem kl_2_168 : (Jvm.Cond.privateMethod ({ cls := "BoostForests$Grower", name := "moveRows", desc := "(LBoostForests$Tree;I)V" } : Jvm.MethodName)) ∈ lw_tbl := kt_2 _ (List.mem_of_getElem? (i := 168) rfl)
theorem kw_2_169 : (Jvm.Cond.instanceMethod ({ cls := "BoostForests$Grower", name := "moveRows", desc := "(LBoostForests$Tree;I)V" } : Jvm.MethodName)) ∈ gw_tbl := List.mem_filter.mpr ⟨kt_2 _ (List.mem_of_getElem? (i := 169) rfl), rfl⟩
theorem kw_2_170 : (Jvm.Cond.code ({ cls := "BoostForests$Grower", name := "moveRows", desc := "(LBoostForests$Tree;I)V" } : Jvm.MethodName) prog_2_method_7_code (4 : Nat) (Option.none : Option Jvm.ClassFile.FieldType)) ∈ gw_tbl := List.mem_filter.mpr ⟨kt_2 _ (List.mem_of_getElem? (i := 170) rfl), rfl⟩
theorem kw_2_171 : (Jvm.Cond.methodLink "BoostForests$Grower" (130 : Nat) ({ cls := "BoostForests$Tree", name := "stepFrom", desc := "(I[I)I" } : Jvm.MethodName)) ∈ gw_tbl := List.mem_filter.mpr ⟨kt_2 _ (List.mem_of_getElem? (i := 171) rfl), rfl⟩
theorem kw_2_172 : (Jvm.Cond.instanceMethod ({ cls := "BoostForests$Tree", name := "stepFrom", desc := "(I[I)I" } : Jvm.MethodName)) ∈ gw_tbl := List.mem_filter.mpr ⟨kt_2 _ (List.mem_of_getElem? (i := 172) rfl), rfl⟩
theorem kw_2_173 : (Jvm.Cond.selects "BoostForests$Tree" ({ cls := "BoostForests$Tree", name := "stepFrom", desc := "(I[I)I" } : Jvm.MethodName) ({ cls := "BoostForests$Tree", name := "stepFrom", desc := "(I[I)I" } : Jvm.MethodName)) ∈ gw_tbl := List.mem_filter.mpr ⟨kt_2 _ (List.mem_of_getElem? (i := 173) rfl), rfl⟩
theorem kw_2_174 : (Jvm.Cond.code ({ cls := "BoostForests$Tree", name := "stepFrom", desc := "(I[I)I" } : Jvm.MethodName) prog_7_method_6_code (6 : Nat) (Option.some Jvm.ClassFile.FieldType.int)) ∈ gw_tbl := List.mem_filter.mpr ⟨kt_2 _ (List.mem_of_getElem? (i := 174) rfl), rfl⟩
theorem kw_2_175 : (Jvm.Cond.methodLink "BoostForests$Training" (73 : Nat) ({ cls := "BoostForests$Training", name := "addTree", desc := "(I)V" } : Jvm.MethodName)) ∈ gw_tbl := List.mem_filter.mpr ⟨kt_2 _ (List.mem_of_getElem? (i := 175) rfl), rfl⟩
theorem kl_2_176 : (Jvm.Cond.privateMethod ({ cls := "BoostForests$Training", name := "addTree", desc := "(I)V" } : Jvm.MethodName)) ∈ lw_tbl := kt_2 _ (List.mem_of_getElem? (i := 176) rfl)
theorem kw_2_177 : (Jvm.Cond.instanceMethod ({ cls := "BoostForests$Training", name := "addTree", desc := "(I)V" } : Jvm.MethodName)) ∈ gw_tbl := List.mem_filter.mpr ⟨kt_2 _ (List.mem_of_getElem? (i := 177) rfl), rfl⟩
theorem kw_2_178 : (Jvm.Cond.code ({ cls := "BoostForests$Training", name := "addTree", desc := "(I)V" } : Jvm.MethodName) prog_6_method_4_code (3 : Nat) (Option.none : Option Jvm.ClassFile.FieldType)) ∈ gw_tbl := List.mem_filter.mpr ⟨kt_2 _ (List.mem_of_getElem? (i := 178) rfl), rfl⟩
theorem kw_2_179 : (Jvm.Cond.methodLink "BoostForests$Training" (108 : Nat) ({ cls := "BoostForests$Training", name := "addOf", desc := "(LBoostForests$Tree;[I)J" } : Jvm.MethodName)) ∈ gw_tbl := List.mem_filter.mpr ⟨kt_2 _ (List.mem_of_getElem? (i := 179) rfl), rfl⟩
theorem kl_2_180 : (Jvm.Cond.privateMethod ({ cls := "BoostForests$Training", name := "addOf", desc := "(LBoostForests$Tree;[I)J" } : Jvm.MethodName)) ∈ lw_tbl := kt_2 _ (List.mem_of_getElem? (i := 180) rfl)
theorem kw_2_181 : (Jvm.Cond.instanceMethod ({ cls := "BoostForests$Training", name := "addOf", desc := "(LBoostForests$Tree;[I)J" } : Jvm.MethodName)) ∈ gw_tbl := List.mem_filter.mpr ⟨kt_2 _ (List.mem_of_getElem? (i := 181) rfl), rfl⟩
theorem kw_2_182 : (Jvm.Cond.code ({ cls := "BoostForests$Training", name := "addOf", desc := "(LBoostForests$Tree;[I)J" } : Jvm.MethodName) prog_6_method_14_code (3 : Nat) (Option.some Jvm.ClassFile.FieldType.long)) ∈ gw_tbl := List.mem_filter.mpr ⟨kt_2 _ (List.mem_of_getElem? (i := 182) rfl), rfl⟩
theorem kw_2_183 : (Jvm.Cond.methodLink "BoostForests$Training" (164 : Nat) ({ cls := "BoostForests$Tree", name := "leafOf", desc := "([I)I" } : Jvm.MethodName)) ∈ gw_tbl := List.mem_filter.mpr ⟨kt_2 _ (List.mem_of_getElem? (i := 183) rfl), rfl⟩
theorem kw_2_184 : (Jvm.Cond.instanceMethod ({ cls := "BoostForests$Tree", name := "leafOf", desc := "([I)I" } : Jvm.MethodName)) ∈ gw_tbl := List.mem_filter.mpr ⟨kt_2 _ (List.mem_of_getElem? (i := 184) rfl), rfl⟩
theorem kw_2_185 : (Jvm.Cond.selects "BoostForests$Tree" ({ cls := "BoostForests$Tree", name := "leafOf", desc := "([I)I" } : Jvm.MethodName) ({ cls := "BoostForests$Tree", name := "leafOf", desc := "([I)I" } : Jvm.MethodName)) ∈ gw_tbl := List.mem_filter.mpr ⟨kt_2 _ (List.mem_of_getElem? (i := 185) rfl), rfl⟩
theorem kw_2_186 : (Jvm.Cond.code ({ cls := "BoostForests$Tree", name := "leafOf", desc := "([I)I" } : Jvm.MethodName) prog_7_method_7_code (4 : Nat) (Option.some Jvm.ClassFile.FieldType.int)) ∈ gw_tbl := List.mem_filter.mpr ⟨kt_2 _ (List.mem_of_getElem? (i := 186) rfl), rfl⟩
theorem kw_2_187 : (Jvm.Cond.methodLink "BoostForests$Tree" (59 : Nat) ({ cls := "BoostForests$Tree", name := "stepFrom", desc := "(I[I)I" } : Jvm.MethodName)) ∈ gw_tbl := List.mem_filter.mpr ⟨kt_2 _ (List.mem_of_getElem? (i := 187) rfl), rfl⟩
theorem kw_2_188 : (Jvm.Cond.methodLink "BoostForests$Training" (149 : Nat) ({ cls := "BoostForests$Training", name := "shrunk", desc := "(J)J" } : Jvm.MethodName)) ∈ gw_tbl := List.mem_filter.mpr ⟨kt_2 _ (List.mem_of_getElem? (i := 188) rfl), rfl⟩
theorem kl_2_189 : (Jvm.Cond.privateMethod ({ cls := "BoostForests$Training", name := "shrunk", desc := "(J)J" } : Jvm.MethodName)) ∈ lw_tbl := kt_2 _ (List.mem_of_getElem? (i := 189) rfl)
theorem kw_2_190 : (Jvm.Cond.instanceMethod ({ cls := "BoostForests$Training", name := "shrunk", desc := "(J)J" } : Jvm.MethodName)) ∈ gw_tbl := List.mem_filter.mpr ⟨kt_2 _ (List.mem_of_getElem? (i := 190) rfl), rfl⟩
theorem kw_2_191 : (Jvm.Cond.code ({ cls := "BoostForests$Training", name := "shrunk", desc := "(J)J" } : Jvm.MethodName) prog_6_method_15_code (3 : Nat) (Option.some Jvm.ClassFile.FieldType.long)) ∈ gw_tbl := List.mem_filter.mpr ⟨kt_2 _ (List.mem_of_getElem? (i := 191) rfl), rfl⟩
theorem kw_2_192 : (Jvm.Cond.methodLink "BoostForests$Training" (112 : Nat) ({ cls := "BoostForests$Grower", name := "hasDrawn", desc := "(I)Z" } : Jvm.MethodName)) ∈ gw_tbl := List.mem_filter.mpr ⟨kt_2 _ (List.mem_of_getElem? (i := 192) rfl), rfl⟩
theorem kw_2_193 : (Jvm.Cond.instanceMethod ({ cls := "BoostForests$Grower", name := "hasDrawn", desc := "(I)Z" } : Jvm.MethodName)) ∈ gw_tbl := List.mem_filter.mpr ⟨kt_2 _ (List.mem_of_getElem? (i := 193) rfl), rfl⟩
theorem kw_2_194 : (Jvm.Cond.selects "BoostForests$Grower" ({ cls := "BoostForests$Grower", name := "hasDrawn", desc := "(I)Z" } : Jvm.MethodName) ({ cls := "BoostForests$Grower", name := "hasDrawn", desc := "(I)Z" } : Jvm.MethodName)) ∈ gw_tbl := List.mem_filter.mpr ⟨kt_2 _ (List.mem_of_getElem? (i := 194) rfl), rfl⟩
theorem kw_2_195 : (Jvm.Cond.code ({ cls := "BoostForests$Grower", name := "hasDrawn", desc := "(I)Z" } : Jvm.MethodName) prog_2_method_4_code (2 : Nat) (Option.some Jvm.ClassFile.FieldType.boolean)) ∈ gw_tbl := List.mem_filter.mpr ⟨kt_2 _ (List.mem_of_getElem? (i := 195) rfl), rfl⟩
theorem kw_2_196 : (Jvm.Cond.methodLink "BoostForests$Training" (81 : Nat) ({ cls := "java/lang/Math", name := "min", desc := "(JJ)J" } : Jvm.MethodName)) ∈ gw_tbl := List.mem_filter.mpr ⟨kt_2 _ (List.mem_of_getElem? (i := 196) rfl), rfl⟩
theorem kw_2_197 : (Jvm.Cond.static ({ cls := "java/lang/Math", name := "min", desc := "(JJ)J" } : Jvm.MethodName)) ∈ gw_tbl := List.mem_filter.mpr ⟨kt_2 _ (List.mem_of_getElem? (i := 197) rfl), rfl⟩
theorem kw_2_198 : (Jvm.Cond.code ({ cls := "java/lang/Math", name := "min", desc := "(JJ)J" } : Jvm.MethodName) prog_12_method_70_code (4 : Nat) (Option.some Jvm.ClassFile.FieldType.long)) ∈ gw_tbl := List.mem_filter.mpr ⟨kt_2 _ (List.mem_of_getElem? (i := 198) rfl), rfl⟩
theorem kw_2_199 : (Jvm.Cond.methodLink "BoostForestsLaw" (36 : Nat) ({ cls := "BoostForests", name := "node", desc := "(III)I" } : Jvm.MethodName)) ∈ gw_tbl := List.mem_filter.mpr ⟨kt_2 _ (List.mem_of_getElem? (i := 199) rfl), rfl⟩
theorem kw_2_200 : (Jvm.Cond.instanceMethod ({ cls := "BoostForests", name := "node", desc := "(III)I" } : Jvm.MethodName)) ∈ gw_tbl := List.mem_filter.mpr ⟨kt_2 _ (List.mem_of_getElem? (i := 200) rfl), rfl⟩
theorem kw_2_201 : (Jvm.Cond.selects "BoostForests" ({ cls := "BoostForests", name := "node", desc := "(III)I" } : Jvm.MethodName) ({ cls := "BoostForests", name := "node", desc := "(III)I" } : Jvm.MethodName)) ∈ gw_tbl := List.mem_filter.mpr ⟨kt_2 _ (List.mem_of_getElem? (i := 201) rfl), rfl⟩
theorem kw_2_202 : (Jvm.Cond.code ({ cls := "BoostForests", name := "node", desc := "(III)I" } : Jvm.MethodName) prog_1_method_7_code (4 : Nat) (Option.some Jvm.ClassFile.FieldType.int)) ∈ gw_tbl := List.mem_filter.mpr ⟨kt_2 _ (List.mem_of_getElem? (i := 202) rfl), rfl⟩
theorem kw_2_203 : (Jvm.Cond.methodLink "BoostForests" (83 : Nat) ({ cls := "BoostForests", name := "isNode", desc := "(II)Z" } : Jvm.MethodName)) ∈ gw_tbl := List.mem_filter.mpr ⟨kt_2 _ (List.mem_of_getElem? (i := 203) rfl), rfl⟩
theorem kl_2_204 : (Jvm.Cond.privateMethod ({ cls := "BoostForests", name := "isNode", desc := "(II)Z" } : Jvm.MethodName)) ∈ lw_tbl := kt_2 _ (List.mem_of_getElem? (i := 204) rfl)
theorem kw_2_205 : (Jvm.Cond.instanceMethod ({ cls := "BoostForests", name := "isNode", desc := "(II)Z" } : Jvm.MethodName)) ∈ gw_tbl := List.mem_filter.mpr ⟨kt_2 _ (List.mem_of_getElem? (i := 205) rfl), rfl⟩
theorem kw_2_206 : (Jvm.Cond.code ({ cls := "BoostForests", name := "isNode", desc := "(II)Z" } : Jvm.MethodName) prog_1_method_20_code (3 : Nat) (Option.some Jvm.ClassFile.FieldType.boolean)) ∈ gw_tbl := List.mem_filter.mpr ⟨kt_2 _ (List.mem_of_getElem? (i := 206) rfl), rfl⟩
theorem kw_2_207 : (Jvm.Cond.methodLink "BoostForestsLaw" (41 : Nat) ({ cls := "BoostForests", name := "sum", desc := "(III)J" } : Jvm.MethodName)) ∈ gw_tbl := List.mem_filter.mpr ⟨kt_2 _ (List.mem_of_getElem? (i := 207) rfl), rfl⟩
theorem kw_2_208 : (Jvm.Cond.instanceMethod ({ cls := "BoostForests", name := "sum", desc := "(III)J" } : Jvm.MethodName)) ∈ gw_tbl := List.mem_filter.mpr ⟨kt_2 _ (List.mem_of_getElem? (i := 208) rfl), rfl⟩
theorem kw_2_209 : (Jvm.Cond.selects "BoostForests" ({ cls := "BoostForests", name := "sum", desc := "(III)J" } : Jvm.MethodName) ({ cls := "BoostForests", name := "sum", desc := "(III)J" } : Jvm.MethodName)) ∈ gw_tbl := List.mem_filter.mpr ⟨kt_2 _ (List.mem_of_getElem? (i := 209) rfl), rfl⟩
theorem kw_2_210 : (Jvm.Cond.code ({ cls := "BoostForests", name := "sum", desc := "(III)J" } : Jvm.MethodName) prog_1_method_8_code (4 : Nat) (Option.some Jvm.ClassFile.FieldType.long)) ∈ gw_tbl := List.mem_filter.mpr ⟨kt_2 _ (List.mem_of_getElem? (i := 210) rfl), rfl⟩
theorem kw_2_211 : (Jvm.Cond.methodLink "BoostForestsLaw" (46 : Nat) ({ cls := "BoostForests", name := "size", desc := "(I)I" } : Jvm.MethodName)) ∈ gw_tbl := List.mem_filter.mpr ⟨kt_2 _ (List.mem_of_getElem? (i := 211) rfl), rfl⟩
theorem kw_2_212 : (Jvm.Cond.instanceMethod ({ cls := "BoostForests", name := "size", desc := "(I)I" } : Jvm.MethodName)) ∈ gw_tbl := List.mem_filter.mpr ⟨kt_2 _ (List.mem_of_getElem? (i := 212) rfl), rfl⟩
theorem kw_2_213 : (Jvm.Cond.selects "BoostForests" ({ cls := "BoostForests", name := "size", desc := "(I)I" } : Jvm.MethodName) ({ cls := "BoostForests", name := "size", desc := "(I)I" } : Jvm.MethodName)) ∈ gw_tbl := List.mem_filter.mpr ⟨kt_2 _ (List.mem_of_getElem? (i := 213) rfl), rfl⟩
theorem kw_2_214 : (Jvm.Cond.code ({ cls := "BoostForests", name := "size", desc := "(I)I" } : Jvm.MethodName) prog_1_method_9_code (2 : Nat) (Option.some Jvm.ClassFile.FieldType.int)) ∈ gw_tbl := List.mem_filter.mpr ⟨kt_2 _ (List.mem_of_getElem? (i := 214) rfl), rfl⟩
theorem kw_2_215 : (Jvm.Cond.methodLink "BoostForestsLaw" (51 : Nat) ({ cls := "BoostForests", name := "leaf", desc := "(IIIII)I" } : Jvm.MethodName)) ∈ gw_tbl := List.mem_filter.mpr ⟨kt_2 _ (List.mem_of_getElem? (i := 215) rfl), rfl⟩
theorem kw_2_216 : (Jvm.Cond.instanceMethod ({ cls := "BoostForests", name := "leaf", desc := "(IIIII)I" } : Jvm.MethodName)) ∈ gw_tbl := List.mem_filter.mpr ⟨kt_2 _ (List.mem_of_getElem? (i := 216) rfl), rfl⟩
theorem kw_2_217 : (Jvm.Cond.selects "BoostForests" ({ cls := "BoostForests", name := "leaf", desc := "(IIIII)I" } : Jvm.MethodName) ({ cls := "BoostForests", name := "leaf", desc := "(IIIII)I" } : Jvm.MethodName)) ∈ gw_tbl := List.mem_filter.mpr ⟨kt_2 _ (List.mem_of_getElem? (i := 217) rfl), rfl⟩
theorem kw_2_218 : (Jvm.Cond.code ({ cls := "BoostForests", name := "leaf", desc := "(IIIII)I" } : Jvm.MethodName) prog_1_method_10_code (6 : Nat) (Option.some Jvm.ClassFile.FieldType.int)) ∈ gw_tbl := List.mem_filter.mpr ⟨kt_2 _ (List.mem_of_getElem? (i := 218) rfl), rfl⟩
theorem kw_2_219 : (Jvm.Cond.methodLink "BoostForests" (103 : Nat) ({ cls := "BoostForests$Tree", name := "leafOf", desc := "([I)I" } : Jvm.MethodName)) ∈ gw_tbl := List.mem_filter.mpr ⟨kt_2 _ (List.mem_of_getElem? (i := 219) rfl), rfl⟩
theorem kw_2_220 : (Jvm.Cond.methodLink "BoostForestsLaw" (56 : Nat) ({ cls := "BoostForests", name := "answer", desc := "(IIIII)J" } : Jvm.MethodName)) ∈ gw_tbl := List.mem_filter.mpr ⟨kt_2 _ (List.mem_of_getElem? (i := 220) rfl), rfl⟩
theorem kw_2_221 : (Jvm.Cond.instanceMethod ({ cls := "BoostForests", name := "answer", desc := "(IIIII)J" } : Jvm.MethodName)) ∈ gw_tbl := List.mem_filter.mpr ⟨kt_2 _ (List.mem_of_getElem? (i := 221) rfl), rfl⟩
theorem kw_2_222 : (Jvm.Cond.selects "BoostForests" ({ cls := "BoostForests", name := "answer", desc := "(IIIII)J" } : Jvm.MethodName) ({ cls := "BoostForests", name := "answer", desc := "(IIIII)J" } : Jvm.MethodName)) ∈ gw_tbl := List.mem_filter.mpr ⟨kt_2 _ (List.mem_of_getElem? (i := 222) rfl), rfl⟩
theorem kw_2_223 : (Jvm.Cond.code ({ cls := "BoostForests", name := "answer", desc := "(IIIII)J" } : Jvm.MethodName) prog_1_method_11_code (6 : Nat) (Option.some Jvm.ClassFile.FieldType.long)) ∈ gw_tbl := List.mem_filter.mpr ⟨kt_2 _ (List.mem_of_getElem? (i := 223) rfl), rfl⟩
theorem kw_2_224 : (Jvm.Cond.methodLink "BoostForests" (111 : Nat) ({ cls := "BoostForests$Training", name := "answerBy", desc := "(I[I)J" } : Jvm.MethodName)) ∈ gw_tbl := List.mem_filter.mpr ⟨kt_2 _ (List.mem_of_getElem? (i := 224) rfl), rfl⟩
theorem kw_2_225 : (Jvm.Cond.instanceMethod ({ cls := "BoostForests$Training", name := "answerBy", desc := "(I[I)J" } : Jvm.MethodName)) ∈ gw_tbl := List.mem_filter.mpr ⟨kt_2 _ (List.mem_of_getElem? (i := 225) rfl), rfl⟩
theorem kw_2_226 : (Jvm.Cond.selects "BoostForests$Training" ({ cls := "BoostForests$Training", name := "answerBy", desc := "(I[I)J" } : Jvm.MethodName) ({ cls := "BoostForests$Training", name := "answerBy", desc := "(I[I)J" } : Jvm.MethodName)) ∈ gw_tbl := List.mem_filter.mpr ⟨kt_2 _ (List.mem_of_getElem? (i := 226) rfl), rfl⟩
theorem kw_2_227 : (Jvm.Cond.code ({ cls := "BoostForests$Training", name := "answerBy", desc := "(I[I)J" } : Jvm.MethodName) prog_6_method_7_code (6 : Nat) (Option.some Jvm.ClassFile.FieldType.long)) ∈ gw_tbl := List.mem_filter.mpr ⟨kt_2 _ (List.mem_of_getElem? (i := 227) rfl), rfl⟩
theorem kw_2_228 : (Jvm.Cond.methodLink "BoostForestsLaw" (61 : Nat) ({ cls := "BoostForests", name := "loss", desc := "(II)J" } : Jvm.MethodName)) ∈ gw_tbl := List.mem_filter.mpr ⟨kt_2 _ (List.mem_of_getElem? (i := 228) rfl), rfl⟩
theorem kw_2_229 : (Jvm.Cond.instanceMethod ({ cls := "BoostForests", name := "loss", desc := "(II)J" } : Jvm.MethodName)) ∈ gw_tbl := List.mem_filter.mpr ⟨kt_2 _ (List.mem_of_getElem? (i := 229) rfl), rfl⟩
theorem kw_2_230 : (Jvm.Cond.selects "BoostForests" ({ cls := "BoostForests", name := "loss", desc := "(II)J" } : Jvm.MethodName) ({ cls := "BoostForests", name := "loss", desc := "(II)J" } : Jvm.MethodName)) ∈ gw_tbl := List.mem_filter.mpr ⟨kt_2 _ (List.mem_of_getElem? (i := 230) rfl), rfl⟩
theorem kw_2_231 : (Jvm.Cond.code ({ cls := "BoostForests", name := "loss", desc := "(II)J" } : Jvm.MethodName) prog_1_method_12_code (3 : Nat) (Option.some Jvm.ClassFile.FieldType.long)) ∈ gw_tbl := List.mem_filter.mpr ⟨kt_2 _ (List.mem_of_getElem? (i := 231) rfl), rfl⟩
theorem kw_2_232 : (Jvm.Cond.constantLong "BoostForests" (115 : Nat) (-2 : Int64)) ∈ gw_tbl := List.mem_filter.mpr ⟨kt_2 _ (List.mem_of_getElem? (i := 232) rfl), rfl⟩
theorem kw_2_233 : (Jvm.Cond.methodLink "BoostForestsLaw" (66 : Nat) ({ cls := "BoostForests", name := "best", desc := "()I" } : Jvm.MethodName)) ∈ gw_tbl := List.mem_filter.mpr ⟨kt_2 _ (List.mem_of_getElem? (i := 233) rfl), rfl⟩
theorem kw_2_234 : (Jvm.Cond.instanceMethod ({ cls := "BoostForests", name := "best", desc := "()I" } : Jvm.MethodName)) ∈ gw_tbl := List.mem_filter.mpr ⟨kt_2 _ (List.mem_of_getElem? (i := 234) rfl), rfl⟩
theorem kw_2_235 : (Jvm.Cond.selects "BoostForests" ({ cls := "BoostForests", name := "best", desc := "()I" } : Jvm.MethodName) ({ cls := "BoostForests", name := "best", desc := "()I" } : Jvm.MethodName)) ∈ gw_tbl := List.mem_filter.mpr ⟨kt_2 _ (List.mem_of_getElem? (i := 235) rfl), rfl⟩
theorem kw_2_236 : (Jvm.Cond.code ({ cls := "BoostForests", name := "best", desc := "()I" } : Jvm.MethodName) prog_1_method_13_code (1 : Nat) (Option.some Jvm.ClassFile.FieldType.int)) ∈ gw_tbl := List.mem_filter.mpr ⟨kt_2 _ (List.mem_of_getElem? (i := 236) rfl), rfl⟩
theorem kw_2_237 : (Jvm.Cond.methodLink "BoostForests" (120 : Nat) ({ cls := "BoostForests$Training", name := "treesOfLeastLoss", desc := "()I" } : Jvm.MethodName)) ∈ gw_tbl := List.mem_filter.mpr ⟨kt_2 _ (List.mem_of_getElem? (i := 237) rfl), rfl⟩
theorem kw_2_238 : (Jvm.Cond.instanceMethod ({ cls := "BoostForests$Training", name := "treesOfLeastLoss", desc := "()I" } : Jvm.MethodName)) ∈ gw_tbl := List.mem_filter.mpr ⟨kt_2 _ (List.mem_of_getElem? (i := 238) rfl), rfl⟩
theorem kw_2_239 : (Jvm.Cond.selects "BoostForests$Training" ({ cls := "BoostForests$Training", name := "treesOfLeastLoss", desc := "()I" } : Jvm.MethodName) ({ cls := "BoostForests$Training", name := "treesOfLeastLoss", desc := "()I" } : Jvm.MethodName)) ∈ gw_tbl := List.mem_filter.mpr ⟨kt_2 _ (List.mem_of_getElem? (i := 239) rfl), rfl⟩
theorem kw_3_0 : (Jvm.Cond.code ({ cls := "BoostForests$Training", name := "treesOfLeastLoss", desc := "()I" } : Jvm.MethodName) prog_6_method_6_code (3 : Nat) (Option.some Jvm.ClassFile.FieldType.int)) ∈ gw_tbl := List.mem_filter.mpr ⟨kt_3 _ (List.mem_of_getElem? (i := 0) rfl), rfl⟩
theorem kw_3_1 : (Jvm.Cond.methodLink "BoostForestsLaw" (70 : Nat) ({ cls := "BoostForests", name := "without", desc := "(I)J" } : Jvm.MethodName)) ∈ gw_tbl := List.mem_filter.mpr ⟨kt_3 _ (List.mem_of_getElem? (i := 1) rfl), rfl⟩
theorem kw_3_2 : (Jvm.Cond.instanceMethod ({ cls := "BoostForests", name := "without", desc := "(I)J" } : Jvm.MethodName)) ∈ gw_tbl := List.mem_filter.mpr ⟨kt_3 _ (List.mem_of_getElem? (i := 2) rfl), rfl⟩
theorem kw_3_3 : (Jvm.Cond.selects "BoostForests" ({ cls := "BoostForests", name := "without", desc := "(I)J" } : Jvm.MethodName) ({ cls := "BoostForests", name := "without", desc := "(I)J" } : Jvm.MethodName)) ∈ gw_tbl := List.mem_filter.mpr ⟨kt_3 _ (List.mem_of_getElem? (i := 3) rfl), rfl⟩
theorem kw_3_4 : (Jvm.Cond.code ({ cls := "BoostForests", name := "without", desc := "(I)J" } : Jvm.MethodName) prog_1_method_14_code (2 : Nat) (Option.some Jvm.ClassFile.FieldType.long)) ∈ gw_tbl := List.mem_filter.mpr ⟨kt_3 _ (List.mem_of_getElem? (i := 4) rfl), rfl⟩
theorem kw_3_5 : (Jvm.Cond.methodLink "BoostForests" (123 : Nat) ({ cls := "BoostForests", name := "isTrainedRow", desc := "(I)Z" } : Jvm.MethodName)) ∈ gw_tbl := List.mem_filter.mpr ⟨kt_3 _ (List.mem_of_getElem? (i := 5) rfl), rfl⟩
theorem kl_3_6 : (Jvm.Cond.privateMethod ({ cls := "BoostForests", name := "isTrainedRow", desc := "(I)Z" } : Jvm.MethodName)) ∈ lw_tbl := kt_3 _ (List.mem_of_getElem? (i := 6) rfl)
theorem kw_3_7 : (Jvm.Cond.instanceMethod ({ cls := "BoostForests", name := "isTrainedRow", desc := "(I)Z" } : Jvm.MethodName)) ∈ gw_tbl := List.mem_filter.mpr ⟨kt_3 _ (List.mem_of_getElem? (i := 7) rfl), rfl⟩
theorem kw_3_8 : (Jvm.Cond.code ({ cls := "BoostForests", name := "isTrainedRow", desc := "(I)Z" } : Jvm.MethodName) prog_1_method_21_code (2 : Nat) (Option.some Jvm.ClassFile.FieldType.boolean)) ∈ gw_tbl := List.mem_filter.mpr ⟨kt_3 _ (List.mem_of_getElem? (i := 8) rfl), rfl⟩
theorem kw_3_9 : (Jvm.Cond.methodLink "BoostForests" (127 : Nat) ({ cls := "BoostForests$Training", name := "leftOut", desc := "(I)J" } : Jvm.MethodName)) ∈ gw_tbl := List.mem_filter.mpr ⟨kt_3 _ (List.mem_of_getElem? (i := 9) rfl), rfl⟩
theorem kw_3_10 : (Jvm.Cond.instanceMethod ({ cls := "BoostForests$Training", name := "leftOut", desc := "(I)J" } : Jvm.MethodName)) ∈ gw_tbl := List.mem_filter.mpr ⟨kt_3 _ (List.mem_of_getElem? (i := 10) rfl), rfl⟩
theorem kw_3_11 : (Jvm.Cond.selects "BoostForests$Training" ({ cls := "BoostForests$Training", name := "leftOut", desc := "(I)J" } : Jvm.MethodName) ({ cls := "BoostForests$Training", name := "leftOut", desc := "(I)J" } : Jvm.MethodName)) ∈ gw_tbl := List.mem_filter.mpr ⟨kt_3 _ (List.mem_of_getElem? (i := 11) rfl), rfl⟩
theorem kw_3_12 : (Jvm.Cond.code ({ cls := "BoostForests$Training", name := "leftOut", desc := "(I)J" } : Jvm.MethodName) prog_6_method_8_code (5 : Nat) (Option.some Jvm.ClassFile.FieldType.long)) ∈ gw_tbl := List.mem_filter.mpr ⟨kt_3 _ (List.mem_of_getElem? (i := 12) rfl), rfl⟩
theorem kw_3_13 : (Jvm.Cond.methodLink "BoostForestsLaw" (75 : Nat) ({ cls := "BoostForests", name := "took", desc := "(I)I" } : Jvm.MethodName)) ∈ gw_tbl := List.mem_filter.mpr ⟨kt_3 _ (List.mem_of_getElem? (i := 13) rfl), rfl⟩
theorem kw_3_14 : (Jvm.Cond.instanceMethod ({ cls := "BoostForests", name := "took", desc := "(I)I" } : Jvm.MethodName)) ∈ gw_tbl := List.mem_filter.mpr ⟨kt_3 _ (List.mem_of_getElem? (i := 14) rfl), rfl⟩
theorem kw_3_15 : (Jvm.Cond.selects "BoostForests" ({ cls := "BoostForests", name := "took", desc := "(I)I" } : Jvm.MethodName) ({ cls := "BoostForests", name := "took", desc := "(I)I" } : Jvm.MethodName)) ∈ gw_tbl := List.mem_filter.mpr ⟨kt_3 _ (List.mem_of_getElem? (i := 15) rfl), rfl⟩
theorem kw_3_16 : (Jvm.Cond.code ({ cls := "BoostForests", name := "took", desc := "(I)I" } : Jvm.MethodName) prog_1_method_15_code (2 : Nat) (Option.some Jvm.ClassFile.FieldType.int)) ∈ gw_tbl := List.mem_filter.mpr ⟨kt_3 _ (List.mem_of_getElem? (i := 16) rfl), rfl⟩
theorem kw_3_17 : (Jvm.Cond.methodLink "BoostForests" (134 : Nat) ({ cls := "java/lang/Integer", name := "bitCount", desc := "(I)I" } : Jvm.MethodName)) ∈ gw_tbl := List.mem_filter.mpr ⟨kt_3 _ (List.mem_of_getElem? (i := 17) rfl), rfl⟩
theorem kw_3_18 : (Jvm.Cond.static ({ cls := "java/lang/Integer", name := "bitCount", desc := "(I)I" } : Jvm.MethodName)) ∈ gw_tbl := List.mem_filter.mpr ⟨kt_3 _ (List.mem_of_getElem? (i := 18) rfl), rfl⟩
theorem kw_3_19 : (Jvm.Cond.code ({ cls := "java/lang/Integer", name := "bitCount", desc := "(I)I" } : Jvm.MethodName) prog_11_method_49_code (1 : Nat) (Option.some Jvm.ClassFile.FieldType.int)) ∈ gw_tbl := List.mem_filter.mpr ⟨kt_3 _ (List.mem_of_getElem? (i := 19) rfl), rfl⟩
theorem kw_3_20 : (Jvm.Cond.constant "java/lang/Integer" (265 : Nat) (1431655765 : Int32)) ∈ gw_tbl := List.mem_filter.mpr ⟨kt_3 _ (List.mem_of_getElem? (i := 20) rfl), rfl⟩
theorem kw_3_21 : (Jvm.Cond.constant "java/lang/Integer" (266 : Nat) (858993459 : Int32)) ∈ gw_tbl := List.mem_filter.mpr ⟨kt_3 _ (List.mem_of_getElem? (i := 21) rfl), rfl⟩
theorem kw_3_22 : (Jvm.Cond.constant "java/lang/Integer" (267 : Nat) (252645135 : Int32)) ∈ gw_tbl := List.mem_filter.mpr ⟨kt_3 _ (List.mem_of_getElem? (i := 22) rfl), rfl⟩
theorem kw_3_23 : (Jvm.Cond.methodLink "BoostForestsLaw" (79 : Nat) ({ cls := "BoostForests", name := "gain", desc := "(I)J" } : Jvm.MethodName)) ∈ gw_tbl := List.mem_filter.mpr ⟨kt_3 _ (List.mem_of_getElem? (i := 23) rfl), rfl⟩
theorem kw_3_24 : (Jvm.Cond.instanceMethod ({ cls := "BoostForests", name := "gain", desc := "(I)J" } : Jvm.MethodName)) ∈ gw_tbl := List.mem_filter.mpr ⟨kt_3 _ (List.mem_of_getElem? (i := 24) rfl), rfl⟩
theorem kw_3_25 : (Jvm.Cond.selects "BoostForests" ({ cls := "BoostForests", name := "gain", desc := "(I)J" } : Jvm.MethodName) ({ cls := "BoostForests", name := "gain", desc := "(I)J" } : Jvm.MethodName)) ∈ gw_tbl := List.mem_filter.mpr ⟨kt_3 _ (List.mem_of_getElem? (i := 25) rfl), rfl⟩
theorem kw_3_26 : (Jvm.Cond.code ({ cls := "BoostForests", name := "gain", desc := "(I)J" } : Jvm.MethodName) prog_1_method_16_code (2 : Nat) (Option.some Jvm.ClassFile.FieldType.long)) ∈ gw_tbl := List.mem_filter.mpr ⟨kt_3 _ (List.mem_of_getElem? (i := 26) rfl), rfl⟩
theorem kw_3_27 : (Jvm.Cond.methodLink "BoostForests" (140 : Nat) ({ cls := "BoostForests$Training", name := "gainBy", desc := "(I)J" } : Jvm.MethodName)) ∈ gw_tbl := List.mem_filter.mpr ⟨kt_3 _ (List.mem_of_getElem? (i := 27) rfl), rfl⟩
theorem kw_3_28 : (Jvm.Cond.instanceMethod ({ cls := "BoostForests$Training", name := "gainBy", desc := "(I)J" } : Jvm.MethodName)) ∈ gw_tbl := List.mem_filter.mpr ⟨kt_3 _ (List.mem_of_getElem? (i := 28) rfl), rfl⟩
theorem kw_3_29 : (Jvm.Cond.selects "BoostForests$Training" ({ cls := "BoostForests$Training", name := "gainBy", desc := "(I)J" } : Jvm.MethodName) ({ cls := "BoostForests$Training", name := "gainBy", desc := "(I)J" } : Jvm.MethodName)) ∈ gw_tbl := List.mem_filter.mpr ⟨kt_3 _ (List.mem_of_getElem? (i := 29) rfl), rfl⟩
theorem kw_3_30 : (Jvm.Cond.code ({ cls := "BoostForests$Training", name := "gainBy", desc := "(I)J" } : Jvm.MethodName) prog_6_method_9_code (6 : Nat) (Option.some Jvm.ClassFile.FieldType.long)) ∈ gw_tbl := List.mem_filter.mpr ⟨kt_3 _ (List.mem_of_getElem? (i := 30) rfl), rfl⟩
theorem kw_3_31 : (Jvm.Cond.methodLink "BoostForestsLaw" (83 : Nat) ({ cls := "BoostForests", name := "told", desc := "(IIIII)J" } : Jvm.MethodName)) ∈ gw_tbl := List.mem_filter.mpr ⟨kt_3 _ (List.mem_of_getElem? (i := 31) rfl), rfl⟩
theorem kw_3_32 : (Jvm.Cond.instanceMethod ({ cls := "BoostForests", name := "told", desc := "(IIIII)J" } : Jvm.MethodName)) ∈ gw_tbl := List.mem_filter.mpr ⟨kt_3 _ (List.mem_of_getElem? (i := 32) rfl), rfl⟩
theorem kw_3_33 : (Jvm.Cond.selects "BoostForests" ({ cls := "BoostForests", name := "told", desc := "(IIIII)J" } : Jvm.MethodName) ({ cls := "BoostForests", name := "told", desc := "(IIIII)J" } : Jvm.MethodName)) ∈ gw_tbl := List.mem_filter.mpr ⟨kt_3 _ (List.mem_of_getElem? (i := 33) rfl), rfl⟩
theorem kw_3_34 : (Jvm.Cond.code ({ cls := "BoostForests", name := "told", desc := "(IIIII)J" } : Jvm.MethodName) prog_1_method_17_code (6 : Nat) (Option.some Jvm.ClassFile.FieldType.long)) ∈ gw_tbl := List.mem_filter.mpr ⟨kt_3 _ (List.mem_of_getElem? (i := 34) rfl), rfl⟩
theorem kw_3_35 : (Jvm.Cond.methodLink "BoostForests" (143 : Nat) ({ cls := "BoostForests$Training", name := "tellAll", desc := "(I[I)J" } : Jvm.MethodName)) ∈ gw_tbl := List.mem_filter.mpr ⟨kt_3 _ (List.mem_of_getElem? (i := 35) rfl), rfl⟩
theorem kw_3_36 : (Jvm.Cond.instanceMethod ({ cls := "BoostForests$Training", name := "tellAll", desc := "(I[I)J" } : Jvm.MethodName)) ∈ gw_tbl := List.mem_filter.mpr ⟨kt_3 _ (List.mem_of_getElem? (i := 36) rfl), rfl⟩
theorem kw_3_37 : (Jvm.Cond.selects "BoostForests$Training" ({ cls := "BoostForests$Training", name := "tellAll", desc := "(I[I)J" } : Jvm.MethodName) ({ cls := "BoostForests$Training", name := "tellAll", desc := "(I[I)J" } : Jvm.MethodName)) ∈ gw_tbl := List.mem_filter.mpr ⟨kt_3 _ (List.mem_of_getElem? (i := 37) rfl), rfl⟩
theorem kw_3_38 : (Jvm.Cond.code ({ cls := "BoostForests$Training", name := "tellAll", desc := "(I[I)J" } : Jvm.MethodName) prog_6_method_10_code (6 : Nat) (Option.some Jvm.ClassFile.FieldType.long)) ∈ gw_tbl := List.mem_filter.mpr ⟨kt_3 _ (List.mem_of_getElem? (i := 38) rfl), rfl⟩
theorem kw_3_39 : (Jvm.Cond.methodLink "BoostForests$Training" (135 : Nat) ({ cls := "BoostForests$Training", name := "tellTree", desc := "(LBoostForests$Tree;I[I)J" } : Jvm.MethodName)) ∈ gw_tbl := List.mem_filter.mpr ⟨kt_3 _ (List.mem_of_getElem? (i := 39) rfl), rfl⟩
theorem kl_3_40 : (Jvm.Cond.privateMethod ({ cls := "BoostForests$Training", name := "tellTree", desc := "(LBoostForests$Tree;I[I)J" } : Jvm.MethodName)) ∈ lw_tbl := kt_3 _ (List.mem_of_getElem? (i := 40) rfl)
theorem kw_3_41 : (Jvm.Cond.instanceMethod ({ cls := "BoostForests$Training", name := "tellTree", desc := "(LBoostForests$Tree;I[I)J" } : Jvm.MethodName)) ∈ gw_tbl := List.mem_filter.mpr ⟨kt_3 _ (List.mem_of_getElem? (i := 41) rfl), rfl⟩
theorem kw_3_42 : (Jvm.Cond.code ({ cls := "BoostForests$Training", name := "tellTree", desc := "(LBoostForests$Tree;I[I)J" } : Jvm.MethodName) prog_6_method_12_code (6 : Nat) (Option.some Jvm.ClassFile.FieldType.long)) ∈ gw_tbl := List.mem_filter.mpr ⟨kt_3 _ (List.mem_of_getElem? (i := 42) rfl), rfl⟩
theorem kw_3_43 : (Jvm.Cond.methodLink "BoostForests$Training" (153 : Nat) ({ cls := "BoostForests$Tree", name := "stepFrom", desc := "(I[I)I" } : Jvm.MethodName)) ∈ gw_tbl := List.mem_filter.mpr ⟨kt_3 _ (List.mem_of_getElem? (i := 43) rfl), rfl⟩
theorem kw_3_44 : (Jvm.Cond.methodLink "BoostForests$Training" (157 : Nat) ({ cls := "BoostForests$Training", name := "tellBoth", desc := "(LBoostForests$Tree;I)J" } : Jvm.MethodName)) ∈ gw_tbl := List.mem_filter.mpr ⟨kt_3 _ (List.mem_of_getElem? (i := 44) rfl), rfl⟩
theorem kl_3_45 : (Jvm.Cond.privateMethod ({ cls := "BoostForests$Training", name := "tellBoth", desc := "(LBoostForests$Tree;I)J" } : Jvm.MethodName)) ∈ lw_tbl := kt_3 _ (List.mem_of_getElem? (i := 45) rfl)
theorem kw_3_46 : (Jvm.Cond.instanceMethod ({ cls := "BoostForests$Training", name := "tellBoth", desc := "(LBoostForests$Tree;I)J" } : Jvm.MethodName)) ∈ gw_tbl := List.mem_filter.mpr ⟨kt_3 _ (List.mem_of_getElem? (i := 46) rfl), rfl⟩
theorem kw_3_47 : (Jvm.Cond.code ({ cls := "BoostForests$Training", name := "tellBoth", desc := "(LBoostForests$Tree;I)J" } : Jvm.MethodName) prog_6_method_13_code (9 : Nat) (Option.some Jvm.ClassFile.FieldType.long)) ∈ gw_tbl := List.mem_filter.mpr ⟨kt_3 _ (List.mem_of_getElem? (i := 47) rfl), rfl⟩
theorem kw_3_48 : (Jvm.Cond.methodLink "BoostForests$Training" (161 : Nat) ({ cls := "java/lang/Math", name := "floorDiv", desc := "(JJ)J" } : Jvm.MethodName)) ∈ gw_tbl := List.mem_filter.mpr ⟨kt_3 _ (List.mem_of_getElem? (i := 48) rfl), rfl⟩
theorem kw_3_49 : (Jvm.Cond.static ({ cls := "java/lang/Math", name := "floorDiv", desc := "(JJ)J" } : Jvm.MethodName)) ∈ gw_tbl := List.mem_filter.mpr ⟨kt_3 _ (List.mem_of_getElem? (i := 49) rfl), rfl⟩
theorem kw_3_50 : (Jvm.Cond.code ({ cls := "java/lang/Math", name := "floorDiv", desc := "(JJ)J" } : Jvm.MethodName) prog_12_method_49_code (6 : Nat) (Option.some Jvm.ClassFile.FieldType.long)) ∈ gw_tbl := List.mem_filter.mpr ⟨kt_3 _ (List.mem_of_getElem? (i := 50) rfl), rfl⟩
theorem kw_3_51 : (Jvm.Cond.methodLink "BoostForestsLaw" (87 : Nat) ({ cls := "BoostForests", name := "share", desc := "(IIIII)J" } : Jvm.MethodName)) ∈ gw_tbl := List.mem_filter.mpr ⟨kt_3 _ (List.mem_of_getElem? (i := 51) rfl), rfl⟩
theorem kw_3_52 : (Jvm.Cond.instanceMethod ({ cls := "BoostForests", name := "share", desc := "(IIIII)J" } : Jvm.MethodName)) ∈ gw_tbl := List.mem_filter.mpr ⟨kt_3 _ (List.mem_of_getElem? (i := 52) rfl), rfl⟩
theorem kw_3_53 : (Jvm.Cond.selects "BoostForests" ({ cls := "BoostForests", name := "share", desc := "(IIIII)J" } : Jvm.MethodName) ({ cls := "BoostForests", name := "share", desc := "(IIIII)J" } : Jvm.MethodName)) ∈ gw_tbl := List.mem_filter.mpr ⟨kt_3 _ (List.mem_of_getElem? (i := 53) rfl), rfl⟩
theorem kw_3_54 : (Jvm.Cond.code ({ cls := "BoostForests", name := "share", desc := "(IIIII)J" } : Jvm.MethodName) prog_1_method_18_code (6 : Nat) (Option.some Jvm.ClassFile.FieldType.long)) ∈ gw_tbl := List.mem_filter.mpr ⟨kt_3 _ (List.mem_of_getElem? (i := 54) rfl), rfl⟩
theorem kw_3_55 : (Jvm.Cond.methodLink "BoostForests" (146 : Nat) ({ cls := "BoostForests$Training", name := "fairShare", desc := "(I[I)J" } : Jvm.MethodName)) ∈ gw_tbl := List.mem_filter.mpr ⟨kt_3 _ (List.mem_of_getElem? (i := 55) rfl), rfl⟩
theorem kw_3_56 : (Jvm.Cond.instanceMethod ({ cls := "BoostForests$Training", name := "fairShare", desc := "(I[I)J" } : Jvm.MethodName)) ∈ gw_tbl := List.mem_filter.mpr ⟨kt_3 _ (List.mem_of_getElem? (i := 56) rfl), rfl⟩
theorem kw_3_57 : (Jvm.Cond.selects "BoostForests$Training" ({ cls := "BoostForests$Training", name := "fairShare", desc := "(I[I)J" } : Jvm.MethodName) ({ cls := "BoostForests$Training", name := "fairShare", desc := "(I[I)J" } : Jvm.MethodName)) ∈ gw_tbl := List.mem_filter.mpr ⟨kt_3 _ (List.mem_of_getElem? (i := 57) rfl), rfl⟩
theorem kw_3_58 : (Jvm.Cond.code ({ cls := "BoostForests$Training", name := "fairShare", desc := "(I[I)J" } : Jvm.MethodName) prog_6_method_11_code (9 : Nat) (Option.some Jvm.ClassFile.FieldType.long)) ∈ gw_tbl := List.mem_filter.mpr ⟨kt_3 _ (List.mem_of_getElem? (i := 58) rfl), rfl⟩
theorem kw_3_59 : (Jvm.Cond.methodLink "BoostForests$Training" (139 : Nat) ({ cls := "java/lang/Integer", name := "bitCount", desc := "(I)I" } : Jvm.MethodName)) ∈ gw_tbl := List.mem_filter.mpr ⟨kt_3 _ (List.mem_of_getElem? (i := 59) rfl), rfl⟩
theorem kw_3_60 : (Jvm.Cond.methodLink "BoostForests$Training" (145 : Nat) ({ cls := "BoostForests$Training", name := "tellAll", desc := "(I[I)J" } : Jvm.MethodName)) ∈ gw_tbl := List.mem_filter.mpr ⟨kt_3 _ (List.mem_of_getElem? (i := 60) rfl), rfl⟩
theorem kw_3_61 : (Jvm.Cond.methodLink "BoostForestsLaw" (91 : Nat) ({ cls := "BoostForests", name := "count", desc := "(I)I" } : Jvm.MethodName)) ∈ gw_tbl := List.mem_filter.mpr ⟨kt_3 _ (List.mem_of_getElem? (i := 61) rfl), rfl⟩
theorem kw_3_62 : (Jvm.Cond.instanceMethod ({ cls := "BoostForests", name := "count", desc := "(I)I" } : Jvm.MethodName)) ∈ gw_tbl := List.mem_filter.mpr ⟨kt_3 _ (List.mem_of_getElem? (i := 62) rfl), rfl⟩
theorem kw_3_63 : (Jvm.Cond.selects "BoostForests" ({ cls := "BoostForests", name := "count", desc := "(I)I" } : Jvm.MethodName) ({ cls := "BoostForests", name := "count", desc := "(I)I" } : Jvm.MethodName)) ∈ gw_tbl := List.mem_filter.mpr ⟨kt_3 _ (List.mem_of_getElem? (i := 63) rfl), rfl⟩
theorem kw_3_64 : (Jvm.Cond.code ({ cls := "BoostForests", name := "count", desc := "(I)I" } : Jvm.MethodName) prog_1_method_19_code (2 : Nat) (Option.some Jvm.ClassFile.FieldType.int)) ∈ gw_tbl := List.mem_filter.mpr ⟨kt_3 _ (List.mem_of_getElem? (i := 64) rfl), rfl⟩
theorem kw_3_65 : (Jvm.Cond.classLink "BoostForestsLaw" (10 : Nat) "BoostForestsModel") ∈ gw_tbl := List.mem_filter.mpr ⟨kt_3 _ (List.mem_of_getElem? (i := 65) rfl), rfl⟩
theorem kw_3_66 : (Jvm.Cond.instantiable "BoostForestsModel" (32 : Nat)) ∈ gw_tbl := List.mem_filter.mpr ⟨kt_3 _ (List.mem_of_getElem? (i := 66) rfl), rfl⟩
theorem kw_3_67 : (Jvm.Cond.methodLink "BoostForestsLaw" (12 : Nat) ({ cls := "BoostForestsModel", name := "<init>", desc := "()V" } : Jvm.MethodName)) ∈ gw_tbl := List.mem_filter.mpr ⟨kt_3 _ (List.mem_of_getElem? (i := 67) rfl), rfl⟩
theorem kw_3_68 : (Jvm.Cond.instanceMethod ({ cls := "BoostForestsModel", name := "<init>", desc := "()V" } : Jvm.MethodName)) ∈ gw_tbl := List.mem_filter.mpr ⟨kt_3 _ (List.mem_of_getElem? (i := 68) rfl), rfl⟩
theorem kw_3_69 : (Jvm.Cond.code ({ cls := "BoostForestsModel", name := "<init>", desc := "()V" } : Jvm.MethodName) prog_9_method_1_code (1 : Nat) (Option.none : Option Jvm.ClassFile.FieldType)) ∈ gw_tbl := List.mem_filter.mpr ⟨kt_3 _ (List.mem_of_getElem? (i := 69) rfl), rfl⟩
theorem kw_3_70 : (Jvm.Cond.methodLink "BoostForestsModel" (1 : Nat) ({ cls := "java/lang/Object", name := "<init>", desc := "()V" } : Jvm.MethodName)) ∈ gw_tbl := List.mem_filter.mpr ⟨kt_3 _ (List.mem_of_getElem? (i := 70) rfl), rfl⟩
theorem kw_3_71 : (Jvm.Cond.fieldLink "BoostForestsModel" (95 : Nat) "BoostForestsModel" "rows" "I") ∈ gw_tbl := List.mem_filter.mpr ⟨kt_3 _ (List.mem_of_getElem? (i := 71) rfl), rfl⟩
theorem kw_3_72 : (Jvm.Cond.fieldLink "BoostForestsModel" (7 : Nat) "BoostForestsModel" "columns" "[I") ∈ gw_tbl := List.mem_filter.mpr ⟨kt_3 _ (List.mem_of_getElem? (i := 72) rfl), rfl⟩
theorem kw_3_73 : (Jvm.Cond.fieldLink "BoostForestsModel" (13 : Nat) "BoostForestsModel" "aims" "[I") ∈ gw_tbl := List.mem_filter.mpr ⟨kt_3 _ (List.mem_of_getElem? (i := 73) rfl), rfl⟩
theorem kw_3_74 : (Jvm.Cond.fieldLink "BoostForestsModel" (16 : Nat) "BoostForestsModel" "weights" "[I") ∈ gw_tbl := List.mem_filter.mpr ⟨kt_3 _ (List.mem_of_getElem? (i := 74) rfl), rfl⟩
theorem kw_3_75 : (Jvm.Cond.fieldLink "BoostForestsModel" (19 : Nat) "BoostForestsModel" "held" "[Z") ∈ gw_tbl := List.mem_filter.mpr ⟨kt_3 _ (List.mem_of_getElem? (i := 75) rfl), rfl⟩
theorem kw_3_76 : (Jvm.Cond.fieldLink "BoostForestsModel" (23 : Nat) "BoostForestsModel" "settings" "[I") ∈ gw_tbl := List.mem_filter.mpr ⟨kt_3 _ (List.mem_of_getElem? (i := 76) rfl), rfl⟩
theorem kw_3_77 : (Jvm.Cond.fieldLink "BoostForestsModel" (111 : Nat) "BoostForestsModel" "trained" "Z") ∈ gw_tbl := List.mem_filter.mpr ⟨kt_3 _ (List.mem_of_getElem? (i := 77) rfl), rfl⟩
theorem kw_3_78 : (Jvm.Cond.fieldLink "BoostForestsModel" (115 : Nat) "BoostForestsModel" "trainedRows" "I") ∈ gw_tbl := List.mem_filter.mpr ⟨kt_3 _ (List.mem_of_getElem? (i := 78) rfl), rfl⟩
theorem kw_3_79 : (Jvm.Cond.fieldLink "BoostForestsModel" (26 : Nat) "BoostForestsModel" "cols" "[I") ∈ gw_tbl := List.mem_filter.mpr ⟨kt_3 _ (List.mem_of_getElem? (i := 79) rfl), rfl⟩
theorem kw_3_80 : (Jvm.Cond.fieldLink "BoostForestsModel" (29 : Nat) "BoostForestsModel" "ys" "[I") ∈ gw_tbl := List.mem_filter.mpr ⟨kt_3 _ (List.mem_of_getElem? (i := 80) rfl), rfl⟩
theorem kw_3_81 : (Jvm.Cond.fieldLink "BoostForestsModel" (32 : Nat) "BoostForestsModel" "ws" "[I") ∈ gw_tbl := List.mem_filter.mpr ⟨kt_3 _ (List.mem_of_getElem? (i := 81) rfl), rfl⟩
theorem kw_3_82 : (Jvm.Cond.fieldLink "BoostForestsModel" (35 : Nat) "BoostForestsModel" "isHeld" "[Z") ∈ gw_tbl := List.mem_filter.mpr ⟨kt_3 _ (List.mem_of_getElem? (i := 82) rfl), rfl⟩
theorem kw_3_83 : (Jvm.Cond.fieldLink "BoostForestsModel" (38 : Nat) "BoostForestsModel" "then" "[I") ∈ gw_tbl := List.mem_filter.mpr ⟨kt_3 _ (List.mem_of_getElem? (i := 83) rfl), rfl⟩
theorem kw_3_84 : (Jvm.Cond.fieldLink "BoostForestsModel" (41 : Nat) "BoostForestsModel" "now" "[J") ∈ gw_tbl := List.mem_filter.mpr ⟨kt_3 _ (List.mem_of_getElem? (i := 84) rfl), rfl⟩
theorem kw_3_85 : (Jvm.Cond.fieldLink "BoostForestsModel" (120 : Nat) "BoostForestsModel" "trees" "I") ∈ gw_tbl := List.mem_filter.mpr ⟨kt_3 _ (List.mem_of_getElem? (i := 85) rfl), rfl⟩
theorem kw_3_86 : (Jvm.Cond.fieldLink "BoostForestsModel" (45 : Nat) "BoostForestsModel" "losses" "[J") ∈ gw_tbl := List.mem_filter.mpr ⟨kt_3 _ (List.mem_of_getElem? (i := 86) rfl), rfl⟩
theorem kw_3_87 : (Jvm.Cond.fieldLink "BoostForestsModel" (48 : Nat) "BoostForestsModel" "takesPart" "[Z") ∈ gw_tbl := List.mem_filter.mpr ⟨kt_3 _ (List.mem_of_getElem? (i := 87) rfl), rfl⟩
theorem kw_3_88 : (Jvm.Cond.fieldLink "BoostForestsModel" (51 : Nat) "BoostForestsModel" "sizes" "[I") ∈ gw_tbl := List.mem_filter.mpr ⟨kt_3 _ (List.mem_of_getElem? (i := 88) rfl), rfl⟩
theorem kw_3_89 : (Jvm.Cond.fieldLink "BoostForestsModel" (54 : Nat) "BoostForestsModel" "nodeColumns" "[I") ∈ gw_tbl := List.mem_filter.mpr ⟨kt_3 _ (List.mem_of_getElem? (i := 89) rfl), rfl⟩
theorem kw_3_90 : (Jvm.Cond.fieldLink "BoostForestsModel" (57 : Nat) "BoostForestsModel" "nodeCuts" "[I") ∈ gw_tbl := List.mem_filter.mpr ⟨kt_3 _ (List.mem_of_getElem? (i := 90) rfl), rfl⟩
theorem kw_3_91 : (Jvm.Cond.fieldLink "BoostForestsModel" (60 : Nat) "BoostForestsModel" "nodeSides" "[I") ∈ gw_tbl := List.mem_filter.mpr ⟨kt_3 _ (List.mem_of_getElem? (i := 91) rfl), rfl⟩
theorem kw_3_92 : (Jvm.Cond.fieldLink "BoostForestsModel" (63 : Nat) "BoostForestsModel" "nodeLefts" "[I") ∈ gw_tbl := List.mem_filter.mpr ⟨kt_3 _ (List.mem_of_getElem? (i := 92) rfl), rfl⟩
theorem kw_3_93 : (Jvm.Cond.fieldLink "BoostForestsModel" (66 : Nat) "BoostForestsModel" "nodeRows" "[I") ∈ gw_tbl := List.mem_filter.mpr ⟨kt_3 _ (List.mem_of_getElem? (i := 93) rfl), rfl⟩
theorem kw_3_94 : (Jvm.Cond.fieldLink "BoostForestsModel" (69 : Nat) "BoostForestsModel" "nodeWeights" "[I") ∈ gw_tbl := List.mem_filter.mpr ⟨kt_3 _ (List.mem_of_getElem? (i := 94) rfl), rfl⟩
theorem kw_3_95 : (Jvm.Cond.fieldLink "BoostForestsModel" (72 : Nat) "BoostForestsModel" "nodeDepths" "[I") ∈ gw_tbl := List.mem_filter.mpr ⟨kt_3 _ (List.mem_of_getElem? (i := 95) rfl), rfl⟩
theorem kw_3_96 : (Jvm.Cond.fieldLink "BoostForestsModel" (75 : Nat) "BoostForestsModel" "nodeSlopes" "[J") ∈ gw_tbl := List.mem_filter.mpr ⟨kt_3 _ (List.mem_of_getElem? (i := 96) rfl), rfl⟩
theorem kw_3_97 : (Jvm.Cond.fieldLink "BoostForestsModel" (78 : Nat) "BoostForestsModel" "nodeGains" "[J") ∈ gw_tbl := List.mem_filter.mpr ⟨kt_3 _ (List.mem_of_getElem? (i := 97) rfl), rfl⟩
theorem kw_3_98 : (Jvm.Cond.fieldLink "BoostForestsModel" (81 : Nat) "BoostForestsModel" "nodeOf" "[I") ∈ gw_tbl := List.mem_filter.mpr ⟨kt_3 _ (List.mem_of_getElem? (i := 98) rfl), rfl⟩
theorem kw_3_99 : (Jvm.Cond.fieldLink "BoostForestsModel" (84 : Nat) "BoostForestsModel" "tells" "[J") ∈ gw_tbl := List.mem_filter.mpr ⟨kt_3 _ (List.mem_of_getElem? (i := 99) rfl), rfl⟩
theorem kw_3_100 : (Jvm.Cond.fieldLink "BoostForestsModel" (137 : Nat) "BoostForestsModel" "slope" "J") ∈ gw_tbl := List.mem_filter.mpr ⟨kt_3 _ (List.mem_of_getElem? (i := 100) rfl), rfl⟩
theorem kw_3_101 : (Jvm.Cond.fieldLink "BoostForestsModel" (141 : Nat) "BoostForestsModel" "weight" "I") ∈ gw_tbl := List.mem_filter.mpr ⟨kt_3 _ (List.mem_of_getElem? (i := 101) rfl), rfl⟩
theorem kw_3_102 : (Jvm.Cond.fieldLink "BoostForestsModel" (144 : Nat) "BoostForestsModel" "count" "I") ∈ gw_tbl := List.mem_filter.mpr ⟨kt_3 _ (List.mem_of_getElem? (i := 102) rfl), rfl⟩
theorem kw_3_103 : (Jvm.Cond.lays "BoostForestsModel" "BoostForestsModel" "rows" "I") ∈ gw_tbl := List.mem_filter.mpr ⟨kt_3 _ (List.mem_of_getElem? (i := 103) rfl), rfl⟩
theorem kl_3_104 : (Jvm.Cond.soleField "BoostForestsModel" "rows") ∈ lw_tbl := kt_3 _ (List.mem_of_getElem? (i := 104) rfl)
theorem kw_3_105 : (Jvm.Cond.laysFinal "BoostForestsModel" "BoostForestsModel" "columns" "[I") ∈ gw_tbl := List.mem_filter.mpr ⟨kt_3 _ (List.mem_of_getElem? (i := 105) rfl), rfl⟩
theorem kl_3_106 : (Jvm.Cond.soleField "BoostForestsModel" "columns") ∈ lw_tbl := kt_3 _ (List.mem_of_getElem? (i := 106) rfl)
theorem kw_3_107 : (Jvm.Cond.laysFinal "BoostForestsModel" "BoostForestsModel" "aims" "[I") ∈ gw_tbl := List.mem_filter.mpr ⟨kt_3 _ (List.mem_of_getElem? (i := 107) rfl), rfl⟩
theorem kl_3_108 : (Jvm.Cond.soleField "BoostForestsModel" "aims") ∈ lw_tbl := kt_3 _ (List.mem_of_getElem? (i := 108) rfl)
theorem kw_3_109 : (Jvm.Cond.laysFinal "BoostForestsModel" "BoostForestsModel" "weights" "[I") ∈ gw_tbl := List.mem_filter.mpr ⟨kt_3 _ (List.mem_of_getElem? (i := 109) rfl), rfl⟩
theorem kl_3_110 : (Jvm.Cond.soleField "BoostForestsModel" "weights") ∈ lw_tbl := kt_3 _ (List.mem_of_getElem? (i := 110) rfl)
theorem kw_3_111 : (Jvm.Cond.laysFinal "BoostForestsModel" "BoostForestsModel" "held" "[Z") ∈ gw_tbl := List.mem_filter.mpr ⟨kt_3 _ (List.mem_of_getElem? (i := 111) rfl), rfl⟩
theorem kl_3_112 : (Jvm.Cond.soleField "BoostForestsModel" "held") ∈ lw_tbl := kt_3 _ (List.mem_of_getElem? (i := 112) rfl)
theorem kw_3_113 : (Jvm.Cond.laysFinal "BoostForestsModel" "BoostForestsModel" "settings" "[I") ∈ gw_tbl := List.mem_filter.mpr ⟨kt_3 _ (List.mem_of_getElem? (i := 113) rfl), rfl⟩
theorem kl_3_114 : (Jvm.Cond.soleField "BoostForestsModel" "settings") ∈ lw_tbl := kt_3 _ (List.mem_of_getElem? (i := 114) rfl)
theorem kw_3_115 : (Jvm.Cond.lays "BoostForestsModel" "BoostForestsModel" "trained" "Z") ∈ gw_tbl := List.mem_filter.mpr ⟨kt_3 _ (List.mem_of_getElem? (i := 115) rfl), rfl⟩
theorem kl_3_116 : (Jvm.Cond.soleField "BoostForestsModel" "trained") ∈ lw_tbl := kt_3 _ (List.mem_of_getElem? (i := 116) rfl)
theorem kw_3_117 : (Jvm.Cond.lays "BoostForestsModel" "BoostForestsModel" "trainedRows" "I") ∈ gw_tbl := List.mem_filter.mpr ⟨kt_3 _ (List.mem_of_getElem? (i := 117) rfl), rfl⟩
theorem kl_3_118 : (Jvm.Cond.soleField "BoostForestsModel" "trainedRows") ∈ lw_tbl := kt_3 _ (List.mem_of_getElem? (i := 118) rfl)
theorem kw_3_119 : (Jvm.Cond.laysFinal "BoostForestsModel" "BoostForestsModel" "cols" "[I") ∈ gw_tbl := List.mem_filter.mpr ⟨kt_3 _ (List.mem_of_getElem? (i := 119) rfl), rfl⟩
theorem kl_3_120 : (Jvm.Cond.soleField "BoostForestsModel" "cols") ∈ lw_tbl := kt_3 _ (List.mem_of_getElem? (i := 120) rfl)
theorem kw_3_121 : (Jvm.Cond.laysFinal "BoostForestsModel" "BoostForestsModel" "ys" "[I") ∈ gw_tbl := List.mem_filter.mpr ⟨kt_3 _ (List.mem_of_getElem? (i := 121) rfl), rfl⟩
theorem kl_3_122 : (Jvm.Cond.soleField "BoostForestsModel" "ys") ∈ lw_tbl := kt_3 _ (List.mem_of_getElem? (i := 122) rfl)
theorem kw_3_123 : (Jvm.Cond.laysFinal "BoostForestsModel" "BoostForestsModel" "ws" "[I") ∈ gw_tbl := List.mem_filter.mpr ⟨kt_3 _ (List.mem_of_getElem? (i := 123) rfl), rfl⟩
theorem kl_3_124 : (Jvm.Cond.soleField "BoostForestsModel" "ws") ∈ lw_tbl := kt_3 _ (List.mem_of_getElem? (i := 124) rfl)
theorem kw_3_125 : (Jvm.Cond.laysFinal "BoostForestsModel" "BoostForestsModel" "isHeld" "[Z") ∈ gw_tbl := List.mem_filter.mpr ⟨kt_3 _ (List.mem_of_getElem? (i := 125) rfl), rfl⟩
theorem kl_3_126 : (Jvm.Cond.soleField "BoostForestsModel" "isHeld") ∈ lw_tbl := kt_3 _ (List.mem_of_getElem? (i := 126) rfl)
theorem kw_3_127 : (Jvm.Cond.laysFinal "BoostForestsModel" "BoostForestsModel" "then" "[I") ∈ gw_tbl := List.mem_filter.mpr ⟨kt_3 _ (List.mem_of_getElem? (i := 127) rfl), rfl⟩
theorem kl_3_128 : (Jvm.Cond.soleField "BoostForestsModel" "then") ∈ lw_tbl := kt_3 _ (List.mem_of_getElem? (i := 128) rfl)
theorem kw_3_129 : (Jvm.Cond.laysFinal "BoostForestsModel" "BoostForestsModel" "now" "[J") ∈ gw_tbl := List.mem_filter.mpr ⟨kt_3 _ (List.mem_of_getElem? (i := 129) rfl), rfl⟩
theorem kl_3_130 : (Jvm.Cond.soleField "BoostForestsModel" "now") ∈ lw_tbl := kt_3 _ (List.mem_of_getElem? (i := 130) rfl)
theorem kw_3_131 : (Jvm.Cond.lays "BoostForestsModel" "BoostForestsModel" "trees" "I") ∈ gw_tbl := List.mem_filter.mpr ⟨kt_3 _ (List.mem_of_getElem? (i := 131) rfl), rfl⟩
theorem kl_3_132 : (Jvm.Cond.soleField "BoostForestsModel" "trees") ∈ lw_tbl := kt_3 _ (List.mem_of_getElem? (i := 132) rfl)
theorem kw_3_133 : (Jvm.Cond.laysFinal "BoostForestsModel" "BoostForestsModel" "losses" "[J") ∈ gw_tbl := List.mem_filter.mpr ⟨kt_3 _ (List.mem_of_getElem? (i := 133) rfl), rfl⟩
theorem kl_3_134 : (Jvm.Cond.soleField "BoostForestsModel" "losses") ∈ lw_tbl := kt_3 _ (List.mem_of_getElem? (i := 134) rfl)
theorem kw_3_135 : (Jvm.Cond.laysFinal "BoostForestsModel" "BoostForestsModel" "takesPart" "[Z") ∈ gw_tbl := List.mem_filter.mpr ⟨kt_3 _ (List.mem_of_getElem? (i := 135) rfl), rfl⟩
theorem kl_3_136 : (Jvm.Cond.soleField "BoostForestsModel" "takesPart") ∈ lw_tbl := kt_3 _ (List.mem_of_getElem? (i := 136) rfl)
theorem kw_3_137 : (Jvm.Cond.laysFinal "BoostForestsModel" "BoostForestsModel" "sizes" "[I") ∈ gw_tbl := List.mem_filter.mpr ⟨kt_3 _ (List.mem_of_getElem? (i := 137) rfl), rfl⟩
theorem kl_3_138 : (Jvm.Cond.soleField "BoostForestsModel" "sizes") ∈ lw_tbl := kt_3 _ (List.mem_of_getElem? (i := 138) rfl)
theorem kw_3_139 : (Jvm.Cond.laysFinal "BoostForestsModel" "BoostForestsModel" "nodeColumns" "[I") ∈ gw_tbl := List.mem_filter.mpr ⟨kt_3 _ (List.mem_of_getElem? (i := 139) rfl), rfl⟩
theorem kl_3_140 : (Jvm.Cond.soleField "BoostForestsModel" "nodeColumns") ∈ lw_tbl := kt_3 _ (List.mem_of_getElem? (i := 140) rfl)
theorem kw_3_141 : (Jvm.Cond.laysFinal "BoostForestsModel" "BoostForestsModel" "nodeCuts" "[I") ∈ gw_tbl := List.mem_filter.mpr ⟨kt_3 _ (List.mem_of_getElem? (i := 141) rfl), rfl⟩
theorem kl_3_142 : (Jvm.Cond.soleField "BoostForestsModel" "nodeCuts") ∈ lw_tbl := kt_3 _ (List.mem_of_getElem? (i := 142) rfl)
theorem kw_3_143 : (Jvm.Cond.laysFinal "BoostForestsModel" "BoostForestsModel" "nodeSides" "[I") ∈ gw_tbl := List.mem_filter.mpr ⟨kt_3 _ (List.mem_of_getElem? (i := 143) rfl), rfl⟩
theorem kl_3_144 : (Jvm.Cond.soleField "BoostForestsModel" "nodeSides") ∈ lw_tbl := kt_3 _ (List.mem_of_getElem? (i := 144) rfl)
theorem kw_3_145 : (Jvm.Cond.laysFinal "BoostForestsModel" "BoostForestsModel" "nodeLefts" "[I") ∈ gw_tbl := List.mem_filter.mpr ⟨kt_3 _ (List.mem_of_getElem? (i := 145) rfl), rfl⟩
theorem kl_3_146 : (Jvm.Cond.soleField "BoostForestsModel" "nodeLefts") ∈ lw_tbl := kt_3 _ (List.mem_of_getElem? (i := 146) rfl)
theorem kw_3_147 : (Jvm.Cond.laysFinal "BoostForestsModel" "BoostForestsModel" "nodeRows" "[I") ∈ gw_tbl := List.mem_filter.mpr ⟨kt_3 _ (List.mem_of_getElem? (i := 147) rfl), rfl⟩
theorem kl_3_148 : (Jvm.Cond.soleField "BoostForestsModel" "nodeRows") ∈ lw_tbl := kt_3 _ (List.mem_of_getElem? (i := 148) rfl)
theorem kw_3_149 : (Jvm.Cond.laysFinal "BoostForestsModel" "BoostForestsModel" "nodeWeights" "[I") ∈ gw_tbl := List.mem_filter.mpr ⟨kt_3 _ (List.mem_of_getElem? (i := 149) rfl), rfl⟩
theorem kl_3_150 : (Jvm.Cond.soleField "BoostForestsModel" "nodeWeights") ∈ lw_tbl := kt_3 _ (List.mem_of_getElem? (i := 150) rfl)
theorem kw_3_151 : (Jvm.Cond.laysFinal "BoostForestsModel" "BoostForestsModel" "nodeDepths" "[I") ∈ gw_tbl := List.mem_filter.mpr ⟨kt_3 _ (List.mem_of_getElem? (i := 151) rfl), rfl⟩
theorem kl_3_152 : (Jvm.Cond.soleField "BoostForestsModel" "nodeDepths") ∈ lw_tbl := kt_3 _ (List.mem_of_getElem? (i := 152) rfl)
theorem kw_3_153 : (Jvm.Cond.laysFinal "BoostForestsModel" "BoostForestsModel" "nodeSlopes" "[J") ∈ gw_tbl := List.mem_filter.mpr ⟨kt_3 _ (List.mem_of_getElem? (i := 153) rfl), rfl⟩
theorem kl_3_154 : (Jvm.Cond.soleField "BoostForestsModel" "nodeSlopes") ∈ lw_tbl := kt_3 _ (List.mem_of_getElem? (i := 154) rfl)
theorem kw_3_155 : (Jvm.Cond.laysFinal "BoostForestsModel" "BoostForestsModel" "nodeGains" "[J") ∈ gw_tbl := List.mem_filter.mpr ⟨kt_3 _ (List.mem_of_getElem? (i := 155) rfl), rfl⟩
theorem kl_3_156 : (Jvm.Cond.soleField "BoostForestsModel" "nodeGains") ∈ lw_tbl := kt_3 _ (List.mem_of_getElem? (i := 156) rfl)
theorem kw_3_157 : (Jvm.Cond.laysFinal "BoostForestsModel" "BoostForestsModel" "nodeOf" "[I") ∈ gw_tbl := List.mem_filter.mpr ⟨kt_3 _ (List.mem_of_getElem? (i := 157) rfl), rfl⟩
theorem kl_3_158 : (Jvm.Cond.soleField "BoostForestsModel" "nodeOf") ∈ lw_tbl := kt_3 _ (List.mem_of_getElem? (i := 158) rfl)
theorem kw_3_159 : (Jvm.Cond.laysFinal "BoostForestsModel" "BoostForestsModel" "tells" "[J") ∈ gw_tbl := List.mem_filter.mpr ⟨kt_3 _ (List.mem_of_getElem? (i := 159) rfl), rfl⟩
theorem kl_3_160 : (Jvm.Cond.soleField "BoostForestsModel" "tells") ∈ lw_tbl := kt_3 _ (List.mem_of_getElem? (i := 160) rfl)
theorem kw_3_161 : (Jvm.Cond.lays "BoostForestsModel" "BoostForestsModel" "slope" "J") ∈ gw_tbl := List.mem_filter.mpr ⟨kt_3 _ (List.mem_of_getElem? (i := 161) rfl), rfl⟩
theorem kl_3_162 : (Jvm.Cond.soleField "BoostForestsModel" "slope") ∈ lw_tbl := kt_3 _ (List.mem_of_getElem? (i := 162) rfl)
theorem kw_3_163 : (Jvm.Cond.lays "BoostForestsModel" "BoostForestsModel" "weight" "I") ∈ gw_tbl := List.mem_filter.mpr ⟨kt_3 _ (List.mem_of_getElem? (i := 163) rfl), rfl⟩
theorem kl_3_164 : (Jvm.Cond.soleField "BoostForestsModel" "weight") ∈ lw_tbl := kt_3 _ (List.mem_of_getElem? (i := 164) rfl)
theorem kw_3_165 : (Jvm.Cond.lays "BoostForestsModel" "BoostForestsModel" "count" "I") ∈ gw_tbl := List.mem_filter.mpr ⟨kt_3 _ (List.mem_of_getElem? (i := 165) rfl), rfl⟩
theorem kl_3_166 : (Jvm.Cond.soleField "BoostForestsModel" "count") ∈ lw_tbl := kt_3 _ (List.mem_of_getElem? (i := 166) rfl)
theorem kl_3_167 : (Jvm.Cond.superclass "BoostForestsModel" "java/lang/Object") ∈ lw_tbl := kt_3 _ (List.mem_of_getElem? (i := 167) rfl)
theorem kw_3_168 : (Jvm.Cond.methodLink "BoostForestsLaw" (17 : Nat) ({ cls := "BoostForestsModel", name := "row", desc := "(IIIIII)I" } : Jvm.MethodName)) ∈ gw_tbl := List.mem_filter.mpr ⟨kt_3 _ (List.mem_of_getElem? (i := 168) rfl), rfl⟩
theorem kw_3_169 : (Jvm.Cond.instanceMethod ({ cls := "BoostForestsModel", name := "row", desc := "(IIIIII)I" } : Jvm.MethodName)) ∈ gw_tbl := List.mem_filter.mpr ⟨kt_3 _ (List.mem_of_getElem? (i := 169) rfl), rfl⟩
theorem kw_3_170 : (Jvm.Cond.selects "BoostForestsModel" ({ cls := "BoostForestsModel", name := "row", desc := "(IIIIII)I" } : Jvm.MethodName) ({ cls := "BoostForestsModel", name := "row", desc := "(IIIIII)I" } : Jvm.MethodName)) ∈ gw_tbl := List.mem_filter.mpr ⟨kt_3 _ (List.mem_of_getElem? (i := 170) rfl), rfl⟩
theorem kw_3_171 : (Jvm.Cond.code ({ cls := "BoostForestsModel", name := "row", desc := "(IIIIII)I" } : Jvm.MethodName) prog_9_method_5_code (8 : Nat) (Option.some Jvm.ClassFile.FieldType.int)) ∈ gw_tbl := List.mem_filter.mpr ⟨kt_3 _ (List.mem_of_getElem? (i := 171) rfl), rfl⟩
theorem kw_3_172 : (Jvm.Cond.methodLink "BoostForestsModel" (91 : Nat) ({ cls := "BoostForestsModel", name := "areNumbers", desc := "(IIII)Z" } : Jvm.MethodName)) ∈ gw_tbl := List.mem_filter.mpr ⟨kt_3 _ (List.mem_of_getElem? (i := 172) rfl), rfl⟩
theorem kw_3_173 : (Jvm.Cond.static ({ cls := "BoostForestsModel", name := "areNumbers", desc := "(IIII)Z" } : Jvm.MethodName)) ∈ gw_tbl := List.mem_filter.mpr ⟨kt_3 _ (List.mem_of_getElem? (i := 173) rfl), rfl⟩
theorem kw_3_174 : (Jvm.Cond.code ({ cls := "BoostForestsModel", name := "areNumbers", desc := "(IIII)Z" } : Jvm.MethodName) prog_9_method_3_code (4 : Nat) (Option.some Jvm.ClassFile.FieldType.boolean)) ∈ gw_tbl := List.mem_filter.mpr ⟨kt_3 _ (List.mem_of_getElem? (i := 174) rfl), rfl⟩
theorem kw_3_175 : (Jvm.Cond.methodLink "BoostForestsModel" (87 : Nat) ({ cls := "BoostForestsModel", name := "isNumber", desc := "(I)Z" } : Jvm.MethodName)) ∈ gw_tbl := List.mem_filter.mpr ⟨kt_3 _ (List.mem_of_getElem? (i := 175) rfl), rfl⟩
theorem kw_3_176 : (Jvm.Cond.static ({ cls := "BoostForestsModel", name := "isNumber", desc := "(I)Z" } : Jvm.MethodName)) ∈ gw_tbl := List.mem_filter.mpr ⟨kt_3 _ (List.mem_of_getElem? (i := 176) rfl), rfl⟩
theorem kw_3_177 : (Jvm.Cond.code ({ cls := "BoostForestsModel", name := "isNumber", desc := "(I)Z" } : Jvm.MethodName) prog_9_method_2_code (1 : Nat) (Option.some Jvm.ClassFile.FieldType.boolean)) ∈ gw_tbl := List.mem_filter.mpr ⟨kt_3 _ (List.mem_of_getElem? (i := 177) rfl), rfl⟩
theorem kw_3_178 : (Jvm.Cond.methodLink "BoostForestsModel" (99 : Nat) ({ cls := "BoostForestsModel", name := "number", desc := "(IIIII)I" } : Jvm.MethodName)) ∈ gw_tbl := List.mem_filter.mpr ⟨kt_3 _ (List.mem_of_getElem? (i := 178) rfl), rfl⟩
theorem kw_3_179 : (Jvm.Cond.static ({ cls := "BoostForestsModel", name := "number", desc := "(IIIII)I" } : Jvm.MethodName)) ∈ gw_tbl := List.mem_filter.mpr ⟨kt_3 _ (List.mem_of_getElem? (i := 179) rfl), rfl⟩
theorem kw_3_180 : (Jvm.Cond.code ({ cls := "BoostForestsModel", name := "number", desc := "(IIIII)I" } : Jvm.MethodName) prog_9_method_4_code (5 : Nat) (Option.some Jvm.ClassFile.FieldType.int)) ∈ gw_tbl := List.mem_filter.mpr ⟨kt_3 _ (List.mem_of_getElem? (i := 180) rfl), rfl⟩
theorem kw_3_181 : (Jvm.Cond.methodLink "BoostForestsLaw" (22 : Nat) ({ cls := "BoostForestsModel", name := "hold", desc := "(II)I" } : Jvm.MethodName)) ∈ gw_tbl := List.mem_filter.mpr ⟨kt_3 _ (List.mem_of_getElem? (i := 181) rfl), rfl⟩
theorem kw_3_182 : (Jvm.Cond.instanceMethod ({ cls := "BoostForestsModel", name := "hold", desc := "(II)I" } : Jvm.MethodName)) ∈ gw_tbl := List.mem_filter.mpr ⟨kt_3 _ (List.mem_of_getElem? (i := 182) rfl), rfl⟩
theorem kw_3_183 : (Jvm.Cond.selects "BoostForestsModel" ({ cls := "BoostForestsModel", name := "hold", desc := "(II)I" } : Jvm.MethodName) ({ cls := "BoostForestsModel", name := "hold", desc := "(II)I" } : Jvm.MethodName)) ∈ gw_tbl := List.mem_filter.mpr ⟨kt_3 _ (List.mem_of_getElem? (i := 183) rfl), rfl⟩
theorem kw_3_184 : (Jvm.Cond.code ({ cls := "BoostForestsModel", name := "hold", desc := "(II)I" } : Jvm.MethodName) prog_9_method_6_code (4 : Nat) (Option.some Jvm.ClassFile.FieldType.int)) ∈ gw_tbl := List.mem_filter.mpr ⟨kt_3 _ (List.mem_of_getElem? (i := 184) rfl), rfl⟩
theorem kw_3_185 : (Jvm.Cond.methodLink "BoostForestsLaw" (26 : Nat) ({ cls := "BoostForestsModel", name := "set", desc := "(II)I" } : Jvm.MethodName)) ∈ gw_tbl := List.mem_filter.mpr ⟨kt_3 _ (List.mem_of_getElem? (i := 185) rfl), rfl⟩
theorem kw_3_186 : (Jvm.Cond.instanceMethod ({ cls := "BoostForestsModel", name := "set", desc := "(II)I" } : Jvm.MethodName)) ∈ gw_tbl := List.mem_filter.mpr ⟨kt_3 _ (List.mem_of_getElem? (i := 186) rfl), rfl⟩
theorem kw_3_187 : (Jvm.Cond.selects "BoostForestsModel" ({ cls := "BoostForestsModel", name := "set", desc := "(II)I" } : Jvm.MethodName) ({ cls := "BoostForestsModel", name := "set", desc := "(II)I" } : Jvm.MethodName)) ∈ gw_tbl := List.mem_filter.mpr ⟨kt_3 _ (List.mem_of_getElem? (i := 187) rfl), rfl⟩
theorem kw_3_188 : (Jvm.Cond.code ({ cls := "BoostForestsModel", name := "set", desc := "(II)I" } : Jvm.MethodName) prog_9_method_8_code (4 : Nat) (Option.some Jvm.ClassFile.FieldType.int)) ∈ gw_tbl := List.mem_filter.mpr ⟨kt_3 _ (List.mem_of_getElem? (i := 188) rfl), rfl⟩
theorem kw_3_189 : (Jvm.Cond.methodLink "BoostForestsModel" (104 : Nat) ({ cls := "BoostForestsModel", name := "isSetting", desc := "(II)Z" } : Jvm.MethodName)) ∈ gw_tbl := List.mem_filter.mpr ⟨kt_3 _ (List.mem_of_getElem? (i := 189) rfl), rfl⟩
theorem kw_3_190 : (Jvm.Cond.static ({ cls := "BoostForestsModel", name := "isSetting", desc := "(II)Z" } : Jvm.MethodName)) ∈ gw_tbl := List.mem_filter.mpr ⟨kt_3 _ (List.mem_of_getElem? (i := 190) rfl), rfl⟩
theorem kw_3_191 : (Jvm.Cond.code ({ cls := "BoostForestsModel", name := "isSetting", desc := "(II)Z" } : Jvm.MethodName) prog_9_method_7_code (2 : Nat) (Option.some Jvm.ClassFile.FieldType.boolean)) ∈ gw_tbl := List.mem_filter.mpr ⟨kt_3 _ (List.mem_of_getElem? (i := 191) rfl), rfl⟩
theorem kw_3_192 : (Jvm.Cond.constant "BoostForestsModel" (103 : Nat) (1000000 : Int32)) ∈ gw_tbl := List.mem_filter.mpr ⟨kt_3 _ (List.mem_of_getElem? (i := 192) rfl), rfl⟩
theorem kw_3_193 : (Jvm.Cond.methodLink "BoostForestsLaw" (31 : Nat) ({ cls := "BoostForestsModel", name := "clear", desc := "()I" } : Jvm.MethodName)) ∈ gw_tbl := List.mem_filter.mpr ⟨kt_3 _ (List.mem_of_getElem? (i := 193) rfl), rfl⟩
theorem kw_3_194 : (Jvm.Cond.instanceMethod ({ cls := "BoostForestsModel", name := "clear", desc := "()I" } : Jvm.MethodName)) ∈ gw_tbl := List.mem_filter.mpr ⟨kt_3 _ (List.mem_of_getElem? (i := 194) rfl), rfl⟩
theorem kw_3_195 : (Jvm.Cond.selects "BoostForestsModel" ({ cls := "BoostForestsModel", name := "clear", desc := "()I" } : Jvm.MethodName) ({ cls := "BoostForestsModel", name := "clear", desc := "()I" } : Jvm.MethodName)) ∈ gw_tbl := List.mem_filter.mpr ⟨kt_3 _ (List.mem_of_getElem? (i := 195) rfl), rfl⟩
theorem kw_3_196 : (Jvm.Cond.code ({ cls := "BoostForestsModel", name := "clear", desc := "()I" } : Jvm.MethodName) prog_9_method_9_code (2 : Nat) (Option.some Jvm.ClassFile.FieldType.int)) ∈ gw_tbl := List.mem_filter.mpr ⟨kt_3 _ (List.mem_of_getElem? (i := 196) rfl), rfl⟩
theorem kw_3_197 : (Jvm.Cond.methodLink "BoostForestsLaw" (35 : Nat) ({ cls := "BoostForestsModel", name := "train", desc := "()I" } : Jvm.MethodName)) ∈ gw_tbl := List.mem_filter.mpr ⟨kt_3 _ (List.mem_of_getElem? (i := 197) rfl), rfl⟩
theorem kw_3_198 : (Jvm.Cond.instanceMethod ({ cls := "BoostForestsModel", name := "train", desc := "()I" } : Jvm.MethodName)) ∈ gw_tbl := List.mem_filter.mpr ⟨kt_3 _ (List.mem_of_getElem? (i := 198) rfl), rfl⟩
theorem kw_3_199 : (Jvm.Cond.selects "BoostForestsModel" ({ cls := "BoostForestsModel", name := "train", desc := "()I" } : Jvm.MethodName) ({ cls := "BoostForestsModel", name := "train", desc := "()I" } : Jvm.MethodName)) ∈ gw_tbl := List.mem_filter.mpr ⟨kt_3 _ (List.mem_of_getElem? (i := 199) rfl), rfl⟩
theorem kw_3_200 : (Jvm.Cond.code ({ cls := "BoostForestsModel", name := "train", desc := "()I" } : Jvm.MethodName) prog_9_method_11_code (8 : Nat) (Option.some Jvm.ClassFile.FieldType.int)) ∈ gw_tbl := List.mem_filter.mpr ⟨kt_3 _ (List.mem_of_getElem? (i := 200) rfl), rfl⟩
theorem kw_3_201 : (Jvm.Cond.constantLong "BoostForestsModel" (118 : Nat) (256 : Int64)) ∈ gw_tbl := List.mem_filter.mpr ⟨kt_3 _ (List.mem_of_getElem? (i := 201) rfl), rfl⟩
theorem kw_3_202 : (Jvm.Cond.methodLink "BoostForestsModel" (123 : Nat) ({ cls := "BoostForestsModel", name := "keepLosses", desc := "()V" } : Jvm.MethodName)) ∈ gw_tbl := List.mem_filter.mpr ⟨kt_3 _ (List.mem_of_getElem? (i := 202) rfl), rfl⟩
theorem kl_3_203 : (Jvm.Cond.privateMethod ({ cls := "BoostForestsModel", name := "keepLosses", desc := "()V" } : Jvm.MethodName)) ∈ lw_tbl := kt_3 _ (List.mem_of_getElem? (i := 203) rfl)
theorem kw_3_204 : (Jvm.Cond.instanceMethod ({ cls := "BoostForestsModel", name := "keepLosses", desc := "()V" } : Jvm.MethodName)) ∈ gw_tbl := List.mem_filter.mpr ⟨kt_3 _ (List.mem_of_getElem? (i := 204) rfl), rfl⟩
theorem kw_3_205 : (Jvm.Cond.code ({ cls := "BoostForestsModel", name := "keepLosses", desc := "()V" } : Jvm.MethodName) prog_9_method_12_code (5 : Nat) (Option.none : Option Jvm.ClassFile.FieldType)) ∈ gw_tbl := List.mem_filter.mpr ⟨kt_3 _ (List.mem_of_getElem? (i := 205) rfl), rfl⟩
theorem kw_3_206 : (Jvm.Cond.methodLink "BoostForestsModel" (126 : Nat) ({ cls := "BoostForestsModel", name := "makeTree", desc := "(I)V" } : Jvm.MethodName)) ∈ gw_tbl := List.mem_filter.mpr ⟨kt_3 _ (List.mem_of_getElem? (i := 206) rfl), rfl⟩
theorem kl_3_207 : (Jvm.Cond.privateMethod ({ cls := "BoostForestsModel", name := "makeTree", desc := "(I)V" } : Jvm.MethodName)) ∈ lw_tbl := kt_3 _ (List.mem_of_getElem? (i := 207) rfl)
theorem kw_3_208 : (Jvm.Cond.instanceMethod ({ cls := "BoostForestsModel", name := "makeTree", desc := "(I)V" } : Jvm.MethodName)) ∈ gw_tbl := List.mem_filter.mpr ⟨kt_3 _ (List.mem_of_getElem? (i := 208) rfl), rfl⟩
theorem kw_3_209 : (Jvm.Cond.code ({ cls := "BoostForestsModel", name := "makeTree", desc := "(I)V" } : Jvm.MethodName) prog_9_method_17_code (4 : Nat) (Option.none : Option Jvm.ClassFile.FieldType)) ∈ gw_tbl := List.mem_filter.mpr ⟨kt_3 _ (List.mem_of_getElem? (i := 209) rfl), rfl⟩
theorem kw_3_210 : (Jvm.Cond.methodLink "BoostForestsModel" (151 : Nat) ({ cls := "BoostForestsModel", name := "drawn", desc := "(I)I" } : Jvm.MethodName)) ∈ gw_tbl := List.mem_filter.mpr ⟨kt_3 _ (List.mem_of_getElem? (i := 210) rfl), rfl⟩
theorem kl_3_211 : (Jvm.Cond.privateMethod ({ cls := "BoostForestsModel", name := "drawn", desc := "(I)I" } : Jvm.MethodName)) ∈ lw_tbl := kt_3 _ (List.mem_of_getElem? (i := 211) rfl)
theorem kw_3_212 : (Jvm.Cond.instanceMethod ({ cls := "BoostForestsModel", name := "drawn", desc := "(I)I" } : Jvm.MethodName)) ∈ gw_tbl := List.mem_filter.mpr ⟨kt_3 _ (List.mem_of_getElem? (i := 212) rfl), rfl⟩
theorem kw_3_213 : (Jvm.Cond.code ({ cls := "BoostForestsModel", name := "drawn", desc := "(I)I" } : Jvm.MethodName) prog_9_method_10_code (3 : Nat) (Option.some Jvm.ClassFile.FieldType.int)) ∈ gw_tbl := List.mem_filter.mpr ⟨kt_3 _ (List.mem_of_getElem? (i := 213) rfl), rfl⟩
theorem kw_3_214 : (Jvm.Cond.constant "BoostForestsModel" (108 : Nat) (1000003 : Int32)) ∈ gw_tbl := List.mem_filter.mpr ⟨kt_3 _ (List.mem_of_getElem? (i := 214) rfl), rfl⟩
theorem kw_3_215 : (Jvm.Cond.constant "BoostForestsModel" (109 : Nat) (739982445 : Int32)) ∈ gw_tbl := List.mem_filter.mpr ⟨kt_3 _ (List.mem_of_getElem? (i := 215) rfl), rfl⟩
theorem kw_3_216 : (Jvm.Cond.constant "BoostForestsModel" (110 : Nat) (695872825 : Int32)) ∈ gw_tbl := List.mem_filter.mpr ⟨kt_3 _ (List.mem_of_getElem? (i := 216) rfl), rfl⟩
theorem kw_3_217 : (Jvm.Cond.methodLink "BoostForestsModel" (155 : Nat) ({ cls := "BoostForestsModel", name := "layNode", desc := "(III)V" } : Jvm.MethodName)) ∈ gw_tbl := List.mem_filter.mpr ⟨kt_3 _ (List.mem_of_getElem? (i := 217) rfl), rfl⟩
theorem kl_3_218 : (Jvm.Cond.privateMethod ({ cls := "BoostForestsModel", name := "layNode", desc := "(III)V" } : Jvm.MethodName)) ∈ lw_tbl := kt_3 _ (List.mem_of_getElem? (i := 218) rfl)
theorem kw_3_219 : (Jvm.Cond.instanceMethod ({ cls := "BoostForestsModel", name := "layNode", desc := "(III)V" } : Jvm.MethodName)) ∈ gw_tbl := List.mem_filter.mpr ⟨kt_3 _ (List.mem_of_getElem? (i := 219) rfl), rfl⟩
theorem kw_3_220 : (Jvm.Cond.code ({ cls := "BoostForestsModel", name := "layNode", desc := "(III)V" } : Jvm.MethodName) prog_9_method_18_code (5 : Nat) (Option.none : Option Jvm.ClassFile.FieldType)) ∈ gw_tbl := List.mem_filter.mpr ⟨kt_3 _ (List.mem_of_getElem? (i := 220) rfl), rfl⟩
theorem kw_3_221 : (Jvm.Cond.methodLink "BoostForestsModel" (163 : Nat) ({ cls := "BoostForestsModel", name := "sumUp", desc := "(IIIIZ)V" } : Jvm.MethodName)) ∈ gw_tbl := List.mem_filter.mpr ⟨kt_3 _ (List.mem_of_getElem? (i := 221) rfl), rfl⟩
theorem kl_3_222 : (Jvm.Cond.privateMethod ({ cls := "BoostForestsModel", name := "sumUp", desc := "(IIIIZ)V" } : Jvm.MethodName)) ∈ lw_tbl := kt_3 _ (List.mem_of_getElem? (i := 222) rfl)
theorem kw_3_223 : (Jvm.Cond.instanceMethod ({ cls := "BoostForestsModel", name := "sumUp", desc := "(IIIIZ)V" } : Jvm.MethodName)) ∈ gw_tbl := List.mem_filter.mpr ⟨kt_3 _ (List.mem_of_getElem? (i := 223) rfl), rfl⟩
theorem kw_3_224 : (Jvm.Cond.code ({ cls := "BoostForestsModel", name := "sumUp", desc := "(IIIIZ)V" } : Jvm.MethodName) prog_9_method_16_code (7 : Nat) (Option.none : Option Jvm.ClassFile.FieldType)) ∈ gw_tbl := List.mem_filter.mpr ⟨kt_3 _ (List.mem_of_getElem? (i := 224) rfl), rfl⟩
theorem kw_3_225 : (Jvm.Cond.methodLink "BoostForestsModel" (147 : Nat) ({ cls := "BoostForestsModel", name := "goesLeft", desc := "(III)Z" } : Jvm.MethodName)) ∈ gw_tbl := List.mem_filter.mpr ⟨kt_3 _ (List.mem_of_getElem? (i := 225) rfl), rfl⟩
theorem kw_3_226 : (Jvm.Cond.static ({ cls := "BoostForestsModel", name := "goesLeft", desc := "(III)Z" } : Jvm.MethodName)) ∈ gw_tbl := List.mem_filter.mpr ⟨kt_3 _ (List.mem_of_getElem? (i := 226) rfl), rfl⟩
theorem kw_3_227 : (Jvm.Cond.code ({ cls := "BoostForestsModel", name := "goesLeft", desc := "(III)Z" } : Jvm.MethodName) prog_9_method_15_code (3 : Nat) (Option.some Jvm.ClassFile.FieldType.boolean)) ∈ gw_tbl := List.mem_filter.mpr ⟨kt_3 _ (List.mem_of_getElem? (i := 227) rfl), rfl⟩
theorem kw_3_228 : (Jvm.Cond.methodLink "BoostForestsModel" (159 : Nat) ({ cls := "BoostForestsModel", name := "split", desc := "(II)V" } : Jvm.MethodName)) ∈ gw_tbl := List.mem_filter.mpr ⟨kt_3 _ (List.mem_of_getElem? (i := 228) rfl), rfl⟩
theorem kl_3_229 : (Jvm.Cond.privateMethod ({ cls := "BoostForestsModel", name := "split", desc := "(II)V" } : Jvm.MethodName)) ∈ lw_tbl := kt_3 _ (List.mem_of_getElem? (i := 229) rfl)
theorem kw_3_230 : (Jvm.Cond.instanceMethod ({ cls := "BoostForestsModel", name := "split", desc := "(II)V" } : Jvm.MethodName)) ∈ gw_tbl := List.mem_filter.mpr ⟨kt_3 _ (List.mem_of_getElem? (i := 230) rfl), rfl⟩
theorem kw_3_231 : (Jvm.Cond.code ({ cls := "BoostForestsModel", name := "split", desc := "(II)V" } : Jvm.MethodName) prog_9_method_20_code (11 : Nat) (Option.none : Option Jvm.ClassFile.FieldType)) ∈ gw_tbl := List.mem_filter.mpr ⟨kt_3 _ (List.mem_of_getElem? (i := 231) rfl), rfl⟩
theorem kw_3_232 : (Jvm.Cond.constant "BoostForestsModel" (167 : Nat) (100000 : Int32)) ∈ gw_tbl := List.mem_filter.mpr ⟨kt_3 _ (List.mem_of_getElem? (i := 232) rfl), rfl⟩
theorem kw_3_233 : (Jvm.Cond.methodLink "BoostForestsModel" (168 : Nat) ({ cls := "BoostForestsModel", name := "isCut", desc := "(III)Z" } : Jvm.MethodName)) ∈ gw_tbl := List.mem_filter.mpr ⟨kt_3 _ (List.mem_of_getElem? (i := 233) rfl), rfl⟩
theorem kl_3_234 : (Jvm.Cond.privateMethod ({ cls := "BoostForestsModel", name := "isCut", desc := "(III)Z" } : Jvm.MethodName)) ∈ lw_tbl := kt_3 _ (List.mem_of_getElem? (i := 234) rfl)
theorem kw_3_235 : (Jvm.Cond.instanceMethod ({ cls := "BoostForestsModel", name := "isCut", desc := "(III)Z" } : Jvm.MethodName)) ∈ gw_tbl := List.mem_filter.mpr ⟨kt_3 _ (List.mem_of_getElem? (i := 235) rfl), rfl⟩
theorem kw_3_236 : (Jvm.Cond.code ({ cls := "BoostForestsModel", name := "isCut", desc := "(III)Z" } : Jvm.MethodName) prog_9_method_19_code (8 : Nat) (Option.some Jvm.ClassFile.FieldType.boolean)) ∈ gw_tbl := List.mem_filter.mpr ⟨kt_3 _ (List.mem_of_getElem? (i := 236) rfl), rfl⟩
theorem kw_3_237 : (Jvm.Cond.methodLink "BoostForestsModel" (171 : Nat) ({ cls := "BoostForestsModel", name := "difference", desc := "(IIIII)J" } : Jvm.MethodName)) ∈ gw_tbl := List.mem_filter.mpr ⟨kt_3 _ (List.mem_of_getElem? (i := 237) rfl), rfl⟩
theorem kl_3_238 : (Jvm.Cond.privateMethod ({ cls := "BoostForestsModel", name := "difference", desc := "(IIIII)J" } : Jvm.MethodName)) ∈ lw_tbl := kt_3 _ (List.mem_of_getElem? (i := 238) rfl)
theorem kw_3_239 : (Jvm.Cond.instanceMethod ({ cls := "BoostForestsModel", name := "difference", desc := "(IIIII)J" } : Jvm.MethodName)) ∈ gw_tbl := List.mem_filter.mpr ⟨kt_3 _ (List.mem_of_getElem? (i := 239) rfl), rfl⟩
theorem kw_4_0 : (Jvm.Cond.code ({ cls := "BoostForestsModel", name := "difference", desc := "(IIIII)J" } : Jvm.MethodName) prog_9_method_21_code (15 : Nat) (Option.some Jvm.ClassFile.FieldType.long)) ∈ gw_tbl := List.mem_filter.mpr ⟨kt_4 _ (List.mem_of_getElem? (i := 0) rfl), rfl⟩
theorem kw_4_1 : (Jvm.Cond.constantLong "BoostForestsModel" (175 : Nat) (-1 : Int64)) ∈ gw_tbl := List.mem_filter.mpr ⟨kt_4 _ (List.mem_of_getElem? (i := 1) rfl), rfl⟩
theorem kw_4_2 : (Jvm.Cond.methodLink "BoostForestsModel" (177 : Nat) ({ cls := "BoostForestsModel", name := "valueOf", desc := "(JI)J" } : Jvm.MethodName)) ∈ gw_tbl := List.mem_filter.mpr ⟨kt_4 _ (List.mem_of_getElem? (i := 2) rfl), rfl⟩
theorem kl_4_3 : (Jvm.Cond.privateMethod ({ cls := "BoostForestsModel", name := "valueOf", desc := "(JI)J" } : Jvm.MethodName)) ∈ lw_tbl := kt_4 _ (List.mem_of_getElem? (i := 3) rfl)
theorem kw_4_4 : (Jvm.Cond.instanceMethod ({ cls := "BoostForestsModel", name := "valueOf", desc := "(JI)J" } : Jvm.MethodName)) ∈ gw_tbl := List.mem_filter.mpr ⟨kt_4 _ (List.mem_of_getElem? (i := 4) rfl), rfl⟩
theorem kw_4_5 : (Jvm.Cond.code ({ cls := "BoostForestsModel", name := "valueOf", desc := "(JI)J" } : Jvm.MethodName) prog_9_method_13_code (4 : Nat) (Option.some Jvm.ClassFile.FieldType.long)) ∈ gw_tbl := List.mem_filter.mpr ⟨kt_4 _ (List.mem_of_getElem? (i := 5) rfl), rfl⟩
theorem kw_4_6 : (Jvm.Cond.methodLink "BoostForestsModel" (181 : Nat) ({ cls := "BoostForestsModel", name := "worthOf", desc := "(JI)J" } : Jvm.MethodName)) ∈ gw_tbl := List.mem_filter.mpr ⟨kt_4 _ (List.mem_of_getElem? (i := 6) rfl), rfl⟩
theorem kl_4_7 : (Jvm.Cond.privateMethod ({ cls := "BoostForestsModel", name := "worthOf", desc := "(JI)J" } : Jvm.MethodName)) ∈ lw_tbl := kt_4 _ (List.mem_of_getElem? (i := 7) rfl)
theorem kw_4_8 : (Jvm.Cond.instanceMethod ({ cls := "BoostForestsModel", name := "worthOf", desc := "(JI)J" } : Jvm.MethodName)) ∈ gw_tbl := List.mem_filter.mpr ⟨kt_4 _ (List.mem_of_getElem? (i := 8) rfl), rfl⟩
theorem kw_4_9 : (Jvm.Cond.code ({ cls := "BoostForestsModel", name := "worthOf", desc := "(JI)J" } : Jvm.MethodName) prog_9_method_14_code (4 : Nat) (Option.some Jvm.ClassFile.FieldType.long)) ∈ gw_tbl := List.mem_filter.mpr ⟨kt_4 _ (List.mem_of_getElem? (i := 9) rfl), rfl⟩
theorem kw_4_10 : (Jvm.Cond.methodLink "BoostForestsModel" (130 : Nat) ({ cls := "BoostForestsModel", name := "leafOf", desc := "(IIIII)I" } : Jvm.MethodName)) ∈ gw_tbl := List.mem_filter.mpr ⟨kt_4 _ (List.mem_of_getElem? (i := 10) rfl), rfl⟩
theorem kl_4_11 : (Jvm.Cond.privateMethod ({ cls := "BoostForestsModel", name := "leafOf", desc := "(IIIII)I" } : Jvm.MethodName)) ∈ lw_tbl := kt_4 _ (List.mem_of_getElem? (i := 11) rfl)
theorem kw_4_12 : (Jvm.Cond.instanceMethod ({ cls := "BoostForestsModel", name := "leafOf", desc := "(IIIII)I" } : Jvm.MethodName)) ∈ gw_tbl := List.mem_filter.mpr ⟨kt_4 _ (List.mem_of_getElem? (i := 12) rfl), rfl⟩
theorem kw_4_13 : (Jvm.Cond.code ({ cls := "BoostForestsModel", name := "leafOf", desc := "(IIIII)I" } : Jvm.MethodName) prog_9_method_22_code (8 : Nat) (Option.some Jvm.ClassFile.FieldType.int)) ∈ gw_tbl := List.mem_filter.mpr ⟨kt_4 _ (List.mem_of_getElem? (i := 13) rfl), rfl⟩
theorem kw_4_14 : (Jvm.Cond.methodLink "BoostForestsModel" (133 : Nat) ({ cls := "BoostForestsModel", name := "addOf", desc := "(II)J" } : Jvm.MethodName)) ∈ gw_tbl := List.mem_filter.mpr ⟨kt_4 _ (List.mem_of_getElem? (i := 14) rfl), rfl⟩
theorem kl_4_15 : (Jvm.Cond.privateMethod ({ cls := "BoostForestsModel", name := "addOf", desc := "(II)J" } : Jvm.MethodName)) ∈ lw_tbl := kt_4 _ (List.mem_of_getElem? (i := 15) rfl)
theorem kw_4_16 : (Jvm.Cond.instanceMethod ({ cls := "BoostForestsModel", name := "addOf", desc := "(II)J" } : Jvm.MethodName)) ∈ gw_tbl := List.mem_filter.mpr ⟨kt_4 _ (List.mem_of_getElem? (i := 16) rfl), rfl⟩
theorem kw_4_17 : (Jvm.Cond.code ({ cls := "BoostForestsModel", name := "addOf", desc := "(II)J" } : Jvm.MethodName) prog_9_method_23_code (4 : Nat) (Option.some Jvm.ClassFile.FieldType.long)) ∈ gw_tbl := List.mem_filter.mpr ⟨kt_4 _ (List.mem_of_getElem? (i := 17) rfl), rfl⟩
theorem kw_4_18 : (Jvm.Cond.methodLink "BoostForestsLaw" (40 : Nat) ({ cls := "BoostForestsModel", name := "node", desc := "(III)I" } : Jvm.MethodName)) ∈ gw_tbl := List.mem_filter.mpr ⟨kt_4 _ (List.mem_of_getElem? (i := 18) rfl), rfl⟩
theorem kw_4_19 : (Jvm.Cond.instanceMethod ({ cls := "BoostForestsModel", name := "node", desc := "(III)I" } : Jvm.MethodName)) ∈ gw_tbl := List.mem_filter.mpr ⟨kt_4 _ (List.mem_of_getElem? (i := 19) rfl), rfl⟩
theorem kw_4_20 : (Jvm.Cond.selects "BoostForestsModel" ({ cls := "BoostForestsModel", name := "node", desc := "(III)I" } : Jvm.MethodName) ({ cls := "BoostForestsModel", name := "node", desc := "(III)I" } : Jvm.MethodName)) ∈ gw_tbl := List.mem_filter.mpr ⟨kt_4 _ (List.mem_of_getElem? (i := 20) rfl), rfl⟩
theorem kw_4_21 : (Jvm.Cond.code ({ cls := "BoostForestsModel", name := "node", desc := "(III)I" } : Jvm.MethodName) prog_9_method_26_code (5 : Nat) (Option.some Jvm.ClassFile.FieldType.int)) ∈ gw_tbl := List.mem_filter.mpr ⟨kt_4 _ (List.mem_of_getElem? (i := 21) rfl), rfl⟩
theorem kw_4_22 : (Jvm.Cond.methodLink "BoostForestsModel" (187 : Nat) ({ cls := "BoostForestsModel", name := "isNode", desc := "(II)Z" } : Jvm.MethodName)) ∈ gw_tbl := List.mem_filter.mpr ⟨kt_4 _ (List.mem_of_getElem? (i := 22) rfl), rfl⟩
theorem kl_4_23 : (Jvm.Cond.privateMethod ({ cls := "BoostForestsModel", name := "isNode", desc := "(II)Z" } : Jvm.MethodName)) ∈ lw_tbl := kt_4 _ (List.mem_of_getElem? (i := 23) rfl)
theorem kw_4_24 : (Jvm.Cond.instanceMethod ({ cls := "BoostForestsModel", name := "isNode", desc := "(II)Z" } : Jvm.MethodName)) ∈ gw_tbl := List.mem_filter.mpr ⟨kt_4 _ (List.mem_of_getElem? (i := 24) rfl), rfl⟩
theorem kw_4_25 : (Jvm.Cond.code ({ cls := "BoostForestsModel", name := "isNode", desc := "(II)Z" } : Jvm.MethodName) prog_9_method_25_code (3 : Nat) (Option.some Jvm.ClassFile.FieldType.boolean)) ∈ gw_tbl := List.mem_filter.mpr ⟨kt_4 _ (List.mem_of_getElem? (i := 25) rfl), rfl⟩
theorem kw_4_26 : (Jvm.Cond.methodLink "BoostForestsModel" (184 : Nat) ({ cls := "BoostForestsModel", name := "isTree", desc := "(I)Z" } : Jvm.MethodName)) ∈ gw_tbl := List.mem_filter.mpr ⟨kt_4 _ (List.mem_of_getElem? (i := 26) rfl), rfl⟩
theorem kl_4_27 : (Jvm.Cond.privateMethod ({ cls := "BoostForestsModel", name := "isTree", desc := "(I)Z" } : Jvm.MethodName)) ∈ lw_tbl := kt_4 _ (List.mem_of_getElem? (i := 27) rfl)
theorem kw_4_28 : (Jvm.Cond.instanceMethod ({ cls := "BoostForestsModel", name := "isTree", desc := "(I)Z" } : Jvm.MethodName)) ∈ gw_tbl := List.mem_filter.mpr ⟨kt_4 _ (List.mem_of_getElem? (i := 28) rfl), rfl⟩
theorem kw_4_29 : (Jvm.Cond.code ({ cls := "BoostForestsModel", name := "isTree", desc := "(I)Z" } : Jvm.MethodName) prog_9_method_24_code (2 : Nat) (Option.some Jvm.ClassFile.FieldType.boolean)) ∈ gw_tbl := List.mem_filter.mpr ⟨kt_4 _ (List.mem_of_getElem? (i := 29) rfl), rfl⟩
theorem kw_4_30 : (Jvm.Cond.methodLink "BoostForestsLaw" (45 : Nat) ({ cls := "BoostForestsModel", name := "sum", desc := "(III)J" } : Jvm.MethodName)) ∈ gw_tbl := List.mem_filter.mpr ⟨kt_4 _ (List.mem_of_getElem? (i := 30) rfl), rfl⟩
theorem kw_4_31 : (Jvm.Cond.instanceMethod ({ cls := "BoostForestsModel", name := "sum", desc := "(III)J" } : Jvm.MethodName)) ∈ gw_tbl := List.mem_filter.mpr ⟨kt_4 _ (List.mem_of_getElem? (i := 31) rfl), rfl⟩
theorem kw_4_32 : (Jvm.Cond.selects "BoostForestsModel" ({ cls := "BoostForestsModel", name := "sum", desc := "(III)J" } : Jvm.MethodName) ({ cls := "BoostForestsModel", name := "sum", desc := "(III)J" } : Jvm.MethodName)) ∈ gw_tbl := List.mem_filter.mpr ⟨kt_4 _ (List.mem_of_getElem? (i := 32) rfl), rfl⟩
theorem kw_4_33 : (Jvm.Cond.code ({ cls := "BoostForestsModel", name := "sum", desc := "(III)J" } : Jvm.MethodName) prog_9_method_27_code (5 : Nat) (Option.some Jvm.ClassFile.FieldType.long)) ∈ gw_tbl := List.mem_filter.mpr ⟨kt_4 _ (List.mem_of_getElem? (i := 33) rfl), rfl⟩
theorem kw_4_34 : (Jvm.Cond.methodLink "BoostForestsLaw" (50 : Nat) ({ cls := "BoostForestsModel", name := "size", desc := "(I)I" } : Jvm.MethodName)) ∈ gw_tbl := List.mem_filter.mpr ⟨kt_4 _ (List.mem_of_getElem? (i := 34) rfl), rfl⟩
theorem kw_4_35 : (Jvm.Cond.instanceMethod ({ cls := "BoostForestsModel", name := "size", desc := "(I)I" } : Jvm.MethodName)) ∈ gw_tbl := List.mem_filter.mpr ⟨kt_4 _ (List.mem_of_getElem? (i := 35) rfl), rfl⟩
theorem kw_4_36 : (Jvm.Cond.selects "BoostForestsModel" ({ cls := "BoostForestsModel", name := "size", desc := "(I)I" } : Jvm.MethodName) ({ cls := "BoostForestsModel", name := "size", desc := "(I)I" } : Jvm.MethodName)) ∈ gw_tbl := List.mem_filter.mpr ⟨kt_4 _ (List.mem_of_getElem? (i := 36) rfl), rfl⟩
theorem kw_4_37 : (Jvm.Cond.code ({ cls := "BoostForestsModel", name := "size", desc := "(I)I" } : Jvm.MethodName) prog_9_method_28_code (2 : Nat) (Option.some Jvm.ClassFile.FieldType.int)) ∈ gw_tbl := List.mem_filter.mpr ⟨kt_4 _ (List.mem_of_getElem? (i := 37) rfl), rfl⟩
theorem kw_4_38 : (Jvm.Cond.methodLink "BoostForestsLaw" (55 : Nat) ({ cls := "BoostForestsModel", name := "leaf", desc := "(IIIII)I" } : Jvm.MethodName)) ∈ gw_tbl := List.mem_filter.mpr ⟨kt_4 _ (List.mem_of_getElem? (i := 38) rfl), rfl⟩
theorem kw_4_39 : (Jvm.Cond.instanceMethod ({ cls := "BoostForestsModel", name := "leaf", desc := "(IIIII)I" } : Jvm.MethodName)) ∈ gw_tbl := List.mem_filter.mpr ⟨kt_4 _ (List.mem_of_getElem? (i := 39) rfl), rfl⟩
theorem kw_4_40 : (Jvm.Cond.selects "BoostForestsModel" ({ cls := "BoostForestsModel", name := "leaf", desc := "(IIIII)I" } : Jvm.MethodName) ({ cls := "BoostForestsModel", name := "leaf", desc := "(IIIII)I" } : Jvm.MethodName)) ∈ gw_tbl := List.mem_filter.mpr ⟨kt_4 _ (List.mem_of_getElem? (i := 40) rfl), rfl⟩
theorem kw_4_41 : (Jvm.Cond.code ({ cls := "BoostForestsModel", name := "leaf", desc := "(IIIII)I" } : Jvm.MethodName) prog_9_method_29_code (6 : Nat) (Option.some Jvm.ClassFile.FieldType.int)) ∈ gw_tbl := List.mem_filter.mpr ⟨kt_4 _ (List.mem_of_getElem? (i := 41) rfl), rfl⟩
theorem kw_4_42 : (Jvm.Cond.methodLink "BoostForestsLaw" (60 : Nat) ({ cls := "BoostForestsModel", name := "answer", desc := "(IIIII)J" } : Jvm.MethodName)) ∈ gw_tbl := List.mem_filter.mpr ⟨kt_4 _ (List.mem_of_getElem? (i := 42) rfl), rfl⟩
theorem kw_4_43 : (Jvm.Cond.instanceMethod ({ cls := "BoostForestsModel", name := "answer", desc := "(IIIII)J" } : Jvm.MethodName)) ∈ gw_tbl := List.mem_filter.mpr ⟨kt_4 _ (List.mem_of_getElem? (i := 43) rfl), rfl⟩
theorem kw_4_44 : (Jvm.Cond.selects "BoostForestsModel" ({ cls := "BoostForestsModel", name := "answer", desc := "(IIIII)J" } : Jvm.MethodName) ({ cls := "BoostForestsModel", name := "answer", desc := "(IIIII)J" } : Jvm.MethodName)) ∈ gw_tbl := List.mem_filter.mpr ⟨kt_4 _ (List.mem_of_getElem? (i := 44) rfl), rfl⟩
theorem kw_4_45 : (Jvm.Cond.code ({ cls := "BoostForestsModel", name := "answer", desc := "(IIIII)J" } : Jvm.MethodName) prog_9_method_30_code (9 : Nat) (Option.some Jvm.ClassFile.FieldType.long)) ∈ gw_tbl := List.mem_filter.mpr ⟨kt_4 _ (List.mem_of_getElem? (i := 45) rfl), rfl⟩
theorem kw_4_46 : (Jvm.Cond.methodLink "BoostForestsLaw" (65 : Nat) ({ cls := "BoostForestsModel", name := "loss", desc := "(II)J" } : Jvm.MethodName)) ∈ gw_tbl := List.mem_filter.mpr ⟨kt_4 _ (List.mem_of_getElem? (i := 46) rfl), rfl⟩
theorem kw_4_47 : (Jvm.Cond.instanceMethod ({ cls := "BoostForestsModel", name := "loss", desc := "(II)J" } : Jvm.MethodName)) ∈ gw_tbl := List.mem_filter.mpr ⟨kt_4 _ (List.mem_of_getElem? (i := 47) rfl), rfl⟩
theorem kw_4_48 : (Jvm.Cond.selects "BoostForestsModel" ({ cls := "BoostForestsModel", name := "loss", desc := "(II)J" } : Jvm.MethodName) ({ cls := "BoostForestsModel", name := "loss", desc := "(II)J" } : Jvm.MethodName)) ∈ gw_tbl := List.mem_filter.mpr ⟨kt_4 _ (List.mem_of_getElem? (i := 48) rfl), rfl⟩
theorem kw_4_49 : (Jvm.Cond.code ({ cls := "BoostForestsModel", name := "loss", desc := "(II)J" } : Jvm.MethodName) prog_9_method_31_code (3 : Nat) (Option.some Jvm.ClassFile.FieldType.long)) ∈ gw_tbl := List.mem_filter.mpr ⟨kt_4 _ (List.mem_of_getElem? (i := 49) rfl), rfl⟩
theorem kw_4_50 : (Jvm.Cond.constantLong "BoostForestsModel" (190 : Nat) (-2 : Int64)) ∈ gw_tbl := List.mem_filter.mpr ⟨kt_4 _ (List.mem_of_getElem? (i := 50) rfl), rfl⟩
theorem kw_4_51 : (Jvm.Cond.methodLink "BoostForestsLaw" (69 : Nat) ({ cls := "BoostForestsModel", name := "best", desc := "()I" } : Jvm.MethodName)) ∈ gw_tbl := List.mem_filter.mpr ⟨kt_4 _ (List.mem_of_getElem? (i := 51) rfl), rfl⟩
theorem kw_4_52 : (Jvm.Cond.instanceMethod ({ cls := "BoostForestsModel", name := "best", desc := "()I" } : Jvm.MethodName)) ∈ gw_tbl := List.mem_filter.mpr ⟨kt_4 _ (List.mem_of_getElem? (i := 52) rfl), rfl⟩
theorem kw_4_53 : (Jvm.Cond.selects "BoostForestsModel" ({ cls := "BoostForestsModel", name := "best", desc := "()I" } : Jvm.MethodName) ({ cls := "BoostForestsModel", name := "best", desc := "()I" } : Jvm.MethodName)) ∈ gw_tbl := List.mem_filter.mpr ⟨kt_4 _ (List.mem_of_getElem? (i := 53) rfl), rfl⟩
theorem kw_4_54 : (Jvm.Cond.code ({ cls := "BoostForestsModel", name := "best", desc := "()I" } : Jvm.MethodName) prog_9_method_32_code (4 : Nat) (Option.some Jvm.ClassFile.FieldType.int)) ∈ gw_tbl := List.mem_filter.mpr ⟨kt_4 _ (List.mem_of_getElem? (i := 54) rfl), rfl⟩
theorem kw_4_55 : (Jvm.Cond.methodLink "BoostForestsLaw" (74 : Nat) ({ cls := "BoostForestsModel", name := "without", desc := "(I)J" } : Jvm.MethodName)) ∈ gw_tbl := List.mem_filter.mpr ⟨kt_4 _ (List.mem_of_getElem? (i := 55) rfl), rfl⟩
theorem kw_4_56 : (Jvm.Cond.instanceMethod ({ cls := "BoostForestsModel", name := "without", desc := "(I)J" } : Jvm.MethodName)) ∈ gw_tbl := List.mem_filter.mpr ⟨kt_4 _ (List.mem_of_getElem? (i := 56) rfl), rfl⟩
theorem kw_4_57 : (Jvm.Cond.selects "BoostForestsModel" ({ cls := "BoostForestsModel", name := "without", desc := "(I)J" } : Jvm.MethodName) ({ cls := "BoostForestsModel", name := "without", desc := "(I)J" } : Jvm.MethodName)) ∈ gw_tbl := List.mem_filter.mpr ⟨kt_4 _ (List.mem_of_getElem? (i := 57) rfl), rfl⟩
theorem kw_4_58 : (Jvm.Cond.code ({ cls := "BoostForestsModel", name := "without", desc := "(I)J" } : Jvm.MethodName) prog_9_method_33_code (5 : Nat) (Option.some Jvm.ClassFile.FieldType.long)) ∈ gw_tbl := List.mem_filter.mpr ⟨kt_4 _ (List.mem_of_getElem? (i := 58) rfl), rfl⟩
theorem kw_4_59 : (Jvm.Cond.methodLink "BoostForestsLaw" (78 : Nat) ({ cls := "BoostForestsModel", name := "took", desc := "(I)I" } : Jvm.MethodName)) ∈ gw_tbl := List.mem_filter.mpr ⟨kt_4 _ (List.mem_of_getElem? (i := 59) rfl), rfl⟩
theorem kw_4_60 : (Jvm.Cond.instanceMethod ({ cls := "BoostForestsModel", name := "took", desc := "(I)I" } : Jvm.MethodName)) ∈ gw_tbl := List.mem_filter.mpr ⟨kt_4 _ (List.mem_of_getElem? (i := 60) rfl), rfl⟩
theorem kw_4_61 : (Jvm.Cond.selects "BoostForestsModel" ({ cls := "BoostForestsModel", name := "took", desc := "(I)I" } : Jvm.MethodName) ({ cls := "BoostForestsModel", name := "took", desc := "(I)I" } : Jvm.MethodName)) ∈ gw_tbl := List.mem_filter.mpr ⟨kt_4 _ (List.mem_of_getElem? (i := 61) rfl), rfl⟩
theorem kw_4_62 : (Jvm.Cond.code ({ cls := "BoostForestsModel", name := "took", desc := "(I)I" } : Jvm.MethodName) prog_9_method_34_code (4 : Nat) (Option.some Jvm.ClassFile.FieldType.int)) ∈ gw_tbl := List.mem_filter.mpr ⟨kt_4 _ (List.mem_of_getElem? (i := 62) rfl), rfl⟩
theorem kw_4_63 : (Jvm.Cond.methodLink "BoostForestsLaw" (82 : Nat) ({ cls := "BoostForestsModel", name := "gain", desc := "(I)J" } : Jvm.MethodName)) ∈ gw_tbl := List.mem_filter.mpr ⟨kt_4 _ (List.mem_of_getElem? (i := 63) rfl), rfl⟩
theorem kw_4_64 : (Jvm.Cond.instanceMethod ({ cls := "BoostForestsModel", name := "gain", desc := "(I)J" } : Jvm.MethodName)) ∈ gw_tbl := List.mem_filter.mpr ⟨kt_4 _ (List.mem_of_getElem? (i := 64) rfl), rfl⟩
theorem kw_4_65 : (Jvm.Cond.selects "BoostForestsModel" ({ cls := "BoostForestsModel", name := "gain", desc := "(I)J" } : Jvm.MethodName) ({ cls := "BoostForestsModel", name := "gain", desc := "(I)J" } : Jvm.MethodName)) ∈ gw_tbl := List.mem_filter.mpr ⟨kt_4 _ (List.mem_of_getElem? (i := 65) rfl), rfl⟩
theorem kw_4_66 : (Jvm.Cond.code ({ cls := "BoostForestsModel", name := "gain", desc := "(I)J" } : Jvm.MethodName) prog_9_method_35_code (7 : Nat) (Option.some Jvm.ClassFile.FieldType.long)) ∈ gw_tbl := List.mem_filter.mpr ⟨kt_4 _ (List.mem_of_getElem? (i := 66) rfl), rfl⟩
theorem kw_4_67 : (Jvm.Cond.methodLink "BoostForestsLaw" (86 : Nat) ({ cls := "BoostForestsModel", name := "told", desc := "(IIIII)J" } : Jvm.MethodName)) ∈ gw_tbl := List.mem_filter.mpr ⟨kt_4 _ (List.mem_of_getElem? (i := 67) rfl), rfl⟩
theorem kw_4_68 : (Jvm.Cond.instanceMethod ({ cls := "BoostForestsModel", name := "told", desc := "(IIIII)J" } : Jvm.MethodName)) ∈ gw_tbl := List.mem_filter.mpr ⟨kt_4 _ (List.mem_of_getElem? (i := 68) rfl), rfl⟩
theorem kw_4_69 : (Jvm.Cond.selects "BoostForestsModel" ({ cls := "BoostForestsModel", name := "told", desc := "(IIIII)J" } : Jvm.MethodName) ({ cls := "BoostForestsModel", name := "told", desc := "(IIIII)J" } : Jvm.MethodName)) ∈ gw_tbl := List.mem_filter.mpr ⟨kt_4 _ (List.mem_of_getElem? (i := 69) rfl), rfl⟩
theorem kw_4_70 : (Jvm.Cond.code ({ cls := "BoostForestsModel", name := "told", desc := "(IIIII)J" } : Jvm.MethodName) prog_9_method_39_code (6 : Nat) (Option.some Jvm.ClassFile.FieldType.long)) ∈ gw_tbl := List.mem_filter.mpr ⟨kt_4 _ (List.mem_of_getElem? (i := 70) rfl), rfl⟩
theorem kw_4_71 : (Jvm.Cond.methodLink "BoostForestsModel" (200 : Nat) ({ cls := "BoostForestsModel", name := "allTell", desc := "(IIIII)J" } : Jvm.MethodName)) ∈ gw_tbl := List.mem_filter.mpr ⟨kt_4 _ (List.mem_of_getElem? (i := 71) rfl), rfl⟩
theorem kl_4_72 : (Jvm.Cond.privateMethod ({ cls := "BoostForestsModel", name := "allTell", desc := "(IIIII)J" } : Jvm.MethodName)) ∈ lw_tbl := kt_4 _ (List.mem_of_getElem? (i := 72) rfl)
theorem kw_4_73 : (Jvm.Cond.instanceMethod ({ cls := "BoostForestsModel", name := "allTell", desc := "(IIIII)J" } : Jvm.MethodName)) ∈ gw_tbl := List.mem_filter.mpr ⟨kt_4 _ (List.mem_of_getElem? (i := 73) rfl), rfl⟩
theorem kw_4_74 : (Jvm.Cond.code ({ cls := "BoostForestsModel", name := "allTell", desc := "(IIIII)J" } : Jvm.MethodName) prog_9_method_38_code (9 : Nat) (Option.some Jvm.ClassFile.FieldType.long)) ∈ gw_tbl := List.mem_filter.mpr ⟨kt_4 _ (List.mem_of_getElem? (i := 74) rfl), rfl⟩
theorem kw_4_75 : (Jvm.Cond.methodLink "BoostForestsModel" (196 : Nat) ({ cls := "BoostForestsModel", name := "tellOf", desc := "(IIIIII)J" } : Jvm.MethodName)) ∈ gw_tbl := List.mem_filter.mpr ⟨kt_4 _ (List.mem_of_getElem? (i := 75) rfl), rfl⟩
theorem kl_4_76 : (Jvm.Cond.privateMethod ({ cls := "BoostForestsModel", name := "tellOf", desc := "(IIIIII)J" } : Jvm.MethodName)) ∈ lw_tbl := kt_4 _ (List.mem_of_getElem? (i := 76) rfl)
theorem kw_4_77 : (Jvm.Cond.instanceMethod ({ cls := "BoostForestsModel", name := "tellOf", desc := "(IIIIII)J" } : Jvm.MethodName)) ∈ gw_tbl := List.mem_filter.mpr ⟨kt_4 _ (List.mem_of_getElem? (i := 77) rfl), rfl⟩
theorem kw_4_78 : (Jvm.Cond.code ({ cls := "BoostForestsModel", name := "tellOf", desc := "(IIIIII)J" } : Jvm.MethodName) prog_9_method_37_code (12 : Nat) (Option.some Jvm.ClassFile.FieldType.long)) ∈ gw_tbl := List.mem_filter.mpr ⟨kt_4 _ (List.mem_of_getElem? (i := 78) rfl), rfl⟩
theorem kw_4_79 : (Jvm.Cond.methodLink "BoostForestsModel" (192 : Nat) ({ cls := "BoostForestsModel", name := "downward", desc := "(JJ)J" } : Jvm.MethodName)) ∈ gw_tbl := List.mem_filter.mpr ⟨kt_4 _ (List.mem_of_getElem? (i := 79) rfl), rfl⟩
theorem kw_4_80 : (Jvm.Cond.static ({ cls := "BoostForestsModel", name := "downward", desc := "(JJ)J" } : Jvm.MethodName)) ∈ gw_tbl := List.mem_filter.mpr ⟨kt_4 _ (List.mem_of_getElem? (i := 80) rfl), rfl⟩
theorem kw_4_81 : (Jvm.Cond.code ({ cls := "BoostForestsModel", name := "downward", desc := "(JJ)J" } : Jvm.MethodName) prog_9_method_36_code (6 : Nat) (Option.some Jvm.ClassFile.FieldType.long)) ∈ gw_tbl := List.mem_filter.mpr ⟨kt_4 _ (List.mem_of_getElem? (i := 81) rfl), rfl⟩
theorem kw_4_82 : (Jvm.Cond.methodLink "BoostForestsLaw" (90 : Nat) ({ cls := "BoostForestsModel", name := "share", desc := "(IIIII)J" } : Jvm.MethodName)) ∈ gw_tbl := List.mem_filter.mpr ⟨kt_4 _ (List.mem_of_getElem? (i := 82) rfl), rfl⟩
theorem kw_4_83 : (Jvm.Cond.instanceMethod ({ cls := "BoostForestsModel", name := "share", desc := "(IIIII)J" } : Jvm.MethodName)) ∈ gw_tbl := List.mem_filter.mpr ⟨kt_4 _ (List.mem_of_getElem? (i := 83) rfl), rfl⟩
theorem kw_4_84 : (Jvm.Cond.selects "BoostForestsModel" ({ cls := "BoostForestsModel", name := "share", desc := "(IIIII)J" } : Jvm.MethodName) ({ cls := "BoostForestsModel", name := "share", desc := "(IIIII)J" } : Jvm.MethodName)) ∈ gw_tbl := List.mem_filter.mpr ⟨kt_4 _ (List.mem_of_getElem? (i := 84) rfl), rfl⟩
theorem kw_4_85 : (Jvm.Cond.code ({ cls := "BoostForestsModel", name := "share", desc := "(IIIII)J" } : Jvm.MethodName) prog_9_method_40_code (12 : Nat) (Option.some Jvm.ClassFile.FieldType.long)) ∈ gw_tbl := List.mem_filter.mpr ⟨kt_4 _ (List.mem_of_getElem? (i := 85) rfl), rfl⟩
theorem kw_4_86 : (Jvm.Cond.constantLong "BoostForestsModel" (203 : Nat) (6 : Int64)) ∈ gw_tbl := List.mem_filter.mpr ⟨kt_4 _ (List.mem_of_getElem? (i := 86) rfl), rfl⟩
theorem kw_4_87 : (Jvm.Cond.constantLong "BoostForestsModel" (205 : Nat) (2 : Int64)) ∈ gw_tbl := List.mem_filter.mpr ⟨kt_4 _ (List.mem_of_getElem? (i := 87) rfl), rfl⟩
theorem kw_4_88 : (Jvm.Cond.methodLink "BoostForestsLaw" (94 : Nat) ({ cls := "BoostForestsModel", name := "count", desc := "(I)I" } : Jvm.MethodName)) ∈ gw_tbl := List.mem_filter.mpr ⟨kt_4 _ (List.mem_of_getElem? (i := 88) rfl), rfl⟩
theorem kw_4_89 : (Jvm.Cond.instanceMethod ({ cls := "BoostForestsModel", name := "count", desc := "(I)I" } : Jvm.MethodName)) ∈ gw_tbl := List.mem_filter.mpr ⟨kt_4 _ (List.mem_of_getElem? (i := 89) rfl), rfl⟩
theorem kw_4_90 : (Jvm.Cond.selects "BoostForestsModel" ({ cls := "BoostForestsModel", name := "count", desc := "(I)I" } : Jvm.MethodName) ({ cls := "BoostForestsModel", name := "count", desc := "(I)I" } : Jvm.MethodName)) ∈ gw_tbl := List.mem_filter.mpr ⟨kt_4 _ (List.mem_of_getElem? (i := 90) rfl), rfl⟩
theorem kw_4_91 : (Jvm.Cond.code ({ cls := "BoostForestsModel", name := "count", desc := "(I)I" } : Jvm.MethodName) prog_9_method_41_code (4 : Nat) (Option.some Jvm.ClassFile.FieldType.int)) ∈ gw_tbl := List.mem_filter.mpr ⟨kt_4 _ (List.mem_of_getElem? (i := 91) rfl), rfl⟩
theorem ks_BF_keepAsked : Cond.selects "BoostForests" ⟨"BoostForests", "keepAsked", "(IIII)V"⟩ ⟨"BoostForests", "keepAsked", "(IIII)V"⟩ ∈ gw_tbl := List.mem_filter.mpr ⟨List.mem_append_left _ (List.mem_of_getElem? (i := 0) rfl), rfl⟩
theorem ks_TG_begin : Cond.selects "BoostForests$Training" ⟨"BoostForests$Training", "begin", "()V"⟩ ⟨"BoostForests$Training", "begin", "()V"⟩ ∈ gw_tbl := List.mem_filter.mpr ⟨List.mem_append_left _ (List.mem_of_getElem? (i := 1) rfl), rfl⟩
theorem ks_TG_baseUnits : Cond.selects "BoostForests$Training" ⟨"BoostForests$Training", "baseUnits", "()J"⟩ ⟨"BoostForests$Training", "baseUnits", "()J"⟩ ∈ gw_tbl := List.mem_filter.mpr ⟨List.mem_append_left _ (List.mem_of_getElem? (i := 2) rfl), rfl⟩
theorem ks_TG_keepLosses : Cond.selects "BoostForests$Training" ⟨"BoostForests$Training", "keepLosses", "()V"⟩ ⟨"BoostForests$Training", "keepLosses", "()V"⟩ ∈ gw_tbl := List.mem_filter.mpr ⟨List.mem_append_left _ (List.mem_of_getElem? (i := 3) rfl), rfl⟩
theorem ks_GR_drawRows : Cond.selects "BoostForests$Grower" ⟨"BoostForests$Grower", "drawRows", "(I[J)V"⟩ ⟨"BoostForests$Grower", "drawRows", "(I[J)V"⟩ ∈ gw_tbl := List.mem_filter.mpr ⟨List.mem_append_left _ (List.mem_of_getElem? (i := 4) rfl), rfl⟩
theorem ks_GR_drawn : Cond.selects "BoostForests$Grower" ⟨"BoostForests$Grower", "drawn", "(I)I"⟩ ⟨"BoostForests$Grower", "drawn", "(I)I"⟩ ∈ gw_tbl := List.mem_filter.mpr ⟨List.mem_append_left _ (List.mem_of_getElem? (i := 5) rfl), rfl⟩
theorem ks_GR_gatherNode : Cond.selects "BoostForests$Grower" ⟨"BoostForests$Grower", "gatherNode", "(I)V"⟩ ⟨"BoostForests$Grower", "gatherNode", "(I)V"⟩ ∈ gw_tbl := List.mem_filter.mpr ⟨List.mem_append_left _ (List.mem_of_getElem? (i := 6) rfl), rfl⟩
theorem ks_GR_findSplit : Cond.selects "BoostForests$Grower" ⟨"BoostForests$Grower", "findSplit", "(II)V"⟩ ⟨"BoostForests$Grower", "findSplit", "(II)V"⟩ ∈ gw_tbl := List.mem_filter.mpr ⟨List.mem_append_left _ (List.mem_of_getElem? (i := 7) rfl), rfl⟩
theorem ks_GR_tryColumn : Cond.selects "BoostForests$Grower" ⟨"BoostForests$Grower", "tryColumn", "(II)V"⟩ ⟨"BoostForests$Grower", "tryColumn", "(II)V"⟩ ∈ gw_tbl := List.mem_filter.mpr ⟨List.mem_append_left _ (List.mem_of_getElem? (i := 8) rfl), rfl⟩
theorem ks_GR_trySplit : Cond.selects "BoostForests$Grower" ⟨"BoostForests$Grower", "trySplit", "(III)V"⟩ ⟨"BoostForests$Grower", "trySplit", "(III)V"⟩ ∈ gw_tbl := List.mem_filter.mpr ⟨List.mem_append_left _ (List.mem_of_getElem? (i := 9) rfl), rfl⟩
theorem ks_GR_moveRows : Cond.selects "BoostForests$Grower" ⟨"BoostForests$Grower", "moveRows", "(LBoostForests$Tree;I)V"⟩ ⟨"BoostForests$Grower", "moveRows", "(LBoostForests$Tree;I)V"⟩ ∈ gw_tbl := List.mem_filter.mpr ⟨List.mem_append_left _ (List.mem_of_getElem? (i := 10) rfl), rfl⟩
theorem ks_TG_addTree : Cond.selects "BoostForests$Training" ⟨"BoostForests$Training", "addTree", "(I)V"⟩ ⟨"BoostForests$Training", "addTree", "(I)V"⟩ ∈ gw_tbl := List.mem_filter.mpr ⟨List.mem_append_left _ (List.mem_of_getElem? (i := 11) rfl), rfl⟩
theorem ks_TG_addOf : Cond.selects "BoostForests$Training" ⟨"BoostForests$Training", "addOf", "(LBoostForests$Tree;[I)J"⟩ ⟨"BoostForests$Training", "addOf", "(LBoostForests$Tree;[I)J"⟩ ∈ gw_tbl := List.mem_filter.mpr ⟨List.mem_append_left _ (List.mem_of_getElem? (i := 12) rfl), rfl⟩
theorem ks_TG_shrunk : Cond.selects "BoostForests$Training" ⟨"BoostForests$Training", "shrunk", "(J)J"⟩ ⟨"BoostForests$Training", "shrunk", "(J)J"⟩ ∈ gw_tbl := List.mem_filter.mpr ⟨List.mem_append_left _ (List.mem_of_getElem? (i := 13) rfl), rfl⟩
theorem ks_BF_isNode : Cond.selects "BoostForests" ⟨"BoostForests", "isNode", "(II)Z"⟩ ⟨"BoostForests", "isNode", "(II)Z"⟩ ∈ gw_tbl := List.mem_filter.mpr ⟨List.mem_append_left _ (List.mem_of_getElem? (i := 14) rfl), rfl⟩
theorem ks_BF_isTrainedRow : Cond.selects "BoostForests" ⟨"BoostForests", "isTrainedRow", "(I)Z"⟩ ⟨"BoostForests", "isTrainedRow", "(I)Z"⟩ ∈ gw_tbl := List.mem_filter.mpr ⟨List.mem_append_left _ (List.mem_of_getElem? (i := 15) rfl), rfl⟩
theorem ks_TG_tellTree : Cond.selects "BoostForests$Training" ⟨"BoostForests$Training", "tellTree", "(LBoostForests$Tree;I[I)J"⟩ ⟨"BoostForests$Training", "tellTree", "(LBoostForests$Tree;I[I)J"⟩ ∈ gw_tbl := List.mem_filter.mpr ⟨List.mem_append_left _ (List.mem_of_getElem? (i := 16) rfl), rfl⟩
theorem ks_TG_tellBoth : Cond.selects "BoostForests$Training" ⟨"BoostForests$Training", "tellBoth", "(LBoostForests$Tree;I)J"⟩ ⟨"BoostForests$Training", "tellBoth", "(LBoostForests$Tree;I)J"⟩ ∈ gw_tbl := List.mem_filter.mpr ⟨List.mem_append_left _ (List.mem_of_getElem? (i := 17) rfl), rfl⟩
theorem ks_MD_keepLosses : Cond.selects "BoostForestsModel" ⟨"BoostForestsModel", "keepLosses", "()V"⟩ ⟨"BoostForestsModel", "keepLosses", "()V"⟩ ∈ gw_tbl := List.mem_filter.mpr ⟨List.mem_append_left _ (List.mem_of_getElem? (i := 18) rfl), rfl⟩
theorem ks_MD_makeTree : Cond.selects "BoostForestsModel" ⟨"BoostForestsModel", "makeTree", "(I)V"⟩ ⟨"BoostForestsModel", "makeTree", "(I)V"⟩ ∈ gw_tbl := List.mem_filter.mpr ⟨List.mem_append_left _ (List.mem_of_getElem? (i := 19) rfl), rfl⟩
theorem ks_MD_drawn : Cond.selects "BoostForestsModel" ⟨"BoostForestsModel", "drawn", "(I)I"⟩ ⟨"BoostForestsModel", "drawn", "(I)I"⟩ ∈ gw_tbl := List.mem_filter.mpr ⟨List.mem_append_left _ (List.mem_of_getElem? (i := 20) rfl), rfl⟩
theorem ks_MD_layNode : Cond.selects "BoostForestsModel" ⟨"BoostForestsModel", "layNode", "(III)V"⟩ ⟨"BoostForestsModel", "layNode", "(III)V"⟩ ∈ gw_tbl := List.mem_filter.mpr ⟨List.mem_append_left _ (List.mem_of_getElem? (i := 21) rfl), rfl⟩
theorem ks_MD_sumUp : Cond.selects "BoostForestsModel" ⟨"BoostForestsModel", "sumUp", "(IIIIZ)V"⟩ ⟨"BoostForestsModel", "sumUp", "(IIIIZ)V"⟩ ∈ gw_tbl := List.mem_filter.mpr ⟨List.mem_append_left _ (List.mem_of_getElem? (i := 22) rfl), rfl⟩
theorem ks_MD_split : Cond.selects "BoostForestsModel" ⟨"BoostForestsModel", "split", "(II)V"⟩ ⟨"BoostForestsModel", "split", "(II)V"⟩ ∈ gw_tbl := List.mem_filter.mpr ⟨List.mem_append_left _ (List.mem_of_getElem? (i := 23) rfl), rfl⟩
theorem ks_MD_isCut : Cond.selects "BoostForestsModel" ⟨"BoostForestsModel", "isCut", "(III)Z"⟩ ⟨"BoostForestsModel", "isCut", "(III)Z"⟩ ∈ gw_tbl := List.mem_filter.mpr ⟨List.mem_append_left _ (List.mem_of_getElem? (i := 24) rfl), rfl⟩
theorem ks_MD_difference : Cond.selects "BoostForestsModel" ⟨"BoostForestsModel", "difference", "(IIIII)J"⟩ ⟨"BoostForestsModel", "difference", "(IIIII)J"⟩ ∈ gw_tbl := List.mem_filter.mpr ⟨List.mem_append_left _ (List.mem_of_getElem? (i := 25) rfl), rfl⟩
theorem ks_MD_valueOf : Cond.selects "BoostForestsModel" ⟨"BoostForestsModel", "valueOf", "(JI)J"⟩ ⟨"BoostForestsModel", "valueOf", "(JI)J"⟩ ∈ gw_tbl := List.mem_filter.mpr ⟨List.mem_append_left _ (List.mem_of_getElem? (i := 26) rfl), rfl⟩
theorem ks_MD_worthOf : Cond.selects "BoostForestsModel" ⟨"BoostForestsModel", "worthOf", "(JI)J"⟩ ⟨"BoostForestsModel", "worthOf", "(JI)J"⟩ ∈ gw_tbl := List.mem_filter.mpr ⟨List.mem_append_left _ (List.mem_of_getElem? (i := 27) rfl), rfl⟩
theorem ks_MD_leafOf : Cond.selects "BoostForestsModel" ⟨"BoostForestsModel", "leafOf", "(IIIII)I"⟩ ⟨"BoostForestsModel", "leafOf", "(IIIII)I"⟩ ∈ gw_tbl := List.mem_filter.mpr ⟨List.mem_append_left _ (List.mem_of_getElem? (i := 28) rfl), rfl⟩
theorem ks_MD_addOf : Cond.selects "BoostForestsModel" ⟨"BoostForestsModel", "addOf", "(II)J"⟩ ⟨"BoostForestsModel", "addOf", "(II)J"⟩ ∈ gw_tbl := List.mem_filter.mpr ⟨List.mem_append_left _ (List.mem_of_getElem? (i := 29) rfl), rfl⟩
theorem ks_MD_isNode : Cond.selects "BoostForestsModel" ⟨"BoostForestsModel", "isNode", "(II)Z"⟩ ⟨"BoostForestsModel", "isNode", "(II)Z"⟩ ∈ gw_tbl := List.mem_filter.mpr ⟨List.mem_append_left _ (List.mem_of_getElem? (i := 30) rfl), rfl⟩
theorem ks_MD_isTree : Cond.selects "BoostForestsModel" ⟨"BoostForestsModel", "isTree", "(I)Z"⟩ ⟨"BoostForestsModel", "isTree", "(I)Z"⟩ ∈ gw_tbl := List.mem_filter.mpr ⟨List.mem_append_left _ (List.mem_of_getElem? (i := 31) rfl), rfl⟩
theorem ks_MD_allTell : Cond.selects "BoostForestsModel" ⟨"BoostForestsModel", "allTell", "(IIIII)J"⟩ ⟨"BoostForestsModel", "allTell", "(IIIII)J"⟩ ∈ gw_tbl := List.mem_filter.mpr ⟨List.mem_append_left _ (List.mem_of_getElem? (i := 32) rfl), rfl⟩
theorem ks_MD_tellOf : Cond.selects "BoostForestsModel" ⟨"BoostForestsModel", "tellOf", "(IIIIII)J"⟩ ⟨"BoostForestsModel", "tellOf", "(IIIIII)J"⟩ ∈ gw_tbl := List.mem_filter.mpr ⟨List.mem_append_left _ (List.mem_of_getElem? (i := 33) rfl), rfl⟩
end
section
theorem d_BF_init_0 : decode b_BF_init 0 = .ok (.aload_n 0, 1) := by decide +kernel
theorem d_BF_init_1 : decode b_BF_init 1 = .ok (.invokespecial 1, 3) := by decide +kernel
theorem d_BF_init_4 : decode b_BF_init 4 = .ok (.aload_n 0, 1) := by decide +kernel
theorem d_BF_init_5 : decode b_BF_init 5 = .ok (.new 7, 3) := by decide +kernel
theorem d_BF_init_8 : decode b_BF_init 8 = .ok (.dup, 1) := by decide +kernel
theorem d_BF_init_9 : decode b_BF_init 9 = .ok (.invokespecial 9, 3) := by decide +kernel
theorem d_BF_init_12 : decode b_BF_init 12 = .ok (.putfield 10, 3) := by decide +kernel
theorem d_BF_init_15 : decode b_BF_init 15 = .ok (.aload_n 0, 1) := by decide +kernel
theorem d_BF_init_16 : decode b_BF_init 16 = .ok (.getstatic 16, 3) := by decide +kernel
theorem d_BF_init_19 : decode b_BF_init 19 = .ok (.invokevirtual 20, 3) := by decide +kernel
theorem d_BF_init_22 : decode b_BF_init 22 = .ok (.checkcast 21, 3) := by decide +kernel
theorem d_BF_init_25 : decode b_BF_init 25 = .ok (.putfield 25, 3) := by decide +kernel
theorem d_BF_init_28 : decode b_BF_init 28 = .ok (.aload_n 0, 1) := by decide +kernel
theorem d_BF_init_29 : decode b_BF_init 29 = .ok (.new 28, 3) := by decide +kernel
theorem d_BF_init_32 : decode b_BF_init 32 = .ok (.dup, 1) := by decide +kernel
theorem d_BF_init_33 : decode b_BF_init 33 = .ok (.invokespecial 30, 3) := by decide +kernel
theorem d_BF_init_36 : decode b_BF_init 36 = .ok (.putfield 31, 3) := by decide +kernel
theorem d_BF_init_39 : decode b_BF_init 39 = .ok (.aload_n 0, 1) := by decide +kernel
theorem d_BF_init_40 : decode b_BF_init 40 = .ok (.iconst 4, 1) := by decide +kernel
theorem d_BF_init_41 : decode b_BF_init 41 = .ok (.newarray .int, 2) := by decide +kernel
theorem d_BF_init_43 : decode b_BF_init 43 = .ok (.putfield 35, 3) := by decide +kernel
theorem d_BF_init_46 : decode b_BF_init 46 = .ok (.return_, 1) := by decide +kernel
theorem d_BF_row_0 : decode b_BF_row 0 = .ok (.iload_n 1, 1) := by decide +kernel
theorem d_BF_row_1 : decode b_BF_row 1 = .ok (.iload_n 2, 1) := by decide +kernel
theorem d_BF_row_2 : decode b_BF_row 2 = .ok (.iload_n 3, 1) := by decide +kernel
theorem d_BF_row_3 : decode b_BF_row 3 = .ok (.iload 4, 2) := by decide +kernel
theorem d_BF_row_5 : decode b_BF_row 5 = .ok (.invokestatic 38, 3) := by decide +kernel
theorem d_BF_row_8 : decode b_BF_row 8 = .ok (.ifCond .eq 26, 3) := by decide +kernel
theorem d_BF_row_11 : decode b_BF_row 11 = .ok (.iload 5, 2) := by decide +kernel
theorem d_BF_row_13 : decode b_BF_row 13 = .ok (.bipush (-100), 2) := by decide +kernel
theorem d_BF_row_15 : decode b_BF_row 15 = .ok (.bipush 100, 2) := by decide +kernel
theorem d_BF_row_17 : decode b_BF_row 17 = .ok (.invokestatic 42, 3) := by decide +kernel
theorem d_BF_row_20 : decode b_BF_row 20 = .ok (.ifCond .eq 14, 3) := by decide +kernel
theorem d_BF_row_23 : decode b_BF_row 23 = .ok (.iload 6, 2) := by decide +kernel
theorem d_BF_row_25 : decode b_BF_row 25 = .ok (.iconst 1, 1) := by decide +kernel
theorem d_BF_row_26 : decode b_BF_row 26 = .ok (.bipush 8, 2) := by decide +kernel
theorem d_BF_row_28 : decode b_BF_row 28 = .ok (.invokestatic 42, 3) := by decide +kernel
theorem d_BF_row_31 : decode b_BF_row 31 = .ok (.ifCond .ne 6, 3) := by decide +kernel
theorem d_BF_row_34 : decode b_BF_row 34 = .ok (.bipush (-2), 2) := by decide +kernel
theorem d_BF_row_36 : decode b_BF_row 36 = .ok (.ireturn, 1) := by decide +kernel
theorem d_BF_row_37 : decode b_BF_row 37 = .ok (.aload_n 0, 1) := by decide +kernel
theorem d_BF_row_38 : decode b_BF_row 38 = .ok (.iload_n 1, 1) := by decide +kernel
theorem d_BF_row_39 : decode b_BF_row 39 = .ok (.iload_n 2, 1) := by decide +kernel
theorem d_BF_row_40 : decode b_BF_row 40 = .ok (.iload_n 3, 1) := by decide +kernel
theorem d_BF_row_41 : decode b_BF_row 41 = .ok (.iload 4, 2) := by decide +kernel
theorem d_BF_row_43 : decode b_BF_row 43 = .ok (.invokevirtual 46, 3) := by decide +kernel
theorem d_BF_row_46 : decode b_BF_row 46 = .ok (.aload_n 0, 1) := by decide +kernel
theorem d_BF_row_47 : decode b_BF_row 47 = .ok (.getfield 10, 3) := by decide +kernel
theorem d_BF_row_50 : decode b_BF_row 50 = .ok (.aload_n 0, 1) := by decide +kernel
theorem d_BF_row_51 : decode b_BF_row 51 = .ok (.getfield 35, 3) := by decide +kernel
theorem d_BF_row_54 : decode b_BF_row 54 = .ok (.iload 5, 2) := by decide +kernel
theorem d_BF_row_56 : decode b_BF_row 56 = .ok (.iload 6, 2) := by decide +kernel
theorem d_BF_row_58 : decode b_BF_row 58 = .ok (.invokevirtual 50, 3) := by decide +kernel
theorem d_BF_row_61 : decode b_BF_row 61 = .ok (.ireturn, 1) := by decide +kernel
theorem d_BF_hold_0 : decode b_BF_hold 0 = .ok (.iload_n 1, 1) := by decide +kernel
theorem d_BF_hold_1 : decode b_BF_hold 1 = .ok (.aload_n 0, 1) := by decide +kernel
theorem d_BF_hold_2 : decode b_BF_hold 2 = .ok (.getfield 10, 3) := by decide +kernel
theorem d_BF_hold_5 : decode b_BF_hold 5 = .ok (.getfield 54, 3) := by decide +kernel
theorem d_BF_hold_8 : decode b_BF_hold 8 = .ok (.invokestatic 58, 3) := by decide +kernel
theorem d_BF_hold_11 : decode b_BF_hold 11 = .ok (.ifCond .eq 12, 3) := by decide +kernel
theorem d_BF_hold_14 : decode b_BF_hold 14 = .ok (.iload_n 2, 1) := by decide +kernel
theorem d_BF_hold_15 : decode b_BF_hold 15 = .ok (.iconst 0, 1) := by decide +kernel
theorem d_BF_hold_16 : decode b_BF_hold 16 = .ok (.iconst 1, 1) := by decide +kernel
theorem d_BF_hold_17 : decode b_BF_hold 17 = .ok (.invokestatic 42, 3) := by decide +kernel
theorem d_BF_hold_20 : decode b_BF_hold 20 = .ok (.ifCond .ne 6, 3) := by decide +kernel
theorem d_BF_hold_23 : decode b_BF_hold 23 = .ok (.bipush (-2), 2) := by decide +kernel
theorem d_BF_hold_25 : decode b_BF_hold 25 = .ok (.ireturn, 1) := by decide +kernel
theorem d_BF_hold_26 : decode b_BF_hold 26 = .ok (.aload_n 0, 1) := by decide +kernel
theorem d_BF_hold_27 : decode b_BF_hold 27 = .ok (.getfield 10, 3) := by decide +kernel
theorem d_BF_hold_30 : decode b_BF_hold 30 = .ok (.getfield 62, 3) := by decide +kernel
theorem d_BF_hold_33 : decode b_BF_hold 33 = .ok (.iload_n 1, 1) := by decide +kernel
theorem d_BF_hold_34 : decode b_BF_hold 34 = .ok (.baload, 1) := by decide +kernel
theorem d_BF_hold_35 : decode b_BF_hold 35 = .ok (.ifCond .eq 7, 3) := by decide +kernel
theorem d_BF_hold_38 : decode b_BF_hold 38 = .ok (.iconst 1, 1) := by decide +kernel
theorem d_BF_hold_39 : decode b_BF_hold 39 = .ok (.goto 4, 3) := by decide +kernel
theorem d_BF_hold_42 : decode b_BF_hold 42 = .ok (.iconst 0, 1) := by decide +kernel
theorem d_BF_hold_43 : decode b_BF_hold 43 = .ok (.istore_n 3, 1) := by decide +kernel
theorem d_BF_hold_44 : decode b_BF_hold 44 = .ok (.aload_n 0, 1) := by decide +kernel
theorem d_BF_hold_45 : decode b_BF_hold 45 = .ok (.getfield 10, 3) := by decide +kernel
theorem d_BF_hold_48 : decode b_BF_hold 48 = .ok (.getfield 62, 3) := by decide +kernel
theorem d_BF_hold_51 : decode b_BF_hold 51 = .ok (.iload_n 1, 1) := by decide +kernel
theorem d_BF_hold_52 : decode b_BF_hold 52 = .ok (.iload_n 2, 1) := by decide +kernel
theorem d_BF_hold_53 : decode b_BF_hold 53 = .ok (.iconst 1, 1) := by decide +kernel
theorem d_BF_hold_54 : decode b_BF_hold 54 = .ok (.if_icmp .ne 7, 3) := by decide +kernel
theorem d_BF_hold_57 : decode b_BF_hold 57 = .ok (.iconst 1, 1) := by decide +kernel
theorem d_BF_hold_58 : decode b_BF_hold 58 = .ok (.goto 4, 3) := by decide +kernel
theorem d_BF_hold_61 : decode b_BF_hold 61 = .ok (.iconst 0, 1) := by decide +kernel
theorem d_BF_hold_62 : decode b_BF_hold 62 = .ok (.bastore, 1) := by decide +kernel
theorem d_BF_hold_63 : decode b_BF_hold 63 = .ok (.iload_n 3, 1) := by decide +kernel
theorem d_BF_hold_64 : decode b_BF_hold 64 = .ok (.ireturn, 1) := by decide +kernel
theorem d_BF_set_0 : decode b_BF_set 0 = .ok (.iload_n 1, 1) := by decide +kernel
theorem d_BF_set_1 : decode b_BF_set 1 = .ok (.bipush 15, 2) := by decide +kernel
theorem d_BF_set_3 : decode b_BF_set 3 = .ok (.invokestatic 58, 3) := by decide +kernel
theorem d_BF_set_6 : decode b_BF_set 6 = .ok (.ifCond .eq 20, 3) := by decide +kernel
theorem d_BF_set_9 : decode b_BF_set 9 = .ok (.iload_n 2, 1) := by decide +kernel
theorem d_BF_set_10 : decode b_BF_set 10 = .ok (.getstatic 66, 3) := by decide +kernel
theorem d_BF_set_13 : decode b_BF_set 13 = .ok (.iload_n 1, 1) := by decide +kernel
theorem d_BF_set_14 : decode b_BF_set 14 = .ok (.iaload, 1) := by decide +kernel
theorem d_BF_set_15 : decode b_BF_set 15 = .ok (.getstatic 69, 3) := by decide +kernel
theorem d_BF_set_18 : decode b_BF_set 18 = .ok (.iload_n 1, 1) := by decide +kernel
theorem d_BF_set_19 : decode b_BF_set 19 = .ok (.iaload, 1) := by decide +kernel
theorem d_BF_set_20 : decode b_BF_set 20 = .ok (.invokestatic 42, 3) := by decide +kernel
theorem d_BF_set_23 : decode b_BF_set 23 = .ok (.ifCond .ne 6, 3) := by decide +kernel
theorem d_BF_set_26 : decode b_BF_set 26 = .ok (.bipush (-2), 2) := by decide +kernel
theorem d_BF_set_28 : decode b_BF_set 28 = .ok (.ireturn, 1) := by decide +kernel
theorem d_BF_set_29 : decode b_BF_set 29 = .ok (.aload_n 0, 1) := by decide +kernel
theorem d_BF_set_30 : decode b_BF_set 30 = .ok (.getfield 25, 3) := by decide +kernel
theorem d_BF_set_33 : decode b_BF_set 33 = .ok (.iload_n 1, 1) := by decide +kernel
theorem d_BF_set_34 : decode b_BF_set 34 = .ok (.iaload, 1) := by decide +kernel
theorem d_BF_set_35 : decode b_BF_set 35 = .ok (.istore_n 3, 1) := by decide +kernel
theorem d_BF_set_36 : decode b_BF_set 36 = .ok (.aload_n 0, 1) := by decide +kernel
theorem d_BF_set_37 : decode b_BF_set 37 = .ok (.getfield 25, 3) := by decide +kernel
theorem d_BF_set_40 : decode b_BF_set 40 = .ok (.iload_n 1, 1) := by decide +kernel
theorem d_BF_set_41 : decode b_BF_set 41 = .ok (.iload_n 2, 1) := by decide +kernel
theorem d_BF_set_42 : decode b_BF_set 42 = .ok (.iastore, 1) := by decide +kernel
theorem d_BF_set_43 : decode b_BF_set 43 = .ok (.iload_n 3, 1) := by decide +kernel
theorem d_BF_set_44 : decode b_BF_set 44 = .ok (.ireturn, 1) := by decide +kernel
theorem d_BF_clear_0 : decode b_BF_clear 0 = .ok (.aload_n 0, 1) := by decide +kernel
theorem d_BF_clear_1 : decode b_BF_clear 1 = .ok (.getfield 10, 3) := by decide +kernel
theorem d_BF_clear_4 : decode b_BF_clear 4 = .ok (.getfield 54, 3) := by decide +kernel
theorem d_BF_clear_7 : decode b_BF_clear 7 = .ok (.istore_n 1, 1) := by decide +kernel
theorem d_BF_clear_8 : decode b_BF_clear 8 = .ok (.aload_n 0, 1) := by decide +kernel
theorem d_BF_clear_9 : decode b_BF_clear 9 = .ok (.getfield 10, 3) := by decide +kernel
theorem d_BF_clear_12 : decode b_BF_clear 12 = .ok (.iconst 0, 1) := by decide +kernel
theorem d_BF_clear_13 : decode b_BF_clear 13 = .ok (.putfield 54, 3) := by decide +kernel
theorem d_BF_clear_16 : decode b_BF_clear 16 = .ok (.iload_n 1, 1) := by decide +kernel
theorem d_BF_clear_17 : decode b_BF_clear 17 = .ok (.ireturn, 1) := by decide +kernel
theorem d_BF_train_0 : decode b_BF_train 0 = .ok (.aload_n 0, 1) := by decide +kernel
theorem d_BF_train_1 : decode b_BF_train 1 = .ok (.getfield 10, 3) := by decide +kernel
theorem d_BF_train_4 : decode b_BF_train 4 = .ok (.invokevirtual 72, 3) := by decide +kernel
theorem d_BF_train_7 : decode b_BF_train 7 = .ok (.aload_n 0, 1) := by decide +kernel
theorem d_BF_train_8 : decode b_BF_train 8 = .ok (.getfield 10, 3) := by decide +kernel
theorem d_BF_train_11 : decode b_BF_train 11 = .ok (.getfield 54, 3) := by decide +kernel
theorem d_BF_train_14 : decode b_BF_train 14 = .ok (.if_icmp .ne 6, 3) := by decide +kernel
theorem d_BF_train_17 : decode b_BF_train 17 = .ok (.bipush (-2), 2) := by decide +kernel
theorem d_BF_train_19 : decode b_BF_train 19 = .ok (.ireturn, 1) := by decide +kernel
theorem d_BF_train_20 : decode b_BF_train 20 = .ok (.aload_n 0, 1) := by decide +kernel
theorem d_BF_train_21 : decode b_BF_train 21 = .ok (.getfield 31, 3) := by decide +kernel
theorem d_BF_train_24 : decode b_BF_train 24 = .ok (.aload_n 0, 1) := by decide +kernel
theorem d_BF_train_25 : decode b_BF_train 25 = .ok (.getfield 10, 3) := by decide +kernel
theorem d_BF_train_28 : decode b_BF_train 28 = .ok (.aload_n 0, 1) := by decide +kernel
theorem d_BF_train_29 : decode b_BF_train 29 = .ok (.getfield 25, 3) := by decide +kernel
theorem d_BF_train_32 : decode b_BF_train 32 = .ok (.invokevirtual 76, 3) := by decide +kernel
theorem d_BF_train_35 : decode b_BF_train 35 = .ok (.aload_n 0, 1) := by decide +kernel
theorem d_BF_train_36 : decode b_BF_train 36 = .ok (.getfield 31, 3) := by decide +kernel
theorem d_BF_train_39 : decode b_BF_train 39 = .ok (.getfield 80, 3) := by decide +kernel
theorem d_BF_train_42 : decode b_BF_train 42 = .ok (.ireturn, 1) := by decide +kernel
theorem d_BF_node_0 : decode b_BF_node 0 = .ok (.aload_n 0, 1) := by decide +kernel
theorem d_BF_node_1 : decode b_BF_node 1 = .ok (.iload_n 1, 1) := by decide +kernel
theorem d_BF_node_2 : decode b_BF_node 2 = .ok (.iload_n 2, 1) := by decide +kernel
theorem d_BF_node_3 : decode b_BF_node 3 = .ok (.invokevirtual 83, 3) := by decide +kernel
theorem d_BF_node_6 : decode b_BF_node 6 = .ok (.ifCond .eq 12, 3) := by decide +kernel
theorem d_BF_node_9 : decode b_BF_node 9 = .ok (.iload_n 3, 1) := by decide +kernel
theorem d_BF_node_10 : decode b_BF_node 10 = .ok (.bipush 7, 2) := by decide +kernel
theorem d_BF_node_12 : decode b_BF_node 12 = .ok (.invokestatic 58, 3) := by decide +kernel
theorem d_BF_node_15 : decode b_BF_node 15 = .ok (.ifCond .ne 6, 3) := by decide +kernel
theorem d_BF_node_18 : decode b_BF_node 18 = .ok (.bipush (-2), 2) := by decide +kernel
theorem d_BF_node_20 : decode b_BF_node 20 = .ok (.ireturn, 1) := by decide +kernel
theorem d_BF_node_21 : decode b_BF_node 21 = .ok (.aload_n 0, 1) := by decide +kernel
theorem d_BF_node_22 : decode b_BF_node 22 = .ok (.getfield 31, 3) := by decide +kernel
theorem d_BF_node_25 : decode b_BF_node 25 = .ok (.getfield 86, 3) := by decide +kernel
theorem d_BF_node_28 : decode b_BF_node 28 = .ok (.iload_n 1, 1) := by decide +kernel
theorem d_BF_node_29 : decode b_BF_node 29 = .ok (.aaload, 1) := by decide +kernel
theorem d_BF_node_30 : decode b_BF_node 30 = .ok (.getfield 90, 3) := by decide +kernel
theorem d_BF_node_33 : decode b_BF_node 33 = .ok (.iload_n 3, 1) := by decide +kernel
theorem d_BF_node_34 : decode b_BF_node 34 = .ok (.aaload, 1) := by decide +kernel
theorem d_BF_node_35 : decode b_BF_node 35 = .ok (.iload_n 2, 1) := by decide +kernel
theorem d_BF_node_36 : decode b_BF_node 36 = .ok (.iaload, 1) := by decide +kernel
theorem d_BF_node_37 : decode b_BF_node 37 = .ok (.ireturn, 1) := by decide +kernel
theorem d_BF_sum_0 : decode b_BF_sum 0 = .ok (.aload_n 0, 1) := by decide +kernel
theorem d_BF_sum_1 : decode b_BF_sum 1 = .ok (.iload_n 1, 1) := by decide +kernel
theorem d_BF_sum_2 : decode b_BF_sum 2 = .ok (.iload_n 2, 1) := by decide +kernel
theorem d_BF_sum_3 : decode b_BF_sum 3 = .ok (.invokevirtual 83, 3) := by decide +kernel
theorem d_BF_sum_6 : decode b_BF_sum 6 = .ok (.ifCond .eq 11, 3) := by decide +kernel
theorem d_BF_sum_9 : decode b_BF_sum 9 = .ok (.iload_n 3, 1) := by decide +kernel
theorem d_BF_sum_10 : decode b_BF_sum 10 = .ok (.iconst 3, 1) := by decide +kernel
theorem d_BF_sum_11 : decode b_BF_sum 11 = .ok (.invokestatic 58, 3) := by decide +kernel
theorem d_BF_sum_14 : decode b_BF_sum 14 = .ok (.ifCond .ne 5, 3) := by decide +kernel
theorem d_BF_sum_17 : decode b_BF_sum 17 = .ok (.lconst 0, 1) := by decide +kernel
theorem d_BF_sum_18 : decode b_BF_sum 18 = .ok (.lreturn, 1) := by decide +kernel
theorem d_BF_sum_19 : decode b_BF_sum 19 = .ok (.aload_n 0, 1) := by decide +kernel
theorem d_BF_sum_20 : decode b_BF_sum 20 = .ok (.getfield 31, 3) := by decide +kernel
theorem d_BF_sum_23 : decode b_BF_sum 23 = .ok (.getfield 86, 3) := by decide +kernel
theorem d_BF_sum_26 : decode b_BF_sum 26 = .ok (.iload_n 1, 1) := by decide +kernel
theorem d_BF_sum_27 : decode b_BF_sum 27 = .ok (.aaload, 1) := by decide +kernel
theorem d_BF_sum_28 : decode b_BF_sum 28 = .ok (.getfield 96, 3) := by decide +kernel
theorem d_BF_sum_31 : decode b_BF_sum 31 = .ok (.iload_n 3, 1) := by decide +kernel
theorem d_BF_sum_32 : decode b_BF_sum 32 = .ok (.aaload, 1) := by decide +kernel
theorem d_BF_sum_33 : decode b_BF_sum 33 = .ok (.iload_n 2, 1) := by decide +kernel
theorem d_BF_sum_34 : decode b_BF_sum 34 = .ok (.laload, 1) := by decide +kernel
theorem d_BF_sum_35 : decode b_BF_sum 35 = .ok (.lreturn, 1) := by decide +kernel
theorem d_BF_size_0 : decode b_BF_size 0 = .ok (.iload_n 1, 1) := by decide +kernel
theorem d_BF_size_1 : decode b_BF_size 1 = .ok (.aload_n 0, 1) := by decide +kernel
theorem d_BF_size_2 : decode b_BF_size 2 = .ok (.getfield 31, 3) := by decide +kernel
theorem d_BF_size_5 : decode b_BF_size 5 = .ok (.getfield 80, 3) := by decide +kernel
theorem d_BF_size_8 : decode b_BF_size 8 = .ok (.invokestatic 58, 3) := by decide +kernel
theorem d_BF_size_11 : decode b_BF_size 11 = .ok (.ifCond .eq 18, 3) := by decide +kernel
theorem d_BF_size_14 : decode b_BF_size 14 = .ok (.aload_n 0, 1) := by decide +kernel
theorem d_BF_size_15 : decode b_BF_size 15 = .ok (.getfield 31, 3) := by decide +kernel
theorem d_BF_size_18 : decode b_BF_size 18 = .ok (.getfield 86, 3) := by decide +kernel
theorem d_BF_size_21 : decode b_BF_size 21 = .ok (.iload_n 1, 1) := by decide +kernel
theorem d_BF_size_22 : decode b_BF_size 22 = .ok (.aaload, 1) := by decide +kernel
theorem d_BF_size_23 : decode b_BF_size 23 = .ok (.getfield 100, 3) := by decide +kernel
theorem d_BF_size_26 : decode b_BF_size 26 = .ok (.goto 5, 3) := by decide +kernel
theorem d_BF_size_29 : decode b_BF_size 29 = .ok (.bipush (-2), 2) := by decide +kernel
theorem d_BF_size_31 : decode b_BF_size 31 = .ok (.ireturn, 1) := by decide +kernel
theorem d_BF_leaf_0 : decode b_BF_leaf 0 = .ok (.iload_n 1, 1) := by decide +kernel
theorem d_BF_leaf_1 : decode b_BF_leaf 1 = .ok (.aload_n 0, 1) := by decide +kernel
theorem d_BF_leaf_2 : decode b_BF_leaf 2 = .ok (.getfield 31, 3) := by decide +kernel
theorem d_BF_leaf_5 : decode b_BF_leaf 5 = .ok (.getfield 80, 3) := by decide +kernel
theorem d_BF_leaf_8 : decode b_BF_leaf 8 = .ok (.invokestatic 58, 3) := by decide +kernel
theorem d_BF_leaf_11 : decode b_BF_leaf 11 = .ok (.ifCond .eq 15, 3) := by decide +kernel
theorem d_BF_leaf_14 : decode b_BF_leaf 14 = .ok (.iload_n 2, 1) := by decide +kernel
theorem d_BF_leaf_15 : decode b_BF_leaf 15 = .ok (.iload_n 3, 1) := by decide +kernel
theorem d_BF_leaf_16 : decode b_BF_leaf 16 = .ok (.iload 4, 2) := by decide +kernel
theorem d_BF_leaf_18 : decode b_BF_leaf 18 = .ok (.iload 5, 2) := by decide +kernel
theorem d_BF_leaf_20 : decode b_BF_leaf 20 = .ok (.invokestatic 38, 3) := by decide +kernel
theorem d_BF_leaf_23 : decode b_BF_leaf 23 = .ok (.ifCond .ne 6, 3) := by decide +kernel
theorem d_BF_leaf_26 : decode b_BF_leaf 26 = .ok (.bipush (-2), 2) := by decide +kernel
theorem d_BF_leaf_28 : decode b_BF_leaf 28 = .ok (.ireturn, 1) := by decide +kernel
theorem d_BF_leaf_29 : decode b_BF_leaf 29 = .ok (.aload_n 0, 1) := by decide +kernel
theorem d_BF_leaf_30 : decode b_BF_leaf 30 = .ok (.iload_n 2, 1) := by decide +kernel
theorem d_BF_leaf_31 : decode b_BF_leaf 31 = .ok (.iload_n 3, 1) := by decide +kernel
theorem d_BF_leaf_32 : decode b_BF_leaf 32 = .ok (.iload 4, 2) := by decide +kernel
theorem d_BF_leaf_34 : decode b_BF_leaf 34 = .ok (.iload 5, 2) := by decide +kernel
theorem d_BF_leaf_36 : decode b_BF_leaf 36 = .ok (.invokevirtual 46, 3) := by decide +kernel
theorem d_BF_leaf_39 : decode b_BF_leaf 39 = .ok (.aload_n 0, 1) := by decide +kernel
theorem d_BF_leaf_40 : decode b_BF_leaf 40 = .ok (.getfield 31, 3) := by decide +kernel
theorem d_BF_leaf_43 : decode b_BF_leaf 43 = .ok (.getfield 86, 3) := by decide +kernel
theorem d_BF_leaf_46 : decode b_BF_leaf 46 = .ok (.iload_n 1, 1) := by decide +kernel
theorem d_BF_leaf_47 : decode b_BF_leaf 47 = .ok (.aaload, 1) := by decide +kernel
theorem d_BF_leaf_48 : decode b_BF_leaf 48 = .ok (.aload_n 0, 1) := by decide +kernel
theorem d_BF_leaf_49 : decode b_BF_leaf 49 = .ok (.getfield 35, 3) := by decide +kernel
theorem d_BF_leaf_52 : decode b_BF_leaf 52 = .ok (.invokevirtual 103, 3) := by decide +kernel
theorem d_BF_leaf_55 : decode b_BF_leaf 55 = .ok (.ireturn, 1) := by decide +kernel
theorem d_BF_answer_0 : decode b_BF_answer 0 = .ok (.aload_n 0, 1) := by decide +kernel
theorem d_BF_answer_1 : decode b_BF_answer 1 = .ok (.getfield 31, 3) := by decide +kernel
theorem d_BF_answer_4 : decode b_BF_answer 4 = .ok (.getfield 107, 3) := by decide +kernel
theorem d_BF_answer_7 : decode b_BF_answer 7 = .ok (.ifCond .eq 30, 3) := by decide +kernel
theorem d_BF_answer_10 : decode b_BF_answer 10 = .ok (.iload_n 1, 1) := by decide +kernel
theorem d_BF_answer_11 : decode b_BF_answer 11 = .ok (.iconst 0, 1) := by decide +kernel
theorem d_BF_answer_12 : decode b_BF_answer 12 = .ok (.aload_n 0, 1) := by decide +kernel
theorem d_BF_answer_13 : decode b_BF_answer 13 = .ok (.getfield 31, 3) := by decide +kernel
theorem d_BF_answer_16 : decode b_BF_answer 16 = .ok (.getfield 80, 3) := by decide +kernel
theorem d_BF_answer_19 : decode b_BF_answer 19 = .ok (.invokestatic 42, 3) := by decide +kernel
theorem d_BF_answer_22 : decode b_BF_answer 22 = .ok (.ifCond .eq 15, 3) := by decide +kernel
theorem d_BF_answer_25 : decode b_BF_answer 25 = .ok (.iload_n 2, 1) := by decide +kernel
theorem d_BF_answer_26 : decode b_BF_answer 26 = .ok (.iload_n 3, 1) := by decide +kernel
theorem d_BF_answer_27 : decode b_BF_answer 27 = .ok (.iload 4, 2) := by decide +kernel
theorem d_BF_answer_29 : decode b_BF_answer 29 = .ok (.iload 5, 2) := by decide +kernel
theorem d_BF_answer_31 : decode b_BF_answer 31 = .ok (.invokestatic 38, 3) := by decide +kernel
theorem d_BF_answer_34 : decode b_BF_answer 34 = .ok (.ifCond .ne 5, 3) := by decide +kernel
theorem d_BF_answer_37 : decode b_BF_answer 37 = .ok (.lconst 0, 1) := by decide +kernel
theorem d_BF_answer_38 : decode b_BF_answer 38 = .ok (.lreturn, 1) := by decide +kernel
theorem d_BF_answer_39 : decode b_BF_answer 39 = .ok (.aload_n 0, 1) := by decide +kernel
theorem d_BF_answer_40 : decode b_BF_answer 40 = .ok (.iload_n 2, 1) := by decide +kernel
theorem d_BF_answer_41 : decode b_BF_answer 41 = .ok (.iload_n 3, 1) := by decide +kernel
theorem d_BF_answer_42 : decode b_BF_answer 42 = .ok (.iload 4, 2) := by decide +kernel
theorem d_BF_answer_44 : decode b_BF_answer 44 = .ok (.iload 5, 2) := by decide +kernel
theorem d_BF_answer_46 : decode b_BF_answer 46 = .ok (.invokevirtual 46, 3) := by decide +kernel
theorem d_BF_answer_49 : decode b_BF_answer 49 = .ok (.aload_n 0, 1) := by decide +kernel
theorem d_BF_answer_50 : decode b_BF_answer 50 = .ok (.getfield 31, 3) := by decide +kernel
theorem d_BF_answer_53 : decode b_BF_answer 53 = .ok (.iload_n 1, 1) := by decide +kernel
theorem d_BF_answer_54 : decode b_BF_answer 54 = .ok (.aload_n 0, 1) := by decide +kernel
theorem d_BF_answer_55 : decode b_BF_answer 55 = .ok (.getfield 35, 3) := by decide +kernel
theorem d_BF_answer_58 : decode b_BF_answer 58 = .ok (.invokevirtual 111, 3) := by decide +kernel
theorem d_BF_answer_61 : decode b_BF_answer 61 = .ok (.lreturn, 1) := by decide +kernel
theorem d_BF_loss_0 : decode b_BF_loss 0 = .ok (.aload_n 0, 1) := by decide +kernel
theorem d_BF_loss_1 : decode b_BF_loss 1 = .ok (.getfield 31, 3) := by decide +kernel
theorem d_BF_loss_4 : decode b_BF_loss 4 = .ok (.getfield 107, 3) := by decide +kernel
theorem d_BF_loss_7 : decode b_BF_loss 7 = .ok (.ifCond .eq 27, 3) := by decide +kernel
theorem d_BF_loss_10 : decode b_BF_loss 10 = .ok (.iload_n 1, 1) := by decide +kernel
theorem d_BF_loss_11 : decode b_BF_loss 11 = .ok (.iconst 0, 1) := by decide +kernel
theorem d_BF_loss_12 : decode b_BF_loss 12 = .ok (.aload_n 0, 1) := by decide +kernel
theorem d_BF_loss_13 : decode b_BF_loss 13 = .ok (.getfield 31, 3) := by decide +kernel
theorem d_BF_loss_16 : decode b_BF_loss 16 = .ok (.getfield 80, 3) := by decide +kernel
theorem d_BF_loss_19 : decode b_BF_loss 19 = .ok (.invokestatic 42, 3) := by decide +kernel
theorem d_BF_loss_22 : decode b_BF_loss 22 = .ok (.ifCond .eq 12, 3) := by decide +kernel
theorem d_BF_loss_25 : decode b_BF_loss 25 = .ok (.iload_n 2, 1) := by decide +kernel
theorem d_BF_loss_26 : decode b_BF_loss 26 = .ok (.iconst 0, 1) := by decide +kernel
theorem d_BF_loss_27 : decode b_BF_loss 27 = .ok (.iconst 1, 1) := by decide +kernel
theorem d_BF_loss_28 : decode b_BF_loss 28 = .ok (.invokestatic 42, 3) := by decide +kernel
theorem d_BF_loss_31 : decode b_BF_loss 31 = .ok (.ifCond .ne 7, 3) := by decide +kernel
theorem d_BF_loss_34 : decode b_BF_loss 34 = .ok (.ldc2_w 115, 3) := by decide +kernel
theorem d_BF_loss_37 : decode b_BF_loss 37 = .ok (.lreturn, 1) := by decide +kernel
theorem d_BF_loss_38 : decode b_BF_loss 38 = .ok (.aload_n 0, 1) := by decide +kernel
theorem d_BF_loss_39 : decode b_BF_loss 39 = .ok (.getfield 31, 3) := by decide +kernel
theorem d_BF_loss_42 : decode b_BF_loss 42 = .ok (.getfield 117, 3) := by decide +kernel
theorem d_BF_loss_45 : decode b_BF_loss 45 = .ok (.iload_n 2, 1) := by decide +kernel
theorem d_BF_loss_46 : decode b_BF_loss 46 = .ok (.aaload, 1) := by decide +kernel
theorem d_BF_loss_47 : decode b_BF_loss 47 = .ok (.iload_n 1, 1) := by decide +kernel
theorem d_BF_loss_48 : decode b_BF_loss 48 = .ok (.laload, 1) := by decide +kernel
theorem d_BF_loss_49 : decode b_BF_loss 49 = .ok (.lreturn, 1) := by decide +kernel
theorem d_BF_best_0 : decode b_BF_best 0 = .ok (.aload_n 0, 1) := by decide +kernel
theorem d_BF_best_1 : decode b_BF_best 1 = .ok (.getfield 31, 3) := by decide +kernel
theorem d_BF_best_4 : decode b_BF_best 4 = .ok (.getfield 107, 3) := by decide +kernel
theorem d_BF_best_7 : decode b_BF_best 7 = .ok (.ifCond .eq 13, 3) := by decide +kernel
theorem d_BF_best_10 : decode b_BF_best 10 = .ok (.aload_n 0, 1) := by decide +kernel
theorem d_BF_best_11 : decode b_BF_best 11 = .ok (.getfield 31, 3) := by decide +kernel
theorem d_BF_best_14 : decode b_BF_best 14 = .ok (.invokevirtual 120, 3) := by decide +kernel
theorem d_BF_best_17 : decode b_BF_best 17 = .ok (.goto 5, 3) := by decide +kernel
theorem d_BF_best_20 : decode b_BF_best 20 = .ok (.bipush (-2), 2) := by decide +kernel
theorem d_BF_best_22 : decode b_BF_best 22 = .ok (.ireturn, 1) := by decide +kernel
theorem d_BF_without_0 : decode b_BF_without 0 = .ok (.aload_n 0, 1) := by decide +kernel
theorem d_BF_without_1 : decode b_BF_without 1 = .ok (.iload_n 1, 1) := by decide +kernel
theorem d_BF_without_2 : decode b_BF_without 2 = .ok (.invokevirtual 123, 3) := by decide +kernel
theorem d_BF_without_5 : decode b_BF_without 5 = .ok (.ifCond .eq 14, 3) := by decide +kernel
theorem d_BF_without_8 : decode b_BF_without 8 = .ok (.aload_n 0, 1) := by decide +kernel
theorem d_BF_without_9 : decode b_BF_without 9 = .ok (.getfield 31, 3) := by decide +kernel
theorem d_BF_without_12 : decode b_BF_without 12 = .ok (.iload_n 1, 1) := by decide +kernel
theorem d_BF_without_13 : decode b_BF_without 13 = .ok (.invokevirtual 127, 3) := by decide +kernel
theorem d_BF_without_16 : decode b_BF_without 16 = .ok (.goto 4, 3) := by decide +kernel
theorem d_BF_without_19 : decode b_BF_without 19 = .ok (.lconst 0, 1) := by decide +kernel
theorem d_BF_without_20 : decode b_BF_without 20 = .ok (.lreturn, 1) := by decide +kernel
theorem d_BF_took_0 : decode b_BF_took 0 = .ok (.aload_n 0, 1) := by decide +kernel
theorem d_BF_took_1 : decode b_BF_took 1 = .ok (.iload_n 1, 1) := by decide +kernel
theorem d_BF_took_2 : decode b_BF_took 2 = .ok (.invokevirtual 123, 3) := by decide +kernel
theorem d_BF_took_5 : decode b_BF_took 5 = .ok (.ifCond .eq 18, 3) := by decide +kernel
theorem d_BF_took_8 : decode b_BF_took 8 = .ok (.aload_n 0, 1) := by decide +kernel
theorem d_BF_took_9 : decode b_BF_took 9 = .ok (.getfield 31, 3) := by decide +kernel
theorem d_BF_took_12 : decode b_BF_took 12 = .ok (.getfield 131, 3) := by decide +kernel
theorem d_BF_took_15 : decode b_BF_took 15 = .ok (.iload_n 1, 1) := by decide +kernel
theorem d_BF_took_16 : decode b_BF_took 16 = .ok (.iaload, 1) := by decide +kernel
theorem d_BF_took_17 : decode b_BF_took 17 = .ok (.invokestatic 134, 3) := by decide +kernel
theorem d_BF_took_20 : decode b_BF_took 20 = .ok (.goto 5, 3) := by decide +kernel
theorem d_BF_took_23 : decode b_BF_took 23 = .ok (.bipush (-2), 2) := by decide +kernel
theorem d_BF_took_25 : decode b_BF_took 25 = .ok (.ireturn, 1) := by decide +kernel
theorem d_BF_gain_0 : decode b_BF_gain 0 = .ok (.iload_n 1, 1) := by decide +kernel
theorem d_BF_gain_1 : decode b_BF_gain 1 = .ok (.iconst 4, 1) := by decide +kernel
theorem d_BF_gain_2 : decode b_BF_gain 2 = .ok (.invokestatic 58, 3) := by decide +kernel
theorem d_BF_gain_5 : decode b_BF_gain 5 = .ok (.ifCond .eq 14, 3) := by decide +kernel
theorem d_BF_gain_8 : decode b_BF_gain 8 = .ok (.aload_n 0, 1) := by decide +kernel
theorem d_BF_gain_9 : decode b_BF_gain 9 = .ok (.getfield 31, 3) := by decide +kernel
theorem d_BF_gain_12 : decode b_BF_gain 12 = .ok (.iload_n 1, 1) := by decide +kernel
theorem d_BF_gain_13 : decode b_BF_gain 13 = .ok (.invokevirtual 140, 3) := by decide +kernel
theorem d_BF_gain_16 : decode b_BF_gain 16 = .ok (.goto 4, 3) := by decide +kernel
theorem d_BF_gain_19 : decode b_BF_gain 19 = .ok (.lconst 0, 1) := by decide +kernel
theorem d_BF_gain_20 : decode b_BF_gain 20 = .ok (.lreturn, 1) := by decide +kernel
theorem d_BF_told_0 : decode b_BF_told 0 = .ok (.aload_n 0, 1) := by decide +kernel
theorem d_BF_told_1 : decode b_BF_told 1 = .ok (.getfield 31, 3) := by decide +kernel
theorem d_BF_told_4 : decode b_BF_told 4 = .ok (.getfield 107, 3) := by decide +kernel
theorem d_BF_told_7 : decode b_BF_told 7 = .ok (.ifCond .eq 24, 3) := by decide +kernel
theorem d_BF_told_10 : decode b_BF_told 10 = .ok (.iload_n 1, 1) := by decide +kernel
theorem d_BF_told_11 : decode b_BF_told 11 = .ok (.bipush 16, 2) := by decide +kernel
theorem d_BF_told_13 : decode b_BF_told 13 = .ok (.invokestatic 58, 3) := by decide +kernel
theorem d_BF_told_16 : decode b_BF_told 16 = .ok (.ifCond .eq 15, 3) := by decide +kernel
theorem d_BF_told_19 : decode b_BF_told 19 = .ok (.iload_n 2, 1) := by decide +kernel
theorem d_BF_told_20 : decode b_BF_told 20 = .ok (.iload_n 3, 1) := by decide +kernel
theorem d_BF_told_21 : decode b_BF_told 21 = .ok (.iload 4, 2) := by decide +kernel
theorem d_BF_told_23 : decode b_BF_told 23 = .ok (.iload 5, 2) := by decide +kernel
theorem d_BF_told_25 : decode b_BF_told 25 = .ok (.invokestatic 38, 3) := by decide +kernel
theorem d_BF_told_28 : decode b_BF_told 28 = .ok (.ifCond .ne 5, 3) := by decide +kernel
theorem d_BF_told_31 : decode b_BF_told 31 = .ok (.lconst 0, 1) := by decide +kernel
theorem d_BF_told_32 : decode b_BF_told 32 = .ok (.lreturn, 1) := by decide +kernel
theorem d_BF_told_33 : decode b_BF_told 33 = .ok (.aload_n 0, 1) := by decide +kernel
theorem d_BF_told_34 : decode b_BF_told 34 = .ok (.iload_n 2, 1) := by decide +kernel
theorem d_BF_told_35 : decode b_BF_told 35 = .ok (.iload_n 3, 1) := by decide +kernel
theorem d_BF_told_36 : decode b_BF_told 36 = .ok (.iload 4, 2) := by decide +kernel
theorem d_BF_told_38 : decode b_BF_told 38 = .ok (.iload 5, 2) := by decide +kernel
theorem d_BF_told_40 : decode b_BF_told 40 = .ok (.invokevirtual 46, 3) := by decide +kernel
theorem d_BF_told_43 : decode b_BF_told 43 = .ok (.aload_n 0, 1) := by decide +kernel
theorem d_BF_told_44 : decode b_BF_told 44 = .ok (.getfield 31, 3) := by decide +kernel
theorem d_BF_told_47 : decode b_BF_told 47 = .ok (.iload_n 1, 1) := by decide +kernel
theorem d_BF_told_48 : decode b_BF_told 48 = .ok (.aload_n 0, 1) := by decide +kernel
theorem d_BF_told_49 : decode b_BF_told 49 = .ok (.getfield 35, 3) := by decide +kernel
theorem d_BF_told_52 : decode b_BF_told 52 = .ok (.invokevirtual 143, 3) := by decide +kernel
theorem d_BF_told_55 : decode b_BF_told 55 = .ok (.lreturn, 1) := by decide +kernel
theorem d_BF_share_0 : decode b_BF_share 0 = .ok (.aload_n 0, 1) := by decide +kernel
theorem d_BF_share_1 : decode b_BF_share 1 = .ok (.getfield 31, 3) := by decide +kernel
theorem d_BF_share_4 : decode b_BF_share 4 = .ok (.getfield 107, 3) := by decide +kernel
theorem d_BF_share_7 : decode b_BF_share 7 = .ok (.ifCond .eq 23, 3) := by decide +kernel
theorem d_BF_share_10 : decode b_BF_share 10 = .ok (.iload_n 1, 1) := by decide +kernel
theorem d_BF_share_11 : decode b_BF_share 11 = .ok (.iconst 4, 1) := by decide +kernel
theorem d_BF_share_12 : decode b_BF_share 12 = .ok (.invokestatic 58, 3) := by decide +kernel
theorem d_BF_share_15 : decode b_BF_share 15 = .ok (.ifCond .eq 15, 3) := by decide +kernel
theorem d_BF_share_18 : decode b_BF_share 18 = .ok (.iload_n 2, 1) := by decide +kernel
theorem d_BF_share_19 : decode b_BF_share 19 = .ok (.iload_n 3, 1) := by decide +kernel
theorem d_BF_share_20 : decode b_BF_share 20 = .ok (.iload 4, 2) := by decide +kernel
theorem d_BF_share_22 : decode b_BF_share 22 = .ok (.iload 5, 2) := by decide +kernel
theorem d_BF_share_24 : decode b_BF_share 24 = .ok (.invokestatic 38, 3) := by decide +kernel
theorem d_BF_share_27 : decode b_BF_share 27 = .ok (.ifCond .ne 5, 3) := by decide +kernel
theorem d_BF_share_30 : decode b_BF_share 30 = .ok (.lconst 0, 1) := by decide +kernel
theorem d_BF_share_31 : decode b_BF_share 31 = .ok (.lreturn, 1) := by decide +kernel
theorem d_BF_share_32 : decode b_BF_share 32 = .ok (.aload_n 0, 1) := by decide +kernel
theorem d_BF_share_33 : decode b_BF_share 33 = .ok (.iload_n 2, 1) := by decide +kernel
theorem d_BF_share_34 : decode b_BF_share 34 = .ok (.iload_n 3, 1) := by decide +kernel
theorem d_BF_share_35 : decode b_BF_share 35 = .ok (.iload 4, 2) := by decide +kernel
theorem d_BF_share_37 : decode b_BF_share 37 = .ok (.iload 5, 2) := by decide +kernel
theorem d_BF_share_39 : decode b_BF_share 39 = .ok (.invokevirtual 46, 3) := by decide +kernel
theorem d_BF_share_42 : decode b_BF_share 42 = .ok (.aload_n 0, 1) := by decide +kernel
theorem d_BF_share_43 : decode b_BF_share 43 = .ok (.getfield 31, 3) := by decide +kernel
theorem d_BF_share_46 : decode b_BF_share 46 = .ok (.iload_n 1, 1) := by decide +kernel
theorem d_BF_share_47 : decode b_BF_share 47 = .ok (.aload_n 0, 1) := by decide +kernel
theorem d_BF_share_48 : decode b_BF_share 48 = .ok (.getfield 35, 3) := by decide +kernel
theorem d_BF_share_51 : decode b_BF_share 51 = .ok (.invokevirtual 146, 3) := by decide +kernel
theorem d_BF_share_54 : decode b_BF_share 54 = .ok (.lreturn, 1) := by decide +kernel
theorem d_BF_count_0 : decode b_BF_count 0 = .ok (.iload_n 1, 1) := by decide +kernel
theorem d_BF_count_1 : decode b_BF_count 1 = .ok (.tableswitch 80 0 3 #[31, 39, 47, 55], 31) := by decide +kernel
theorem d_BF_count_32 : decode b_BF_count 32 = .ok (.aload_n 0, 1) := by decide +kernel
theorem d_BF_count_33 : decode b_BF_count 33 = .ok (.getfield 10, 3) := by decide +kernel
theorem d_BF_count_36 : decode b_BF_count 36 = .ok (.getfield 54, 3) := by decide +kernel
theorem d_BF_count_39 : decode b_BF_count 39 = .ok (.ireturn, 1) := by decide +kernel
theorem d_BF_count_40 : decode b_BF_count 40 = .ok (.aload_n 0, 1) := by decide +kernel
theorem d_BF_count_41 : decode b_BF_count 41 = .ok (.getfield 10, 3) := by decide +kernel
theorem d_BF_count_44 : decode b_BF_count 44 = .ok (.invokevirtual 72, 3) := by decide +kernel
theorem d_BF_count_47 : decode b_BF_count 47 = .ok (.ireturn, 1) := by decide +kernel
theorem d_BF_count_48 : decode b_BF_count 48 = .ok (.aload_n 0, 1) := by decide +kernel
theorem d_BF_count_49 : decode b_BF_count 49 = .ok (.getfield 31, 3) := by decide +kernel
theorem d_BF_count_52 : decode b_BF_count 52 = .ok (.getfield 80, 3) := by decide +kernel
theorem d_BF_count_55 : decode b_BF_count 55 = .ok (.ireturn, 1) := by decide +kernel
theorem d_BF_count_56 : decode b_BF_count 56 = .ok (.aload_n 0, 1) := by decide +kernel
theorem d_BF_count_57 : decode b_BF_count 57 = .ok (.getfield 31, 3) := by decide +kernel
theorem d_BF_count_60 : decode b_BF_count 60 = .ok (.getfield 107, 3) := by decide +kernel
theorem d_BF_count_63 : decode b_BF_count 63 = .ok (.ifCond .eq 16, 3) := by decide +kernel
theorem d_BF_count_66 : decode b_BF_count 66 = .ok (.aload_n 0, 1) := by decide +kernel
theorem d_BF_count_67 : decode b_BF_count 67 = .ok (.getfield 31, 3) := by decide +kernel
theorem d_BF_count_70 : decode b_BF_count 70 = .ok (.getfield 149, 3) := by decide +kernel
theorem d_BF_count_73 : decode b_BF_count 73 = .ok (.getfield 54, 3) := by decide +kernel
theorem d_BF_count_76 : decode b_BF_count 76 = .ok (.goto 4, 3) := by decide +kernel
theorem d_BF_count_79 : decode b_BF_count 79 = .ok (.iconst 0, 1) := by decide +kernel
theorem d_BF_count_80 : decode b_BF_count 80 = .ok (.ireturn, 1) := by decide +kernel
theorem d_BF_count_81 : decode b_BF_count 81 = .ok (.iload_n 1, 1) := by decide +kernel
theorem d_BF_count_82 : decode b_BF_count 82 = .ok (.iconst 4, 1) := by decide +kernel
theorem d_BF_count_83 : decode b_BF_count 83 = .ok (.bipush 18, 2) := by decide +kernel
theorem d_BF_count_85 : decode b_BF_count 85 = .ok (.invokestatic 42, 3) := by decide +kernel
theorem d_BF_count_88 : decode b_BF_count 88 = .ok (.ifCond .eq 14, 3) := by decide +kernel
theorem d_BF_count_91 : decode b_BF_count 91 = .ok (.aload_n 0, 1) := by decide +kernel
theorem d_BF_count_92 : decode b_BF_count 92 = .ok (.getfield 25, 3) := by decide +kernel
theorem d_BF_count_95 : decode b_BF_count 95 = .ok (.iload_n 1, 1) := by decide +kernel
theorem d_BF_count_96 : decode b_BF_count 96 = .ok (.iconst 4, 1) := by decide +kernel
theorem d_BF_count_97 : decode b_BF_count 97 = .ok (.isub, 1) := by decide +kernel
theorem d_BF_count_98 : decode b_BF_count 98 = .ok (.iaload, 1) := by decide +kernel
theorem d_BF_count_99 : decode b_BF_count 99 = .ok (.goto 5, 3) := by decide +kernel
theorem d_BF_count_102 : decode b_BF_count 102 = .ok (.bipush (-2), 2) := by decide +kernel
theorem d_BF_count_104 : decode b_BF_count 104 = .ok (.ireturn, 1) := by decide +kernel
theorem d_BF_isNode_0 : decode b_BF_isNode 0 = .ok (.iload_n 1, 1) := by decide +kernel
theorem d_BF_isNode_1 : decode b_BF_isNode 1 = .ok (.aload_n 0, 1) := by decide +kernel
theorem d_BF_isNode_2 : decode b_BF_isNode 2 = .ok (.getfield 31, 3) := by decide +kernel
theorem d_BF_isNode_5 : decode b_BF_isNode 5 = .ok (.getfield 80, 3) := by decide +kernel
theorem d_BF_isNode_8 : decode b_BF_isNode 8 = .ok (.invokestatic 58, 3) := by decide +kernel
theorem d_BF_isNode_11 : decode b_BF_isNode 11 = .ok (.ifCond .eq 26, 3) := by decide +kernel
theorem d_BF_isNode_14 : decode b_BF_isNode 14 = .ok (.iload_n 2, 1) := by decide +kernel
theorem d_BF_isNode_15 : decode b_BF_isNode 15 = .ok (.aload_n 0, 1) := by decide +kernel
theorem d_BF_isNode_16 : decode b_BF_isNode 16 = .ok (.getfield 31, 3) := by decide +kernel
theorem d_BF_isNode_19 : decode b_BF_isNode 19 = .ok (.getfield 86, 3) := by decide +kernel
theorem d_BF_isNode_22 : decode b_BF_isNode 22 = .ok (.iload_n 1, 1) := by decide +kernel
theorem d_BF_isNode_23 : decode b_BF_isNode 23 = .ok (.aaload, 1) := by decide +kernel
theorem d_BF_isNode_24 : decode b_BF_isNode 24 = .ok (.getfield 100, 3) := by decide +kernel
theorem d_BF_isNode_27 : decode b_BF_isNode 27 = .ok (.invokestatic 58, 3) := by decide +kernel
theorem d_BF_isNode_30 : decode b_BF_isNode 30 = .ok (.ifCond .eq 7, 3) := by decide +kernel
theorem d_BF_isNode_33 : decode b_BF_isNode 33 = .ok (.iconst 1, 1) := by decide +kernel
theorem d_BF_isNode_34 : decode b_BF_isNode 34 = .ok (.goto 4, 3) := by decide +kernel
theorem d_BF_isNode_37 : decode b_BF_isNode 37 = .ok (.iconst 0, 1) := by decide +kernel
theorem d_BF_isNode_38 : decode b_BF_isNode 38 = .ok (.ireturn, 1) := by decide +kernel
theorem d_BF_isTrainedRow_0 : decode b_BF_isTrainedRow 0 = .ok (.aload_n 0, 1) := by decide +kernel
theorem d_BF_isTrainedRow_1 : decode b_BF_isTrainedRow 1 = .ok (.getfield 31, 3) := by decide +kernel
theorem d_BF_isTrainedRow_4 : decode b_BF_isTrainedRow 4 = .ok (.getfield 107, 3) := by decide +kernel
theorem d_BF_isTrainedRow_7 : decode b_BF_isTrainedRow 7 = .ok (.ifCond .eq 24, 3) := by decide +kernel
theorem d_BF_isTrainedRow_10 : decode b_BF_isTrainedRow 10 = .ok (.iload_n 1, 1) := by decide +kernel
theorem d_BF_isTrainedRow_11 : decode b_BF_isTrainedRow 11 = .ok (.aload_n 0, 1) := by decide +kernel
theorem d_BF_isTrainedRow_12 : decode b_BF_isTrainedRow 12 = .ok (.getfield 31, 3) := by decide +kernel
theorem d_BF_isTrainedRow_15 : decode b_BF_isTrainedRow 15 = .ok (.getfield 149, 3) := by decide +kernel
theorem d_BF_isTrainedRow_18 : decode b_BF_isTrainedRow 18 = .ok (.getfield 54, 3) := by decide +kernel
theorem d_BF_isTrainedRow_21 : decode b_BF_isTrainedRow 21 = .ok (.invokestatic 58, 3) := by decide +kernel
theorem d_BF_isTrainedRow_24 : decode b_BF_isTrainedRow 24 = .ok (.ifCond .eq 7, 3) := by decide +kernel
theorem d_BF_isTrainedRow_27 : decode b_BF_isTrainedRow 27 = .ok (.iconst 1, 1) := by decide +kernel
theorem d_BF_isTrainedRow_28 : decode b_BF_isTrainedRow 28 = .ok (.goto 4, 3) := by decide +kernel
theorem d_BF_isTrainedRow_31 : decode b_BF_isTrainedRow 31 = .ok (.iconst 0, 1) := by decide +kernel
theorem d_BF_isTrainedRow_32 : decode b_BF_isTrainedRow 32 = .ok (.ireturn, 1) := by decide +kernel
theorem d_BF_keepAsked_0 : decode b_BF_keepAsked 0 = .ok (.aload_n 0, 1) := by decide +kernel
theorem d_BF_keepAsked_1 : decode b_BF_keepAsked 1 = .ok (.getfield 35, 3) := by decide +kernel
theorem d_BF_keepAsked_4 : decode b_BF_keepAsked 4 = .ok (.iconst 0, 1) := by decide +kernel
theorem d_BF_keepAsked_5 : decode b_BF_keepAsked 5 = .ok (.iload_n 1, 1) := by decide +kernel
theorem d_BF_keepAsked_6 : decode b_BF_keepAsked 6 = .ok (.iastore, 1) := by decide +kernel
theorem d_BF_keepAsked_7 : decode b_BF_keepAsked 7 = .ok (.aload_n 0, 1) := by decide +kernel
theorem d_BF_keepAsked_8 : decode b_BF_keepAsked 8 = .ok (.getfield 35, 3) := by decide +kernel
theorem d_BF_keepAsked_11 : decode b_BF_keepAsked 11 = .ok (.iconst 1, 1) := by decide +kernel
theorem d_BF_keepAsked_12 : decode b_BF_keepAsked 12 = .ok (.iload_n 2, 1) := by decide +kernel
theorem d_BF_keepAsked_13 : decode b_BF_keepAsked 13 = .ok (.iastore, 1) := by decide +kernel
theorem d_BF_keepAsked_14 : decode b_BF_keepAsked 14 = .ok (.aload_n 0, 1) := by decide +kernel
theorem d_BF_keepAsked_15 : decode b_BF_keepAsked 15 = .ok (.getfield 35, 3) := by decide +kernel
theorem d_BF_keepAsked_18 : decode b_BF_keepAsked 18 = .ok (.iconst 2, 1) := by decide +kernel
theorem d_BF_keepAsked_19 : decode b_BF_keepAsked 19 = .ok (.iload_n 3, 1) := by decide +kernel
theorem d_BF_keepAsked_20 : decode b_BF_keepAsked 20 = .ok (.iastore, 1) := by decide +kernel
theorem d_BF_keepAsked_21 : decode b_BF_keepAsked 21 = .ok (.aload_n 0, 1) := by decide +kernel
theorem d_BF_keepAsked_22 : decode b_BF_keepAsked 22 = .ok (.getfield 35, 3) := by decide +kernel
theorem d_BF_keepAsked_25 : decode b_BF_keepAsked 25 = .ok (.iconst 3, 1) := by decide +kernel
theorem d_BF_keepAsked_26 : decode b_BF_keepAsked 26 = .ok (.iload 4, 2) := by decide +kernel
theorem d_BF_keepAsked_28 : decode b_BF_keepAsked 28 = .ok (.iastore, 1) := by decide +kernel
theorem d_BF_keepAsked_29 : decode b_BF_keepAsked 29 = .ok (.return_, 1) := by decide +kernel
theorem d_BF_areCells_0 : decode b_BF_areCells 0 = .ok (.iload_n 0, 1) := by decide +kernel
theorem d_BF_areCells_1 : decode b_BF_areCells 1 = .ok (.iconst (-1), 1) := by decide +kernel
theorem d_BF_areCells_2 : decode b_BF_areCells 2 = .ok (.bipush 31, 2) := by decide +kernel
theorem d_BF_areCells_4 : decode b_BF_areCells 4 = .ok (.invokestatic 42, 3) := by decide +kernel
theorem d_BF_areCells_7 : decode b_BF_areCells 7 = .ok (.ifCond .eq 37, 3) := by decide +kernel
theorem d_BF_areCells_10 : decode b_BF_areCells 10 = .ok (.iload_n 1, 1) := by decide +kernel
theorem d_BF_areCells_11 : decode b_BF_areCells 11 = .ok (.iconst (-1), 1) := by decide +kernel
theorem d_BF_areCells_12 : decode b_BF_areCells 12 = .ok (.bipush 31, 2) := by decide +kernel
theorem d_BF_areCells_14 : decode b_BF_areCells 14 = .ok (.invokestatic 42, 3) := by decide +kernel
theorem d_BF_areCells_17 : decode b_BF_areCells 17 = .ok (.ifCond .eq 27, 3) := by decide +kernel
theorem d_BF_areCells_20 : decode b_BF_areCells 20 = .ok (.iload_n 2, 1) := by decide +kernel
theorem d_BF_areCells_21 : decode b_BF_areCells 21 = .ok (.iconst (-1), 1) := by decide +kernel
theorem d_BF_areCells_22 : decode b_BF_areCells 22 = .ok (.bipush 31, 2) := by decide +kernel
theorem d_BF_areCells_24 : decode b_BF_areCells 24 = .ok (.invokestatic 42, 3) := by decide +kernel
theorem d_BF_areCells_27 : decode b_BF_areCells 27 = .ok (.ifCond .eq 17, 3) := by decide +kernel
theorem d_BF_areCells_30 : decode b_BF_areCells 30 = .ok (.iload_n 3, 1) := by decide +kernel
theorem d_BF_areCells_31 : decode b_BF_areCells 31 = .ok (.iconst (-1), 1) := by decide +kernel
theorem d_BF_areCells_32 : decode b_BF_areCells 32 = .ok (.bipush 31, 2) := by decide +kernel
theorem d_BF_areCells_34 : decode b_BF_areCells 34 = .ok (.invokestatic 42, 3) := by decide +kernel
theorem d_BF_areCells_37 : decode b_BF_areCells 37 = .ok (.ifCond .eq 7, 3) := by decide +kernel
theorem d_BF_areCells_40 : decode b_BF_areCells 40 = .ok (.iconst 1, 1) := by decide +kernel
theorem d_BF_areCells_41 : decode b_BF_areCells 41 = .ok (.goto 4, 3) := by decide +kernel
theorem d_BF_areCells_44 : decode b_BF_areCells 44 = .ok (.iconst 0, 1) := by decide +kernel
theorem d_BF_areCells_45 : decode b_BF_areCells 45 = .ok (.ireturn, 1) := by decide +kernel
theorem d_BF_isIndex_0 : decode b_BF_isIndex 0 = .ok (.iload_n 0, 1) := by decide +kernel
theorem d_BF_isIndex_1 : decode b_BF_isIndex 1 = .ok (.ifCond .lt 12, 3) := by decide +kernel
theorem d_BF_isIndex_4 : decode b_BF_isIndex 4 = .ok (.iload_n 0, 1) := by decide +kernel
theorem d_BF_isIndex_5 : decode b_BF_isIndex 5 = .ok (.iload_n 1, 1) := by decide +kernel
theorem d_BF_isIndex_6 : decode b_BF_isIndex 6 = .ok (.if_icmp .ge 7, 3) := by decide +kernel
theorem d_BF_isIndex_9 : decode b_BF_isIndex 9 = .ok (.iconst 1, 1) := by decide +kernel
theorem d_BF_isIndex_10 : decode b_BF_isIndex 10 = .ok (.goto 4, 3) := by decide +kernel
theorem d_BF_isIndex_13 : decode b_BF_isIndex 13 = .ok (.iconst 0, 1) := by decide +kernel
theorem d_BF_isIndex_14 : decode b_BF_isIndex 14 = .ok (.ireturn, 1) := by decide +kernel
theorem d_BF_isWithin_0 : decode b_BF_isWithin 0 = .ok (.iload_n 0, 1) := by decide +kernel
theorem d_BF_isWithin_1 : decode b_BF_isWithin 1 = .ok (.iload_n 1, 1) := by decide +kernel
theorem d_BF_isWithin_2 : decode b_BF_isWithin 2 = .ok (.if_icmp .lt 12, 3) := by decide +kernel
theorem d_BF_isWithin_5 : decode b_BF_isWithin 5 = .ok (.iload_n 0, 1) := by decide +kernel
theorem d_BF_isWithin_6 : decode b_BF_isWithin 6 = .ok (.iload_n 2, 1) := by decide +kernel
theorem d_BF_isWithin_7 : decode b_BF_isWithin 7 = .ok (.if_icmp .gt 7, 3) := by decide +kernel
theorem d_BF_isWithin_10 : decode b_BF_isWithin 10 = .ok (.iconst 1, 1) := by decide +kernel
theorem d_BF_isWithin_11 : decode b_BF_isWithin 11 = .ok (.goto 4, 3) := by decide +kernel
theorem d_BF_isWithin_14 : decode b_BF_isWithin 14 = .ok (.iconst 0, 1) := by decide +kernel
theorem d_BF_isWithin_15 : decode b_BF_isWithin 15 = .ok (.ireturn, 1) := by decide +kernel
theorem d_SP_init_0 : decode b_SP_init 0 = .ok (.aload_n 0, 1) := by decide +kernel
theorem d_SP_init_1 : decode b_SP_init 1 = .ok (.invokespecial 3, 3) := by decide +kernel
theorem d_SP_init_4 : decode b_SP_init 4 = .ok (.return_, 1) := by decide +kernel
theorem d_SP_forget_0 : decode b_SP_forget 0 = .ok (.aload_n 0, 1) := by decide +kernel
theorem d_SP_forget_1 : decode b_SP_forget 1 = .ok (.iconst (-1), 1) := by decide +kernel
theorem d_SP_forget_2 : decode b_SP_forget 2 = .ok (.iconst (-1), 1) := by decide +kernel
theorem d_SP_forget_3 : decode b_SP_forget 3 = .ok (.iconst (-1), 1) := by decide +kernel
theorem d_SP_forget_4 : decode b_SP_forget 4 = .ok (.lload_n 1, 1) := by decide +kernel
theorem d_SP_forget_5 : decode b_SP_forget 5 = .ok (.invokevirtual 9, 3) := by decide +kernel
theorem d_SP_forget_8 : decode b_SP_forget 8 = .ok (.return_, 1) := by decide +kernel
theorem d_SP_become_0 : decode b_SP_become 0 = .ok (.aload_n 0, 1) := by decide +kernel
theorem d_SP_become_1 : decode b_SP_become 1 = .ok (.iload_n 1, 1) := by decide +kernel
theorem d_SP_become_2 : decode b_SP_become 2 = .ok (.putfield 15, 3) := by decide +kernel
theorem d_SP_become_5 : decode b_SP_become 5 = .ok (.aload_n 0, 1) := by decide +kernel
theorem d_SP_become_6 : decode b_SP_become 6 = .ok (.iload_n 2, 1) := by decide +kernel
theorem d_SP_become_7 : decode b_SP_become 7 = .ok (.putfield 19, 3) := by decide +kernel
theorem d_SP_become_10 : decode b_SP_become 10 = .ok (.aload_n 0, 1) := by decide +kernel
theorem d_SP_become_11 : decode b_SP_become 11 = .ok (.iload_n 3, 1) := by decide +kernel
theorem d_SP_become_12 : decode b_SP_become 12 = .ok (.putfield 22, 3) := by decide +kernel
theorem d_SP_become_15 : decode b_SP_become 15 = .ok (.aload_n 0, 1) := by decide +kernel
theorem d_SP_become_16 : decode b_SP_become 16 = .ok (.lload 4, 2) := by decide +kernel
theorem d_SP_become_18 : decode b_SP_become 18 = .ok (.putfield 25, 3) := by decide +kernel
theorem d_SP_become_21 : decode b_SP_become 21 = .ok (.return_, 1) := by decide +kernel
theorem d_SM_init_0 : decode b_SM_init 0 = .ok (.aload_n 0, 1) := by decide +kernel
theorem d_SM_init_1 : decode b_SM_init 1 = .ok (.invokespecial 1, 3) := by decide +kernel
theorem d_SM_init_4 : decode b_SM_init 4 = .ok (.return_, 1) := by decide +kernel
theorem d_SM_empty_0 : decode b_SM_empty 0 = .ok (.aload_n 0, 1) := by decide +kernel
theorem d_SM_empty_1 : decode b_SM_empty 1 = .ok (.iconst 0, 1) := by decide +kernel
theorem d_SM_empty_2 : decode b_SM_empty 2 = .ok (.putfield 7, 3) := by decide +kernel
theorem d_SM_empty_5 : decode b_SM_empty 5 = .ok (.aload_n 0, 1) := by decide +kernel
theorem d_SM_empty_6 : decode b_SM_empty 6 = .ok (.iconst 0, 1) := by decide +kernel
theorem d_SM_empty_7 : decode b_SM_empty 7 = .ok (.putfield 13, 3) := by decide +kernel
theorem d_SM_empty_10 : decode b_SM_empty 10 = .ok (.aload_n 0, 1) := by decide +kernel
theorem d_SM_empty_11 : decode b_SM_empty 11 = .ok (.lconst 0, 1) := by decide +kernel
theorem d_SM_empty_12 : decode b_SM_empty 12 = .ok (.putfield 16, 3) := by decide +kernel
theorem d_SM_empty_15 : decode b_SM_empty 15 = .ok (.return_, 1) := by decide +kernel
theorem d_SM_addRow_0 : decode b_SM_addRow 0 = .ok (.aload_n 0, 1) := by decide +kernel
theorem d_SM_addRow_1 : decode b_SM_addRow 1 = .ok (.dup, 1) := by decide +kernel
theorem d_SM_addRow_2 : decode b_SM_addRow 2 = .ok (.getfield 7, 3) := by decide +kernel
theorem d_SM_addRow_5 : decode b_SM_addRow 5 = .ok (.iconst 1, 1) := by decide +kernel
theorem d_SM_addRow_6 : decode b_SM_addRow 6 = .ok (.iadd, 1) := by decide +kernel
theorem d_SM_addRow_7 : decode b_SM_addRow 7 = .ok (.putfield 7, 3) := by decide +kernel
theorem d_SM_addRow_10 : decode b_SM_addRow 10 = .ok (.aload_n 0, 1) := by decide +kernel
theorem d_SM_addRow_11 : decode b_SM_addRow 11 = .ok (.dup, 1) := by decide +kernel
theorem d_SM_addRow_12 : decode b_SM_addRow 12 = .ok (.getfield 13, 3) := by decide +kernel
theorem d_SM_addRow_15 : decode b_SM_addRow 15 = .ok (.iload_n 3, 1) := by decide +kernel
theorem d_SM_addRow_16 : decode b_SM_addRow 16 = .ok (.iadd, 1) := by decide +kernel
theorem d_SM_addRow_17 : decode b_SM_addRow 17 = .ok (.putfield 13, 3) := by decide +kernel
theorem d_SM_addRow_20 : decode b_SM_addRow 20 = .ok (.aload_n 0, 1) := by decide +kernel
theorem d_SM_addRow_21 : decode b_SM_addRow 21 = .ok (.dup, 1) := by decide +kernel
theorem d_SM_addRow_22 : decode b_SM_addRow 22 = .ok (.getfield 16, 3) := by decide +kernel
theorem d_SM_addRow_25 : decode b_SM_addRow 25 = .ok (.lload_n 1, 1) := by decide +kernel
theorem d_SM_addRow_26 : decode b_SM_addRow 26 = .ok (.ladd, 1) := by decide +kernel
theorem d_SM_addRow_27 : decode b_SM_addRow 27 = .ok (.putfield 16, 3) := by decide +kernel
theorem d_SM_addRow_30 : decode b_SM_addRow 30 = .ok (.return_, 1) := by decide +kernel
theorem d_SM_becomeSum_0 : decode b_SM_becomeSum 0 = .ok (.aload_n 0, 1) := by decide +kernel
theorem d_SM_becomeSum_1 : decode b_SM_becomeSum 1 = .ok (.aload_n 1, 1) := by decide +kernel
theorem d_SM_becomeSum_2 : decode b_SM_becomeSum 2 = .ok (.getfield 7, 3) := by decide +kernel
theorem d_SM_becomeSum_5 : decode b_SM_becomeSum 5 = .ok (.aload_n 2, 1) := by decide +kernel
theorem d_SM_becomeSum_6 : decode b_SM_becomeSum 6 = .ok (.getfield 7, 3) := by decide +kernel
theorem d_SM_becomeSum_9 : decode b_SM_becomeSum 9 = .ok (.iadd, 1) := by decide +kernel
theorem d_SM_becomeSum_10 : decode b_SM_becomeSum 10 = .ok (.putfield 7, 3) := by decide +kernel
theorem d_SM_becomeSum_13 : decode b_SM_becomeSum 13 = .ok (.aload_n 0, 1) := by decide +kernel
theorem d_SM_becomeSum_14 : decode b_SM_becomeSum 14 = .ok (.aload_n 1, 1) := by decide +kernel
theorem d_SM_becomeSum_15 : decode b_SM_becomeSum 15 = .ok (.getfield 13, 3) := by decide +kernel
theorem d_SM_becomeSum_18 : decode b_SM_becomeSum 18 = .ok (.aload_n 2, 1) := by decide +kernel
theorem d_SM_becomeSum_19 : decode b_SM_becomeSum 19 = .ok (.getfield 13, 3) := by decide +kernel
theorem d_SM_becomeSum_22 : decode b_SM_becomeSum 22 = .ok (.iadd, 1) := by decide +kernel
theorem d_SM_becomeSum_23 : decode b_SM_becomeSum 23 = .ok (.putfield 13, 3) := by decide +kernel
theorem d_SM_becomeSum_26 : decode b_SM_becomeSum 26 = .ok (.aload_n 0, 1) := by decide +kernel
theorem d_SM_becomeSum_27 : decode b_SM_becomeSum 27 = .ok (.aload_n 1, 1) := by decide +kernel
theorem d_SM_becomeSum_28 : decode b_SM_becomeSum 28 = .ok (.getfield 16, 3) := by decide +kernel
theorem d_SM_becomeSum_31 : decode b_SM_becomeSum 31 = .ok (.aload_n 2, 1) := by decide +kernel
theorem d_SM_becomeSum_32 : decode b_SM_becomeSum 32 = .ok (.getfield 16, 3) := by decide +kernel
theorem d_SM_becomeSum_35 : decode b_SM_becomeSum 35 = .ok (.ladd, 1) := by decide +kernel
theorem d_SM_becomeSum_36 : decode b_SM_becomeSum 36 = .ok (.putfield 16, 3) := by decide +kernel
theorem d_SM_becomeSum_39 : decode b_SM_becomeSum 39 = .ok (.return_, 1) := by decide +kernel
theorem d_SM_becomeRest_0 : decode b_SM_becomeRest 0 = .ok (.aload_n 0, 1) := by decide +kernel
theorem d_SM_becomeRest_1 : decode b_SM_becomeRest 1 = .ok (.aload_n 1, 1) := by decide +kernel
theorem d_SM_becomeRest_2 : decode b_SM_becomeRest 2 = .ok (.getfield 7, 3) := by decide +kernel
theorem d_SM_becomeRest_5 : decode b_SM_becomeRest 5 = .ok (.aload_n 2, 1) := by decide +kernel
theorem d_SM_becomeRest_6 : decode b_SM_becomeRest 6 = .ok (.getfield 7, 3) := by decide +kernel
theorem d_SM_becomeRest_9 : decode b_SM_becomeRest 9 = .ok (.isub, 1) := by decide +kernel
theorem d_SM_becomeRest_10 : decode b_SM_becomeRest 10 = .ok (.putfield 7, 3) := by decide +kernel
theorem d_SM_becomeRest_13 : decode b_SM_becomeRest 13 = .ok (.aload_n 0, 1) := by decide +kernel
theorem d_SM_becomeRest_14 : decode b_SM_becomeRest 14 = .ok (.aload_n 1, 1) := by decide +kernel
theorem d_SM_becomeRest_15 : decode b_SM_becomeRest 15 = .ok (.getfield 13, 3) := by decide +kernel
theorem d_SM_becomeRest_18 : decode b_SM_becomeRest 18 = .ok (.aload_n 2, 1) := by decide +kernel
theorem d_SM_becomeRest_19 : decode b_SM_becomeRest 19 = .ok (.getfield 13, 3) := by decide +kernel
theorem d_SM_becomeRest_22 : decode b_SM_becomeRest 22 = .ok (.isub, 1) := by decide +kernel
theorem d_SM_becomeRest_23 : decode b_SM_becomeRest 23 = .ok (.putfield 13, 3) := by decide +kernel
theorem d_SM_becomeRest_26 : decode b_SM_becomeRest 26 = .ok (.aload_n 0, 1) := by decide +kernel
theorem d_SM_becomeRest_27 : decode b_SM_becomeRest 27 = .ok (.aload_n 1, 1) := by decide +kernel
theorem d_SM_becomeRest_28 : decode b_SM_becomeRest 28 = .ok (.getfield 16, 3) := by decide +kernel
theorem d_SM_becomeRest_31 : decode b_SM_becomeRest 31 = .ok (.aload_n 2, 1) := by decide +kernel
theorem d_SM_becomeRest_32 : decode b_SM_becomeRest 32 = .ok (.getfield 16, 3) := by decide +kernel
theorem d_SM_becomeRest_35 : decode b_SM_becomeRest 35 = .ok (.lsub, 1) := by decide +kernel
theorem d_SM_becomeRest_36 : decode b_SM_becomeRest 36 = .ok (.putfield 16, 3) := by decide +kernel
theorem d_SM_becomeRest_39 : decode b_SM_becomeRest 39 = .ok (.return_, 1) := by decide +kernel
theorem d_SM_valueWith_0 : decode b_SM_valueWith 0 = .ok (.aload_n 0, 1) := by decide +kernel
theorem d_SM_valueWith_1 : decode b_SM_valueWith 1 = .ok (.getfield 13, 3) := by decide +kernel
theorem d_SM_valueWith_4 : decode b_SM_valueWith 4 = .ok (.i2l, 1) := by decide +kernel
theorem d_SM_valueWith_5 : decode b_SM_valueWith 5 = .ok (.iload_n 1, 1) := by decide +kernel
theorem d_SM_valueWith_6 : decode b_SM_valueWith 6 = .ok (.i2l, 1) := by decide +kernel
theorem d_SM_valueWith_7 : decode b_SM_valueWith 7 = .ok (.ladd, 1) := by decide +kernel
theorem d_SM_valueWith_8 : decode b_SM_valueWith 8 = .ok (.lstore_n 2, 1) := by decide +kernel
theorem d_SM_valueWith_9 : decode b_SM_valueWith 9 = .ok (.lload_n 2, 1) := by decide +kernel
theorem d_SM_valueWith_10 : decode b_SM_valueWith 10 = .ok (.lconst 0, 1) := by decide +kernel
theorem d_SM_valueWith_11 : decode b_SM_valueWith 11 = .ok (.lcmp, 1) := by decide +kernel
theorem d_SM_valueWith_12 : decode b_SM_valueWith 12 = .ok (.ifCond .ne 7, 3) := by decide +kernel
theorem d_SM_valueWith_15 : decode b_SM_valueWith 15 = .ok (.lconst 0, 1) := by decide +kernel
theorem d_SM_valueWith_16 : decode b_SM_valueWith 16 = .ok (.goto 10, 3) := by decide +kernel
theorem d_SM_valueWith_19 : decode b_SM_valueWith 19 = .ok (.aload_n 0, 1) := by decide +kernel
theorem d_SM_valueWith_20 : decode b_SM_valueWith 20 = .ok (.getfield 16, 3) := by decide +kernel
theorem d_SM_valueWith_23 : decode b_SM_valueWith 23 = .ok (.lneg, 1) := by decide +kernel
theorem d_SM_valueWith_24 : decode b_SM_valueWith 24 = .ok (.lload_n 2, 1) := by decide +kernel
theorem d_SM_valueWith_25 : decode b_SM_valueWith 25 = .ok (.ldiv, 1) := by decide +kernel
theorem d_SM_valueWith_26 : decode b_SM_valueWith 26 = .ok (.lreturn, 1) := by decide +kernel
theorem d_SM_worthWith_0 : decode b_SM_worthWith 0 = .ok (.aload_n 0, 1) := by decide +kernel
theorem d_SM_worthWith_1 : decode b_SM_worthWith 1 = .ok (.getfield 13, 3) := by decide +kernel
theorem d_SM_worthWith_4 : decode b_SM_worthWith 4 = .ok (.i2l, 1) := by decide +kernel
theorem d_SM_worthWith_5 : decode b_SM_worthWith 5 = .ok (.iload_n 1, 1) := by decide +kernel
theorem d_SM_worthWith_6 : decode b_SM_worthWith 6 = .ok (.i2l, 1) := by decide +kernel
theorem d_SM_worthWith_7 : decode b_SM_worthWith 7 = .ok (.ladd, 1) := by decide +kernel
theorem d_SM_worthWith_8 : decode b_SM_worthWith 8 = .ok (.lstore_n 2, 1) := by decide +kernel
theorem d_SM_worthWith_9 : decode b_SM_worthWith 9 = .ok (.lload_n 2, 1) := by decide +kernel
theorem d_SM_worthWith_10 : decode b_SM_worthWith 10 = .ok (.lconst 0, 1) := by decide +kernel
theorem d_SM_worthWith_11 : decode b_SM_worthWith 11 = .ok (.lcmp, 1) := by decide +kernel
theorem d_SM_worthWith_12 : decode b_SM_worthWith 12 = .ok (.ifCond .ne 7, 3) := by decide +kernel
theorem d_SM_worthWith_15 : decode b_SM_worthWith 15 = .ok (.lconst 0, 1) := by decide +kernel
theorem d_SM_worthWith_16 : decode b_SM_worthWith 16 = .ok (.goto 14, 3) := by decide +kernel
theorem d_SM_worthWith_19 : decode b_SM_worthWith 19 = .ok (.aload_n 0, 1) := by decide +kernel
theorem d_SM_worthWith_20 : decode b_SM_worthWith 20 = .ok (.getfield 16, 3) := by decide +kernel
theorem d_SM_worthWith_23 : decode b_SM_worthWith 23 = .ok (.aload_n 0, 1) := by decide +kernel
theorem d_SM_worthWith_24 : decode b_SM_worthWith 24 = .ok (.getfield 16, 3) := by decide +kernel
theorem d_SM_worthWith_27 : decode b_SM_worthWith 27 = .ok (.lmul, 1) := by decide +kernel
theorem d_SM_worthWith_28 : decode b_SM_worthWith 28 = .ok (.lload_n 2, 1) := by decide +kernel
theorem d_SM_worthWith_29 : decode b_SM_worthWith 29 = .ok (.ldiv, 1) := by decide +kernel
theorem d_SM_worthWith_30 : decode b_SM_worthWith 30 = .ok (.lreturn, 1) := by decide +kernel
theorem d_TB_init_0 : decode b_TB_init 0 = .ok (.aload_n 0, 1) := by decide +kernel
theorem d_TB_init_1 : decode b_TB_init 1 = .ok (.invokespecial 3, 3) := by decide +kernel
theorem d_TB_init_4 : decode b_TB_init 4 = .ok (.aload_n 0, 1) := by decide +kernel
theorem d_TB_init_5 : decode b_TB_init 5 = .ok (.bipush 40, 2) := by decide +kernel
theorem d_TB_init_7 : decode b_TB_init 7 = .ok (.iconst 4, 1) := by decide +kernel
theorem d_TB_init_8 : decode b_TB_init 8 = .ok (.multianewarray 9 2, 4) := by decide +kernel
theorem d_TB_init_12 : decode b_TB_init 12 = .ok (.putfield 11, 3) := by decide +kernel
theorem d_TB_init_15 : decode b_TB_init 15 = .ok (.aload_n 0, 1) := by decide +kernel
theorem d_TB_init_16 : decode b_TB_init 16 = .ok (.bipush 40, 2) := by decide +kernel
theorem d_TB_init_18 : decode b_TB_init 18 = .ok (.newarray .int, 2) := by decide +kernel
theorem d_TB_init_20 : decode b_TB_init 20 = .ok (.putfield 16, 3) := by decide +kernel
theorem d_TB_init_23 : decode b_TB_init 23 = .ok (.aload_n 0, 1) := by decide +kernel
theorem d_TB_init_24 : decode b_TB_init 24 = .ok (.bipush 40, 2) := by decide +kernel
theorem d_TB_init_26 : decode b_TB_init 26 = .ok (.newarray .int, 2) := by decide +kernel
theorem d_TB_init_28 : decode b_TB_init 28 = .ok (.putfield 20, 3) := by decide +kernel
theorem d_TB_init_31 : decode b_TB_init 31 = .ok (.aload_n 0, 1) := by decide +kernel
theorem d_TB_init_32 : decode b_TB_init 32 = .ok (.bipush 40, 2) := by decide +kernel
theorem d_TB_init_34 : decode b_TB_init 34 = .ok (.newarray .boolean, 2) := by decide +kernel
theorem d_TB_init_36 : decode b_TB_init 36 = .ok (.putfield 23, 3) := by decide +kernel
theorem d_TB_init_39 : decode b_TB_init 39 = .ok (.return_, 1) := by decide +kernel
theorem d_TB_append_0 : decode b_TB_append 0 = .ok (.aload_n 0, 1) := by decide +kernel
theorem d_TB_append_1 : decode b_TB_append 1 = .ok (.getfield 27, 3) := by decide +kernel
theorem d_TB_append_4 : decode b_TB_append 4 = .ok (.bipush 40, 2) := by decide +kernel
theorem d_TB_append_6 : decode b_TB_append 6 = .ok (.if_icmp .lt 6, 3) := by decide +kernel
theorem d_TB_append_9 : decode b_TB_append 9 = .ok (.bipush (-2), 2) := by decide +kernel
theorem d_TB_append_11 : decode b_TB_append 11 = .ok (.ireturn, 1) := by decide +kernel
theorem d_TB_append_12 : decode b_TB_append 12 = .ok (.aload_n 0, 1) := by decide +kernel
theorem d_TB_append_13 : decode b_TB_append 13 = .ok (.getfield 27, 3) := by decide +kernel
theorem d_TB_append_16 : decode b_TB_append 16 = .ok (.istore 4, 2) := by decide +kernel
theorem d_TB_append_18 : decode b_TB_append 18 = .ok (.aload_n 1, 1) := by decide +kernel
theorem d_TB_append_19 : decode b_TB_append 19 = .ok (.iconst 0, 1) := by decide +kernel
theorem d_TB_append_20 : decode b_TB_append 20 = .ok (.aload_n 0, 1) := by decide +kernel
theorem d_TB_append_21 : decode b_TB_append 21 = .ok (.getfield 11, 3) := by decide +kernel
theorem d_TB_append_24 : decode b_TB_append 24 = .ok (.iload 4, 2) := by decide +kernel
theorem d_TB_append_26 : decode b_TB_append 26 = .ok (.aaload, 1) := by decide +kernel
theorem d_TB_append_27 : decode b_TB_append 27 = .ok (.iconst 0, 1) := by decide +kernel
theorem d_TB_append_28 : decode b_TB_append 28 = .ok (.iconst 4, 1) := by decide +kernel
theorem d_TB_append_29 : decode b_TB_append 29 = .ok (.invokestatic 31, 3) := by decide +kernel
theorem d_TB_append_32 : decode b_TB_append 32 = .ok (.aload_n 0, 1) := by decide +kernel
theorem d_TB_append_33 : decode b_TB_append 33 = .ok (.getfield 16, 3) := by decide +kernel
theorem d_TB_append_36 : decode b_TB_append 36 = .ok (.iload 4, 2) := by decide +kernel
theorem d_TB_append_38 : decode b_TB_append 38 = .ok (.iload_n 2, 1) := by decide +kernel
theorem d_TB_append_39 : decode b_TB_append 39 = .ok (.iastore, 1) := by decide +kernel
theorem d_TB_append_40 : decode b_TB_append 40 = .ok (.aload_n 0, 1) := by decide +kernel
theorem d_TB_append_41 : decode b_TB_append 41 = .ok (.getfield 20, 3) := by decide +kernel
theorem d_TB_append_44 : decode b_TB_append 44 = .ok (.iload 4, 2) := by decide +kernel
theorem d_TB_append_46 : decode b_TB_append 46 = .ok (.iload_n 3, 1) := by decide +kernel
theorem d_TB_append_47 : decode b_TB_append 47 = .ok (.iastore, 1) := by decide +kernel
theorem d_TB_append_48 : decode b_TB_append 48 = .ok (.aload_n 0, 1) := by decide +kernel
theorem d_TB_append_49 : decode b_TB_append 49 = .ok (.getfield 23, 3) := by decide +kernel
theorem d_TB_append_52 : decode b_TB_append 52 = .ok (.iload 4, 2) := by decide +kernel
theorem d_TB_append_54 : decode b_TB_append 54 = .ok (.iconst 0, 1) := by decide +kernel
theorem d_TB_append_55 : decode b_TB_append 55 = .ok (.bastore, 1) := by decide +kernel
theorem d_TB_append_56 : decode b_TB_append 56 = .ok (.aload_n 0, 1) := by decide +kernel
theorem d_TB_append_57 : decode b_TB_append 57 = .ok (.iload 4, 2) := by decide +kernel
theorem d_TB_append_59 : decode b_TB_append 59 = .ok (.iconst 1, 1) := by decide +kernel
theorem d_TB_append_60 : decode b_TB_append 60 = .ok (.iadd, 1) := by decide +kernel
theorem d_TB_append_61 : decode b_TB_append 61 = .ok (.putfield 27, 3) := by decide +kernel
theorem d_TB_append_64 : decode b_TB_append 64 = .ok (.iload 4, 2) := by decide +kernel
theorem d_TB_append_66 : decode b_TB_append 66 = .ok (.ireturn, 1) := by decide +kernel
theorem d_TB_heldRows_0 : decode b_TB_heldRows 0 = .ok (.iconst 0, 1) := by decide +kernel
theorem d_TB_heldRows_1 : decode b_TB_heldRows 1 = .ok (.istore_n 1, 1) := by decide +kernel
theorem d_TB_heldRows_2 : decode b_TB_heldRows 2 = .ok (.iconst 0, 1) := by decide +kernel
theorem d_TB_heldRows_3 : decode b_TB_heldRows 3 = .ok (.istore_n 2, 1) := by decide +kernel
theorem d_TB_heldRows_4 : decode b_TB_heldRows 4 = .ok (.iload_n 2, 1) := by decide +kernel
theorem d_TB_heldRows_5 : decode b_TB_heldRows 5 = .ok (.aload_n 0, 1) := by decide +kernel
theorem d_TB_heldRows_6 : decode b_TB_heldRows 6 = .ok (.getfield 27, 3) := by decide +kernel
theorem d_TB_heldRows_9 : decode b_TB_heldRows 9 = .ok (.if_icmp .ge 21, 3) := by decide +kernel
theorem d_TB_heldRows_12 : decode b_TB_heldRows 12 = .ok (.aload_n 0, 1) := by decide +kernel
theorem d_TB_heldRows_13 : decode b_TB_heldRows 13 = .ok (.getfield 23, 3) := by decide +kernel
theorem d_TB_heldRows_16 : decode b_TB_heldRows 16 = .ok (.iload_n 2, 1) := by decide +kernel
theorem d_TB_heldRows_17 : decode b_TB_heldRows 17 = .ok (.baload, 1) := by decide +kernel
theorem d_TB_heldRows_18 : decode b_TB_heldRows 18 = .ok (.ifCond .eq 6, 3) := by decide +kernel
theorem d_TB_heldRows_21 : decode b_TB_heldRows 21 = .ok (.iinc 1 1, 3) := by decide +kernel
theorem d_TB_heldRows_24 : decode b_TB_heldRows 24 = .ok (.iinc 2 1, 3) := by decide +kernel
theorem d_TB_heldRows_27 : decode b_TB_heldRows 27 = .ok (.goto (-23), 3) := by decide +kernel
theorem d_TB_heldRows_30 : decode b_TB_heldRows 30 = .ok (.iload_n 1, 1) := by decide +kernel
theorem d_TB_heldRows_31 : decode b_TB_heldRows 31 = .ok (.ireturn, 1) := by decide +kernel
theorem d_TB_copyFrom_0 : decode b_TB_copyFrom 0 = .ok (.aload_n 0, 1) := by decide +kernel
theorem d_TB_copyFrom_1 : decode b_TB_copyFrom 1 = .ok (.iconst 0, 1) := by decide +kernel
theorem d_TB_copyFrom_2 : decode b_TB_copyFrom 2 = .ok (.putfield 27, 3) := by decide +kernel
theorem d_TB_copyFrom_5 : decode b_TB_copyFrom 5 = .ok (.iconst 0, 1) := by decide +kernel
theorem d_TB_copyFrom_6 : decode b_TB_copyFrom 6 = .ok (.istore_n 2, 1) := by decide +kernel
theorem d_TB_copyFrom_7 : decode b_TB_copyFrom 7 = .ok (.iload_n 2, 1) := by decide +kernel
theorem d_TB_copyFrom_8 : decode b_TB_copyFrom 8 = .ok (.aload_n 1, 1) := by decide +kernel
theorem d_TB_copyFrom_9 : decode b_TB_copyFrom 9 = .ok (.getfield 27, 3) := by decide +kernel
theorem d_TB_copyFrom_12 : decode b_TB_copyFrom 12 = .ok (.if_icmp .ge 44, 3) := by decide +kernel
theorem d_TB_copyFrom_15 : decode b_TB_copyFrom 15 = .ok (.aload_n 0, 1) := by decide +kernel
theorem d_TB_copyFrom_16 : decode b_TB_copyFrom 16 = .ok (.aload_n 1, 1) := by decide +kernel
theorem d_TB_copyFrom_17 : decode b_TB_copyFrom 17 = .ok (.getfield 11, 3) := by decide +kernel
theorem d_TB_copyFrom_20 : decode b_TB_copyFrom 20 = .ok (.iload_n 2, 1) := by decide +kernel
theorem d_TB_copyFrom_21 : decode b_TB_copyFrom 21 = .ok (.aaload, 1) := by decide +kernel
theorem d_TB_copyFrom_22 : decode b_TB_copyFrom 22 = .ok (.aload_n 1, 1) := by decide +kernel
theorem d_TB_copyFrom_23 : decode b_TB_copyFrom 23 = .ok (.getfield 16, 3) := by decide +kernel
theorem d_TB_copyFrom_26 : decode b_TB_copyFrom 26 = .ok (.iload_n 2, 1) := by decide +kernel
theorem d_TB_copyFrom_27 : decode b_TB_copyFrom 27 = .ok (.iaload, 1) := by decide +kernel
theorem d_TB_copyFrom_28 : decode b_TB_copyFrom 28 = .ok (.aload_n 1, 1) := by decide +kernel
theorem d_TB_copyFrom_29 : decode b_TB_copyFrom 29 = .ok (.getfield 20, 3) := by decide +kernel
theorem d_TB_copyFrom_32 : decode b_TB_copyFrom 32 = .ok (.iload_n 2, 1) := by decide +kernel
theorem d_TB_copyFrom_33 : decode b_TB_copyFrom 33 = .ok (.iaload, 1) := by decide +kernel
theorem d_TB_copyFrom_34 : decode b_TB_copyFrom 34 = .ok (.invokevirtual 37, 3) := by decide +kernel
theorem d_TB_copyFrom_37 : decode b_TB_copyFrom 37 = .ok (.pop, 1) := by decide +kernel
theorem d_TB_copyFrom_38 : decode b_TB_copyFrom 38 = .ok (.aload_n 0, 1) := by decide +kernel
theorem d_TB_copyFrom_39 : decode b_TB_copyFrom 39 = .ok (.getfield 23, 3) := by decide +kernel
theorem d_TB_copyFrom_42 : decode b_TB_copyFrom 42 = .ok (.iload_n 2, 1) := by decide +kernel
theorem d_TB_copyFrom_43 : decode b_TB_copyFrom 43 = .ok (.aload_n 1, 1) := by decide +kernel
theorem d_TB_copyFrom_44 : decode b_TB_copyFrom 44 = .ok (.getfield 23, 3) := by decide +kernel
theorem d_TB_copyFrom_47 : decode b_TB_copyFrom 47 = .ok (.iload_n 2, 1) := by decide +kernel
theorem d_TB_copyFrom_48 : decode b_TB_copyFrom 48 = .ok (.baload, 1) := by decide +kernel
theorem d_TB_copyFrom_49 : decode b_TB_copyFrom 49 = .ok (.bastore, 1) := by decide +kernel
theorem d_TB_copyFrom_50 : decode b_TB_copyFrom 50 = .ok (.iinc 2 1, 3) := by decide +kernel
theorem d_TB_copyFrom_53 : decode b_TB_copyFrom 53 = .ok (.goto (-46), 3) := by decide +kernel
theorem d_TB_copyFrom_56 : decode b_TB_copyFrom 56 = .ok (.return_, 1) := by decide +kernel
end
section
theorem d_GR_init_0 : decode b_GR_init 0 = .ok (.aload_n 0, 1) := by decide +kernel
theorem d_GR_init_1 : decode b_GR_init 1 = .ok (.invokespecial 3, 3) := by decide +kernel
theorem d_GR_init_4 : decode b_GR_init 4 = .ok (.aload_n 0, 1) := by decide +kernel
theorem d_GR_init_5 : decode b_GR_init 5 = .ok (.new 9, 3) := by decide +kernel
theorem d_GR_init_8 : decode b_GR_init 8 = .ok (.dup, 1) := by decide +kernel
theorem d_GR_init_9 : decode b_GR_init 9 = .ok (.invokespecial 11, 3) := by decide +kernel
theorem d_GR_init_12 : decode b_GR_init 12 = .ok (.putfield 12, 3) := by decide +kernel
theorem d_GR_init_15 : decode b_GR_init 15 = .ok (.aload_n 0, 1) := by decide +kernel
theorem d_GR_init_16 : decode b_GR_init 16 = .ok (.bipush 15, 2) := by decide +kernel
theorem d_GR_init_18 : decode b_GR_init 18 = .ok (.newarray .int, 2) := by decide +kernel
theorem d_GR_init_20 : decode b_GR_init 20 = .ok (.putfield 18, 3) := by decide +kernel
theorem d_GR_init_23 : decode b_GR_init 23 = .ok (.aload_n 0, 1) := by decide +kernel
theorem d_GR_init_24 : decode b_GR_init 24 = .ok (.iconst 4, 1) := by decide +kernel
theorem d_GR_init_25 : decode b_GR_init 25 = .ok (.bipush 40, 2) := by decide +kernel
theorem d_GR_init_27 : decode b_GR_init 27 = .ok (.multianewarray 22 2, 4) := by decide +kernel
theorem d_GR_init_31 : decode b_GR_init 31 = .ok (.putfield 24, 3) := by decide +kernel
theorem d_GR_init_34 : decode b_GR_init 34 = .ok (.aload_n 0, 1) := by decide +kernel
theorem d_GR_init_35 : decode b_GR_init 35 = .ok (.bipush 40, 2) := by decide +kernel
theorem d_GR_init_37 : decode b_GR_init 37 = .ok (.newarray .int, 2) := by decide +kernel
theorem d_GR_init_39 : decode b_GR_init 39 = .ok (.putfield 27, 3) := by decide +kernel
theorem d_GR_init_42 : decode b_GR_init 42 = .ok (.aload_n 0, 1) := by decide +kernel
theorem d_GR_init_43 : decode b_GR_init 43 = .ok (.bipush 40, 2) := by decide +kernel
theorem d_GR_init_45 : decode b_GR_init 45 = .ok (.newarray .long, 2) := by decide +kernel
theorem d_GR_init_47 : decode b_GR_init 47 = .ok (.putfield 30, 3) := by decide +kernel
theorem d_GR_init_50 : decode b_GR_init 50 = .ok (.aload_n 0, 1) := by decide +kernel
theorem d_GR_init_51 : decode b_GR_init 51 = .ok (.new 34, 3) := by decide +kernel
theorem d_GR_init_54 : decode b_GR_init 54 = .ok (.dup, 1) := by decide +kernel
theorem d_GR_init_55 : decode b_GR_init 55 = .ok (.invokespecial 36, 3) := by decide +kernel
theorem d_GR_init_58 : decode b_GR_init 58 = .ok (.putfield 37, 3) := by decide +kernel
theorem d_GR_init_61 : decode b_GR_init 61 = .ok (.aload_n 0, 1) := by decide +kernel
theorem d_GR_init_62 : decode b_GR_init 62 = .ok (.new 34, 3) := by decide +kernel
theorem d_GR_init_65 : decode b_GR_init 65 = .ok (.dup, 1) := by decide +kernel
theorem d_GR_init_66 : decode b_GR_init 66 = .ok (.invokespecial 36, 3) := by decide +kernel
theorem d_GR_init_69 : decode b_GR_init 69 = .ok (.putfield 41, 3) := by decide +kernel
theorem d_GR_init_72 : decode b_GR_init 72 = .ok (.aload_n 0, 1) := by decide +kernel
theorem d_GR_init_73 : decode b_GR_init 73 = .ok (.new 34, 3) := by decide +kernel
theorem d_GR_init_76 : decode b_GR_init 76 = .ok (.dup, 1) := by decide +kernel
theorem d_GR_init_77 : decode b_GR_init 77 = .ok (.invokespecial 36, 3) := by decide +kernel
theorem d_GR_init_80 : decode b_GR_init 80 = .ok (.putfield 44, 3) := by decide +kernel
theorem d_GR_init_83 : decode b_GR_init 83 = .ok (.aload_n 0, 1) := by decide +kernel
theorem d_GR_init_84 : decode b_GR_init 84 = .ok (.new 34, 3) := by decide +kernel
theorem d_GR_init_87 : decode b_GR_init 87 = .ok (.dup, 1) := by decide +kernel
theorem d_GR_init_88 : decode b_GR_init 88 = .ok (.invokespecial 36, 3) := by decide +kernel
theorem d_GR_init_91 : decode b_GR_init 91 = .ok (.putfield 47, 3) := by decide +kernel
theorem d_GR_init_94 : decode b_GR_init 94 = .ok (.aload_n 0, 1) := by decide +kernel
theorem d_GR_init_95 : decode b_GR_init 95 = .ok (.new 34, 3) := by decide +kernel
theorem d_GR_init_98 : decode b_GR_init 98 = .ok (.dup, 1) := by decide +kernel
theorem d_GR_init_99 : decode b_GR_init 99 = .ok (.invokespecial 36, 3) := by decide +kernel
theorem d_GR_init_102 : decode b_GR_init 102 = .ok (.putfield 50, 3) := by decide +kernel
theorem d_GR_init_105 : decode b_GR_init 105 = .ok (.aload_n 0, 1) := by decide +kernel
theorem d_GR_init_106 : decode b_GR_init 106 = .ok (.new 34, 3) := by decide +kernel
theorem d_GR_init_109 : decode b_GR_init 109 = .ok (.dup, 1) := by decide +kernel
theorem d_GR_init_110 : decode b_GR_init 110 = .ok (.invokespecial 36, 3) := by decide +kernel
theorem d_GR_init_113 : decode b_GR_init 113 = .ok (.putfield 53, 3) := by decide +kernel
theorem d_GR_init_116 : decode b_GR_init 116 = .ok (.aload_n 0, 1) := by decide +kernel
theorem d_GR_init_117 : decode b_GR_init 117 = .ok (.new 56, 3) := by decide +kernel
theorem d_GR_init_120 : decode b_GR_init 120 = .ok (.dup, 1) := by decide +kernel
theorem d_GR_init_121 : decode b_GR_init 121 = .ok (.invokespecial 58, 3) := by decide +kernel
theorem d_GR_init_124 : decode b_GR_init 124 = .ok (.putfield 59, 3) := by decide +kernel
theorem d_GR_init_127 : decode b_GR_init 127 = .ok (.return_, 1) := by decide +kernel
theorem d_GR_sortRows_0 : decode b_GR_sortRows 0 = .ok (.iconst 0, 1) := by decide +kernel
theorem d_GR_sortRows_1 : decode b_GR_sortRows 1 = .ok (.istore_n 1, 1) := by decide +kernel
theorem d_GR_sortRows_2 : decode b_GR_sortRows 2 = .ok (.iload_n 1, 1) := by decide +kernel
theorem d_GR_sortRows_3 : decode b_GR_sortRows 3 = .ok (.iconst 4, 1) := by decide +kernel
theorem d_GR_sortRows_4 : decode b_GR_sortRows 4 = .ok (.if_icmp .ge 101, 3) := by decide +kernel
theorem d_GR_sortRows_7 : decode b_GR_sortRows 7 = .ok (.iconst 0, 1) := by decide +kernel
theorem d_GR_sortRows_8 : decode b_GR_sortRows 8 = .ok (.istore_n 2, 1) := by decide +kernel
theorem d_GR_sortRows_9 : decode b_GR_sortRows 9 = .ok (.iload_n 2, 1) := by decide +kernel
theorem d_GR_sortRows_10 : decode b_GR_sortRows 10 = .ok (.aload_n 0, 1) := by decide +kernel
theorem d_GR_sortRows_11 : decode b_GR_sortRows 11 = .ok (.getfield 12, 3) := by decide +kernel
theorem d_GR_sortRows_14 : decode b_GR_sortRows 14 = .ok (.getfield 63, 3) := by decide +kernel
theorem d_GR_sortRows_17 : decode b_GR_sortRows 17 = .ok (.if_icmp .ge 82, 3) := by decide +kernel
theorem d_GR_sortRows_20 : decode b_GR_sortRows 20 = .ok (.iload_n 2, 1) := by decide +kernel
theorem d_GR_sortRows_21 : decode b_GR_sortRows 21 = .ok (.istore_n 3, 1) := by decide +kernel
theorem d_GR_sortRows_22 : decode b_GR_sortRows 22 = .ok (.iload_n 3, 1) := by decide +kernel
theorem d_GR_sortRows_23 : decode b_GR_sortRows 23 = .ok (.ifCond .le 61, 3) := by decide +kernel
theorem d_GR_sortRows_26 : decode b_GR_sortRows 26 = .ok (.aload_n 0, 1) := by decide +kernel
theorem d_GR_sortRows_27 : decode b_GR_sortRows 27 = .ok (.getfield 12, 3) := by decide +kernel
theorem d_GR_sortRows_30 : decode b_GR_sortRows 30 = .ok (.getfield 67, 3) := by decide +kernel
theorem d_GR_sortRows_33 : decode b_GR_sortRows 33 = .ok (.aload_n 0, 1) := by decide +kernel
theorem d_GR_sortRows_34 : decode b_GR_sortRows 34 = .ok (.getfield 24, 3) := by decide +kernel
theorem d_GR_sortRows_37 : decode b_GR_sortRows 37 = .ok (.iload_n 1, 1) := by decide +kernel
theorem d_GR_sortRows_38 : decode b_GR_sortRows 38 = .ok (.aaload, 1) := by decide +kernel
theorem d_GR_sortRows_39 : decode b_GR_sortRows 39 = .ok (.iload_n 3, 1) := by decide +kernel
theorem d_GR_sortRows_40 : decode b_GR_sortRows 40 = .ok (.iconst 1, 1) := by decide +kernel
theorem d_GR_sortRows_41 : decode b_GR_sortRows 41 = .ok (.isub, 1) := by decide +kernel
theorem d_GR_sortRows_42 : decode b_GR_sortRows 42 = .ok (.iaload, 1) := by decide +kernel
theorem d_GR_sortRows_43 : decode b_GR_sortRows 43 = .ok (.aaload, 1) := by decide +kernel
theorem d_GR_sortRows_44 : decode b_GR_sortRows 44 = .ok (.iload_n 1, 1) := by decide +kernel
theorem d_GR_sortRows_45 : decode b_GR_sortRows 45 = .ok (.iaload, 1) := by decide +kernel
theorem d_GR_sortRows_46 : decode b_GR_sortRows 46 = .ok (.aload_n 0, 1) := by decide +kernel
theorem d_GR_sortRows_47 : decode b_GR_sortRows 47 = .ok (.getfield 12, 3) := by decide +kernel
theorem d_GR_sortRows_50 : decode b_GR_sortRows 50 = .ok (.getfield 67, 3) := by decide +kernel
theorem d_GR_sortRows_53 : decode b_GR_sortRows 53 = .ok (.iload_n 2, 1) := by decide +kernel
theorem d_GR_sortRows_54 : decode b_GR_sortRows 54 = .ok (.aaload, 1) := by decide +kernel
theorem d_GR_sortRows_55 : decode b_GR_sortRows 55 = .ok (.iload_n 1, 1) := by decide +kernel
theorem d_GR_sortRows_56 : decode b_GR_sortRows 56 = .ok (.iaload, 1) := by decide +kernel
theorem d_GR_sortRows_57 : decode b_GR_sortRows 57 = .ok (.if_icmp .le 27, 3) := by decide +kernel
theorem d_GR_sortRows_60 : decode b_GR_sortRows 60 = .ok (.aload_n 0, 1) := by decide +kernel
theorem d_GR_sortRows_61 : decode b_GR_sortRows 61 = .ok (.getfield 24, 3) := by decide +kernel
theorem d_GR_sortRows_64 : decode b_GR_sortRows 64 = .ok (.iload_n 1, 1) := by decide +kernel
theorem d_GR_sortRows_65 : decode b_GR_sortRows 65 = .ok (.aaload, 1) := by decide +kernel
theorem d_GR_sortRows_66 : decode b_GR_sortRows 66 = .ok (.iload_n 3, 1) := by decide +kernel
theorem d_GR_sortRows_67 : decode b_GR_sortRows 67 = .ok (.aload_n 0, 1) := by decide +kernel
theorem d_GR_sortRows_68 : decode b_GR_sortRows 68 = .ok (.getfield 24, 3) := by decide +kernel
theorem d_GR_sortRows_71 : decode b_GR_sortRows 71 = .ok (.iload_n 1, 1) := by decide +kernel
theorem d_GR_sortRows_72 : decode b_GR_sortRows 72 = .ok (.aaload, 1) := by decide +kernel
theorem d_GR_sortRows_73 : decode b_GR_sortRows 73 = .ok (.iload_n 3, 1) := by decide +kernel
theorem d_GR_sortRows_74 : decode b_GR_sortRows 74 = .ok (.iconst 1, 1) := by decide +kernel
theorem d_GR_sortRows_75 : decode b_GR_sortRows 75 = .ok (.isub, 1) := by decide +kernel
theorem d_GR_sortRows_76 : decode b_GR_sortRows 76 = .ok (.iaload, 1) := by decide +kernel
theorem d_GR_sortRows_77 : decode b_GR_sortRows 77 = .ok (.iastore, 1) := by decide +kernel
theorem d_GR_sortRows_78 : decode b_GR_sortRows 78 = .ok (.iinc 3 (-1), 3) := by decide +kernel
theorem d_GR_sortRows_81 : decode b_GR_sortRows 81 = .ok (.goto (-59), 3) := by decide +kernel
theorem d_GR_sortRows_84 : decode b_GR_sortRows 84 = .ok (.aload_n 0, 1) := by decide +kernel
theorem d_GR_sortRows_85 : decode b_GR_sortRows 85 = .ok (.getfield 24, 3) := by decide +kernel
theorem d_GR_sortRows_88 : decode b_GR_sortRows 88 = .ok (.iload_n 1, 1) := by decide +kernel
theorem d_GR_sortRows_89 : decode b_GR_sortRows 89 = .ok (.aaload, 1) := by decide +kernel
theorem d_GR_sortRows_90 : decode b_GR_sortRows 90 = .ok (.iload_n 3, 1) := by decide +kernel
theorem d_GR_sortRows_91 : decode b_GR_sortRows 91 = .ok (.iload_n 2, 1) := by decide +kernel
theorem d_GR_sortRows_92 : decode b_GR_sortRows 92 = .ok (.iastore, 1) := by decide +kernel
theorem d_GR_sortRows_93 : decode b_GR_sortRows 93 = .ok (.iinc 2 1, 3) := by decide +kernel
theorem d_GR_sortRows_96 : decode b_GR_sortRows 96 = .ok (.goto (-87), 3) := by decide +kernel
theorem d_GR_sortRows_99 : decode b_GR_sortRows 99 = .ok (.iinc 1 1, 3) := by decide +kernel
theorem d_GR_sortRows_102 : decode b_GR_sortRows 102 = .ok (.goto (-100), 3) := by decide +kernel
theorem d_GR_sortRows_105 : decode b_GR_sortRows 105 = .ok (.return_, 1) := by decide +kernel
theorem d_GR_growTree_0 : decode b_GR_growTree 0 = .ok (.aload_n 0, 1) := by decide +kernel
theorem d_GR_growTree_1 : decode b_GR_growTree 1 = .ok (.iload_n 2, 1) := by decide +kernel
theorem d_GR_growTree_2 : decode b_GR_growTree 2 = .ok (.aload_n 3, 1) := by decide +kernel
theorem d_GR_growTree_3 : decode b_GR_growTree 3 = .ok (.invokevirtual 70, 3) := by decide +kernel
theorem d_GR_growTree_6 : decode b_GR_growTree 6 = .ok (.aload_n 1, 1) := by decide +kernel
theorem d_GR_growTree_7 : decode b_GR_growTree 7 = .ok (.iconst 0, 1) := by decide +kernel
theorem d_GR_growTree_8 : decode b_GR_growTree 8 = .ok (.putfield 74, 3) := by decide +kernel
theorem d_GR_growTree_11 : decode b_GR_growTree 11 = .ok (.aload_n 1, 1) := by decide +kernel
theorem d_GR_growTree_12 : decode b_GR_growTree 12 = .ok (.iconst 0, 1) := by decide +kernel
theorem d_GR_growTree_13 : decode b_GR_growTree 13 = .ok (.invokevirtual 79, 3) := by decide +kernel
theorem d_GR_growTree_16 : decode b_GR_growTree 16 = .ok (.iconst 0, 1) := by decide +kernel
theorem d_GR_growTree_17 : decode b_GR_growTree 17 = .ok (.istore 4, 2) := by decide +kernel
theorem d_GR_growTree_19 : decode b_GR_growTree 19 = .ok (.iload 4, 2) := by decide +kernel
theorem d_GR_growTree_21 : decode b_GR_growTree 21 = .ok (.aload_n 1, 1) := by decide +kernel
theorem d_GR_growTree_22 : decode b_GR_growTree 22 = .ok (.getfield 74, 3) := by decide +kernel
theorem d_GR_growTree_25 : decode b_GR_growTree 25 = .ok (.if_icmp .ge 88, 3) := by decide +kernel
theorem d_GR_growTree_28 : decode b_GR_growTree 28 = .ok (.iload 4, 2) := by decide +kernel
theorem d_GR_growTree_30 : decode b_GR_growTree 30 = .ok (.bipush 31, 2) := by decide +kernel
theorem d_GR_growTree_32 : decode b_GR_growTree 32 = .ok (.if_icmp .ge 81, 3) := by decide +kernel
theorem d_GR_growTree_35 : decode b_GR_growTree 35 = .ok (.aload_n 0, 1) := by decide +kernel
theorem d_GR_growTree_36 : decode b_GR_growTree 36 = .ok (.iload 4, 2) := by decide +kernel
theorem d_GR_growTree_38 : decode b_GR_growTree 38 = .ok (.invokevirtual 83, 3) := by decide +kernel
theorem d_GR_growTree_41 : decode b_GR_growTree 41 = .ok (.aload_n 1, 1) := by decide +kernel
theorem d_GR_growTree_42 : decode b_GR_growTree 42 = .ok (.iload 4, 2) := by decide +kernel
theorem d_GR_growTree_44 : decode b_GR_growTree 44 = .ok (.aload_n 0, 1) := by decide +kernel
theorem d_GR_growTree_45 : decode b_GR_growTree 45 = .ok (.getfield 37, 3) := by decide +kernel
theorem d_GR_growTree_48 : decode b_GR_growTree 48 = .ok (.aload_n 0, 1) := by decide +kernel
theorem d_GR_growTree_49 : decode b_GR_growTree 49 = .ok (.getfield 18, 3) := by decide +kernel
theorem d_GR_growTree_52 : decode b_GR_growTree 52 = .ok (.iconst 2, 1) := by decide +kernel
theorem d_GR_growTree_53 : decode b_GR_growTree 53 = .ok (.iaload, 1) := by decide +kernel
theorem d_GR_growTree_54 : decode b_GR_growTree 54 = .ok (.invokevirtual 86, 3) := by decide +kernel
theorem d_GR_growTree_57 : decode b_GR_growTree 57 = .ok (.aload_n 1, 1) := by decide +kernel
theorem d_GR_growTree_58 : decode b_GR_growTree 58 = .ok (.iload 4, 2) := by decide +kernel
theorem d_GR_growTree_60 : decode b_GR_growTree 60 = .ok (.aload_n 0, 1) := by decide +kernel
theorem d_GR_growTree_61 : decode b_GR_growTree 61 = .ok (.getfield 18, 3) := by decide +kernel
theorem d_GR_growTree_64 : decode b_GR_growTree 64 = .ok (.iconst 0, 1) := by decide +kernel
theorem d_GR_growTree_65 : decode b_GR_growTree 65 = .ok (.iaload, 1) := by decide +kernel
theorem d_GR_growTree_66 : decode b_GR_growTree 66 = .ok (.invokevirtual 90, 3) := by decide +kernel
theorem d_GR_growTree_69 : decode b_GR_growTree 69 = .ok (.ifCond .eq 38, 3) := by decide +kernel
theorem d_GR_growTree_72 : decode b_GR_growTree 72 = .ok (.aload_n 0, 1) := by decide +kernel
theorem d_GR_growTree_73 : decode b_GR_growTree 73 = .ok (.iload 4, 2) := by decide +kernel
theorem d_GR_growTree_75 : decode b_GR_growTree 75 = .ok (.iload_n 2, 1) := by decide +kernel
theorem d_GR_growTree_76 : decode b_GR_growTree 76 = .ok (.invokevirtual 94, 3) := by decide +kernel
theorem d_GR_growTree_79 : decode b_GR_growTree 79 = .ok (.aload_n 0, 1) := by decide +kernel
theorem d_GR_growTree_80 : decode b_GR_growTree 80 = .ok (.getfield 59, 3) := by decide +kernel
theorem d_GR_growTree_83 : decode b_GR_growTree 83 = .ok (.getfield 98, 3) := by decide +kernel
theorem d_GR_growTree_86 : decode b_GR_growTree 86 = .ok (.iconst (-1), 1) := by decide +kernel
theorem d_GR_growTree_87 : decode b_GR_growTree 87 = .ok (.if_icmp .eq 20, 3) := by decide +kernel
theorem d_GR_growTree_90 : decode b_GR_growTree 90 = .ok (.aload_n 1, 1) := by decide +kernel
theorem d_GR_growTree_91 : decode b_GR_growTree 91 = .ok (.iload 4, 2) := by decide +kernel
theorem d_GR_growTree_93 : decode b_GR_growTree 93 = .ok (.aload_n 0, 1) := by decide +kernel
theorem d_GR_growTree_94 : decode b_GR_growTree 94 = .ok (.getfield 59, 3) := by decide +kernel
theorem d_GR_growTree_97 : decode b_GR_growTree 97 = .ok (.invokevirtual 101, 3) := by decide +kernel
theorem d_GR_growTree_100 : decode b_GR_growTree 100 = .ok (.aload_n 0, 1) := by decide +kernel
theorem d_GR_growTree_101 : decode b_GR_growTree 101 = .ok (.aload_n 1, 1) := by decide +kernel
theorem d_GR_growTree_102 : decode b_GR_growTree 102 = .ok (.iload 4, 2) := by decide +kernel
theorem d_GR_growTree_104 : decode b_GR_growTree 104 = .ok (.invokevirtual 105, 3) := by decide +kernel
theorem d_GR_growTree_107 : decode b_GR_growTree 107 = .ok (.iinc 4 1, 3) := by decide +kernel
theorem d_GR_growTree_110 : decode b_GR_growTree 110 = .ok (.goto (-91), 3) := by decide +kernel
theorem d_GR_growTree_113 : decode b_GR_growTree 113 = .ok (.return_, 1) := by decide +kernel
theorem d_GR_hasDrawn_0 : decode b_GR_hasDrawn 0 = .ok (.aload_n 0, 1) := by decide +kernel
theorem d_GR_hasDrawn_1 : decode b_GR_hasDrawn 1 = .ok (.getfield 27, 3) := by decide +kernel
theorem d_GR_hasDrawn_4 : decode b_GR_hasDrawn 4 = .ok (.iload_n 1, 1) := by decide +kernel
theorem d_GR_hasDrawn_5 : decode b_GR_hasDrawn 5 = .ok (.iaload, 1) := by decide +kernel
theorem d_GR_hasDrawn_6 : decode b_GR_hasDrawn 6 = .ok (.iconst (-1), 1) := by decide +kernel
theorem d_GR_hasDrawn_7 : decode b_GR_hasDrawn 7 = .ok (.if_icmp .eq 7, 3) := by decide +kernel
theorem d_GR_hasDrawn_10 : decode b_GR_hasDrawn 10 = .ok (.iconst 1, 1) := by decide +kernel
theorem d_GR_hasDrawn_11 : decode b_GR_hasDrawn 11 = .ok (.goto 4, 3) := by decide +kernel
theorem d_GR_hasDrawn_14 : decode b_GR_hasDrawn 14 = .ok (.iconst 0, 1) := by decide +kernel
theorem d_GR_hasDrawn_15 : decode b_GR_hasDrawn 15 = .ok (.ireturn, 1) := by decide +kernel
theorem d_GR_drawRows_0 : decode b_GR_drawRows 0 = .ok (.iconst 0, 1) := by decide +kernel
theorem d_GR_drawRows_1 : decode b_GR_drawRows 1 = .ok (.istore_n 3, 1) := by decide +kernel
theorem d_GR_drawRows_2 : decode b_GR_drawRows 2 = .ok (.iload_n 3, 1) := by decide +kernel
theorem d_GR_drawRows_3 : decode b_GR_drawRows 3 = .ok (.aload_n 0, 1) := by decide +kernel
theorem d_GR_drawRows_4 : decode b_GR_drawRows 4 = .ok (.getfield 12, 3) := by decide +kernel
theorem d_GR_drawRows_7 : decode b_GR_drawRows 7 = .ok (.getfield 63, 3) := by decide +kernel
theorem d_GR_drawRows_10 : decode b_GR_drawRows 10 = .ok (.if_icmp .ge 99, 3) := by decide +kernel
theorem d_GR_drawRows_13 : decode b_GR_drawRows 13 = .ok (.aload_n 0, 1) := by decide +kernel
theorem d_GR_drawRows_14 : decode b_GR_drawRows 14 = .ok (.getfield 12, 3) := by decide +kernel
theorem d_GR_drawRows_17 : decode b_GR_drawRows 17 = .ok (.getfield 109, 3) := by decide +kernel
theorem d_GR_drawRows_20 : decode b_GR_drawRows 20 = .ok (.iload_n 3, 1) := by decide +kernel
theorem d_GR_drawRows_21 : decode b_GR_drawRows 21 = .ok (.baload, 1) := by decide +kernel
theorem d_GR_drawRows_22 : decode b_GR_drawRows 22 = .ok (.ifCond .ne 27, 3) := by decide +kernel
theorem d_GR_drawRows_25 : decode b_GR_drawRows 25 = .ok (.aload_n 0, 1) := by decide +kernel
theorem d_GR_drawRows_26 : decode b_GR_drawRows 26 = .ok (.bipush 64, 2) := by decide +kernel
theorem d_GR_drawRows_28 : decode b_GR_drawRows 28 = .ok (.iload_n 1, 1) := by decide +kernel
theorem d_GR_drawRows_29 : decode b_GR_drawRows 29 = .ok (.imul, 1) := by decide +kernel
theorem d_GR_drawRows_30 : decode b_GR_drawRows 30 = .ok (.iload_n 3, 1) := by decide +kernel
theorem d_GR_drawRows_31 : decode b_GR_drawRows 31 = .ok (.iadd, 1) := by decide +kernel
theorem d_GR_drawRows_32 : decode b_GR_drawRows 32 = .ok (.invokevirtual 113, 3) := by decide +kernel
theorem d_GR_drawRows_35 : decode b_GR_drawRows 35 = .ok (.aload_n 0, 1) := by decide +kernel
theorem d_GR_drawRows_36 : decode b_GR_drawRows 36 = .ok (.getfield 18, 3) := by decide +kernel
theorem d_GR_drawRows_39 : decode b_GR_drawRows 39 = .ok (.bipush 6, 2) := by decide +kernel
theorem d_GR_drawRows_41 : decode b_GR_drawRows 41 = .ok (.iaload, 1) := by decide +kernel
theorem d_GR_drawRows_42 : decode b_GR_drawRows 42 = .ok (.if_icmp .ge 7, 3) := by decide +kernel
theorem d_GR_drawRows_45 : decode b_GR_drawRows 45 = .ok (.iconst 1, 1) := by decide +kernel
theorem d_GR_drawRows_46 : decode b_GR_drawRows 46 = .ok (.goto 4, 3) := by decide +kernel
theorem d_GR_drawRows_49 : decode b_GR_drawRows 49 = .ok (.iconst 0, 1) := by decide +kernel
theorem d_GR_drawRows_50 : decode b_GR_drawRows 50 = .ok (.istore 4, 2) := by decide +kernel
theorem d_GR_drawRows_52 : decode b_GR_drawRows 52 = .ok (.aload_n 0, 1) := by decide +kernel
theorem d_GR_drawRows_53 : decode b_GR_drawRows 53 = .ok (.getfield 27, 3) := by decide +kernel
theorem d_GR_drawRows_56 : decode b_GR_drawRows 56 = .ok (.iload_n 3, 1) := by decide +kernel
theorem d_GR_drawRows_57 : decode b_GR_drawRows 57 = .ok (.iload 4, 2) := by decide +kernel
theorem d_GR_drawRows_59 : decode b_GR_drawRows 59 = .ok (.ifCond .eq 7, 3) := by decide +kernel
theorem d_GR_drawRows_62 : decode b_GR_drawRows 62 = .ok (.iconst 0, 1) := by decide +kernel
theorem d_GR_drawRows_63 : decode b_GR_drawRows 63 = .ok (.goto 4, 3) := by decide +kernel
theorem d_GR_drawRows_66 : decode b_GR_drawRows 66 = .ok (.iconst (-1), 1) := by decide +kernel
theorem d_GR_drawRows_67 : decode b_GR_drawRows 67 = .ok (.iastore, 1) := by decide +kernel
theorem d_GR_drawRows_68 : decode b_GR_drawRows 68 = .ok (.aload_n 0, 1) := by decide +kernel
theorem d_GR_drawRows_69 : decode b_GR_drawRows 69 = .ok (.getfield 30, 3) := by decide +kernel
theorem d_GR_drawRows_72 : decode b_GR_drawRows 72 = .ok (.iload_n 3, 1) := by decide +kernel
theorem d_GR_drawRows_73 : decode b_GR_drawRows 73 = .ok (.aload_n 0, 1) := by decide +kernel
theorem d_GR_drawRows_74 : decode b_GR_drawRows 74 = .ok (.getfield 12, 3) := by decide +kernel
theorem d_GR_drawRows_77 : decode b_GR_drawRows 77 = .ok (.getfield 117, 3) := by decide +kernel
theorem d_GR_drawRows_80 : decode b_GR_drawRows 80 = .ok (.iload_n 3, 1) := by decide +kernel
theorem d_GR_drawRows_81 : decode b_GR_drawRows 81 = .ok (.iaload, 1) := by decide +kernel
theorem d_GR_drawRows_82 : decode b_GR_drawRows 82 = .ok (.i2l, 1) := by decide +kernel
theorem d_GR_drawRows_83 : decode b_GR_drawRows 83 = .ok (.aload_n 2, 1) := by decide +kernel
theorem d_GR_drawRows_84 : decode b_GR_drawRows 84 = .ok (.iload_n 3, 1) := by decide +kernel
theorem d_GR_drawRows_85 : decode b_GR_drawRows 85 = .ok (.laload, 1) := by decide +kernel
theorem d_GR_drawRows_86 : decode b_GR_drawRows 86 = .ok (.sipush 256, 3) := by decide +kernel
theorem d_GR_drawRows_89 : decode b_GR_drawRows 89 = .ok (.aload_n 0, 1) := by decide +kernel
theorem d_GR_drawRows_90 : decode b_GR_drawRows 90 = .ok (.getfield 12, 3) := by decide +kernel
theorem d_GR_drawRows_93 : decode b_GR_drawRows 93 = .ok (.getfield 120, 3) := by decide +kernel
theorem d_GR_drawRows_96 : decode b_GR_drawRows 96 = .ok (.iload_n 3, 1) := by decide +kernel
theorem d_GR_drawRows_97 : decode b_GR_drawRows 97 = .ok (.iaload, 1) := by decide +kernel
theorem d_GR_drawRows_98 : decode b_GR_drawRows 98 = .ok (.imul, 1) := by decide +kernel
theorem d_GR_drawRows_99 : decode b_GR_drawRows 99 = .ok (.i2l, 1) := by decide +kernel
theorem d_GR_drawRows_100 : decode b_GR_drawRows 100 = .ok (.lsub, 1) := by decide +kernel
theorem d_GR_drawRows_101 : decode b_GR_drawRows 101 = .ok (.lmul, 1) := by decide +kernel
theorem d_GR_drawRows_102 : decode b_GR_drawRows 102 = .ok (.lastore, 1) := by decide +kernel
theorem d_GR_drawRows_103 : decode b_GR_drawRows 103 = .ok (.iinc 3 1, 3) := by decide +kernel
theorem d_GR_drawRows_106 : decode b_GR_drawRows 106 = .ok (.goto (-104), 3) := by decide +kernel
theorem d_GR_drawRows_109 : decode b_GR_drawRows 109 = .ok (.return_, 1) := by decide +kernel
theorem d_GR_gatherNode_0 : decode b_GR_gatherNode 0 = .ok (.aload_n 0, 1) := by decide +kernel
theorem d_GR_gatherNode_1 : decode b_GR_gatherNode 1 = .ok (.getfield 37, 3) := by decide +kernel
theorem d_GR_gatherNode_4 : decode b_GR_gatherNode 4 = .ok (.invokevirtual 123, 3) := by decide +kernel
theorem d_GR_gatherNode_7 : decode b_GR_gatherNode 7 = .ok (.iconst 0, 1) := by decide +kernel
theorem d_GR_gatherNode_8 : decode b_GR_gatherNode 8 = .ok (.istore_n 2, 1) := by decide +kernel
theorem d_GR_gatherNode_9 : decode b_GR_gatherNode 9 = .ok (.iload_n 2, 1) := by decide +kernel
theorem d_GR_gatherNode_10 : decode b_GR_gatherNode 10 = .ok (.aload_n 0, 1) := by decide +kernel
theorem d_GR_gatherNode_11 : decode b_GR_gatherNode 11 = .ok (.getfield 12, 3) := by decide +kernel
theorem d_GR_gatherNode_14 : decode b_GR_gatherNode 14 = .ok (.getfield 63, 3) := by decide +kernel
theorem d_GR_gatherNode_17 : decode b_GR_gatherNode 17 = .ok (.if_icmp .ge 41, 3) := by decide +kernel
theorem d_GR_gatherNode_20 : decode b_GR_gatherNode 20 = .ok (.aload_n 0, 1) := by decide +kernel
theorem d_GR_gatherNode_21 : decode b_GR_gatherNode 21 = .ok (.getfield 27, 3) := by decide +kernel
theorem d_GR_gatherNode_24 : decode b_GR_gatherNode 24 = .ok (.iload_n 2, 1) := by decide +kernel
theorem d_GR_gatherNode_25 : decode b_GR_gatherNode 25 = .ok (.iaload, 1) := by decide +kernel
theorem d_GR_gatherNode_26 : decode b_GR_gatherNode 26 = .ok (.iload_n 1, 1) := by decide +kernel
theorem d_GR_gatherNode_27 : decode b_GR_gatherNode 27 = .ok (.if_icmp .ne 25, 3) := by decide +kernel
theorem d_GR_gatherNode_30 : decode b_GR_gatherNode 30 = .ok (.aload_n 0, 1) := by decide +kernel
theorem d_GR_gatherNode_31 : decode b_GR_gatherNode 31 = .ok (.getfield 37, 3) := by decide +kernel
theorem d_GR_gatherNode_34 : decode b_GR_gatherNode 34 = .ok (.aload_n 0, 1) := by decide +kernel
theorem d_GR_gatherNode_35 : decode b_GR_gatherNode 35 = .ok (.getfield 30, 3) := by decide +kernel
theorem d_GR_gatherNode_38 : decode b_GR_gatherNode 38 = .ok (.iload_n 2, 1) := by decide +kernel
theorem d_GR_gatherNode_39 : decode b_GR_gatherNode 39 = .ok (.laload, 1) := by decide +kernel
theorem d_GR_gatherNode_40 : decode b_GR_gatherNode 40 = .ok (.aload_n 0, 1) := by decide +kernel
theorem d_GR_gatherNode_41 : decode b_GR_gatherNode 41 = .ok (.getfield 12, 3) := by decide +kernel
theorem d_GR_gatherNode_44 : decode b_GR_gatherNode 44 = .ok (.getfield 117, 3) := by decide +kernel
theorem d_GR_gatherNode_47 : decode b_GR_gatherNode 47 = .ok (.iload_n 2, 1) := by decide +kernel
theorem d_GR_gatherNode_48 : decode b_GR_gatherNode 48 = .ok (.iaload, 1) := by decide +kernel
theorem d_GR_gatherNode_49 : decode b_GR_gatherNode 49 = .ok (.invokevirtual 126, 3) := by decide +kernel
theorem d_GR_gatherNode_52 : decode b_GR_gatherNode 52 = .ok (.iinc 2 1, 3) := by decide +kernel
theorem d_GR_gatherNode_55 : decode b_GR_gatherNode 55 = .ok (.goto (-46), 3) := by decide +kernel
theorem d_GR_gatherNode_58 : decode b_GR_gatherNode 58 = .ok (.return_, 1) := by decide +kernel
theorem d_GR_moveRows_0 : decode b_GR_moveRows 0 = .ok (.iconst 0, 1) := by decide +kernel
theorem d_GR_moveRows_1 : decode b_GR_moveRows 1 = .ok (.istore_n 3, 1) := by decide +kernel
theorem d_GR_moveRows_2 : decode b_GR_moveRows 2 = .ok (.iload_n 3, 1) := by decide +kernel
theorem d_GR_moveRows_3 : decode b_GR_moveRows 3 = .ok (.aload_n 0, 1) := by decide +kernel
theorem d_GR_moveRows_4 : decode b_GR_moveRows 4 = .ok (.getfield 12, 3) := by decide +kernel
theorem d_GR_moveRows_7 : decode b_GR_moveRows 7 = .ok (.getfield 63, 3) := by decide +kernel
theorem d_GR_moveRows_10 : decode b_GR_moveRows 10 = .ok (.if_icmp .ge 39, 3) := by decide +kernel
theorem d_GR_moveRows_13 : decode b_GR_moveRows 13 = .ok (.aload_n 0, 1) := by decide +kernel
theorem d_GR_moveRows_14 : decode b_GR_moveRows 14 = .ok (.getfield 27, 3) := by decide +kernel
theorem d_GR_moveRows_17 : decode b_GR_moveRows 17 = .ok (.iload_n 3, 1) := by decide +kernel
theorem d_GR_moveRows_18 : decode b_GR_moveRows 18 = .ok (.iaload, 1) := by decide +kernel
theorem d_GR_moveRows_19 : decode b_GR_moveRows 19 = .ok (.iload_n 2, 1) := by decide +kernel
theorem d_GR_moveRows_20 : decode b_GR_moveRows 20 = .ok (.if_icmp .ne 23, 3) := by decide +kernel
theorem d_GR_moveRows_23 : decode b_GR_moveRows 23 = .ok (.aload_n 0, 1) := by decide +kernel
theorem d_GR_moveRows_24 : decode b_GR_moveRows 24 = .ok (.getfield 27, 3) := by decide +kernel
theorem d_GR_moveRows_27 : decode b_GR_moveRows 27 = .ok (.iload_n 3, 1) := by decide +kernel
theorem d_GR_moveRows_28 : decode b_GR_moveRows 28 = .ok (.aload_n 1, 1) := by decide +kernel
theorem d_GR_moveRows_29 : decode b_GR_moveRows 29 = .ok (.iload_n 2, 1) := by decide +kernel
theorem d_GR_moveRows_30 : decode b_GR_moveRows 30 = .ok (.aload_n 0, 1) := by decide +kernel
theorem d_GR_moveRows_31 : decode b_GR_moveRows 31 = .ok (.getfield 12, 3) := by decide +kernel
theorem d_GR_moveRows_34 : decode b_GR_moveRows 34 = .ok (.getfield 67, 3) := by decide +kernel
theorem d_GR_moveRows_37 : decode b_GR_moveRows 37 = .ok (.iload_n 3, 1) := by decide +kernel
theorem d_GR_moveRows_38 : decode b_GR_moveRows 38 = .ok (.aaload, 1) := by decide +kernel
theorem d_GR_moveRows_39 : decode b_GR_moveRows 39 = .ok (.invokevirtual 130, 3) := by decide +kernel
theorem d_GR_moveRows_42 : decode b_GR_moveRows 42 = .ok (.iastore, 1) := by decide +kernel
theorem d_GR_moveRows_43 : decode b_GR_moveRows 43 = .ok (.iinc 3 1, 3) := by decide +kernel
theorem d_GR_moveRows_46 : decode b_GR_moveRows 46 = .ok (.goto (-44), 3) := by decide +kernel
theorem d_GR_moveRows_49 : decode b_GR_moveRows 49 = .ok (.return_, 1) := by decide +kernel
theorem d_GR_findSplit_0 : decode b_GR_findSplit 0 = .ok (.aload_n 0, 1) := by decide +kernel
theorem d_GR_findSplit_1 : decode b_GR_findSplit 1 = .ok (.getfield 59, 3) := by decide +kernel
theorem d_GR_findSplit_4 : decode b_GR_findSplit 4 = .ok (.aload_n 0, 1) := by decide +kernel
theorem d_GR_findSplit_5 : decode b_GR_findSplit 5 = .ok (.getfield 18, 3) := by decide +kernel
theorem d_GR_findSplit_8 : decode b_GR_findSplit 8 = .ok (.iconst 5, 1) := by decide +kernel
theorem d_GR_findSplit_9 : decode b_GR_findSplit 9 = .ok (.iaload, 1) := by decide +kernel
theorem d_GR_findSplit_10 : decode b_GR_findSplit 10 = .ok (.i2l, 1) := by decide +kernel
theorem d_GR_findSplit_11 : decode b_GR_findSplit 11 = .ok (.invokevirtual 134, 3) := by decide +kernel
theorem d_GR_findSplit_14 : decode b_GR_findSplit 14 = .ok (.iconst 0, 1) := by decide +kernel
theorem d_GR_findSplit_15 : decode b_GR_findSplit 15 = .ok (.istore_n 3, 1) := by decide +kernel
theorem d_GR_findSplit_16 : decode b_GR_findSplit 16 = .ok (.iload_n 3, 1) := by decide +kernel
theorem d_GR_findSplit_17 : decode b_GR_findSplit 17 = .ok (.iconst 4, 1) := by decide +kernel
theorem d_GR_findSplit_18 : decode b_GR_findSplit 18 = .ok (.if_icmp .ge 37, 3) := by decide +kernel
theorem d_GR_findSplit_21 : decode b_GR_findSplit 21 = .ok (.aload_n 0, 1) := by decide +kernel
theorem d_GR_findSplit_22 : decode b_GR_findSplit 22 = .ok (.ldc 138, 2) := by decide +kernel
theorem d_GR_findSplit_24 : decode b_GR_findSplit 24 = .ok (.iconst 4, 1) := by decide +kernel
theorem d_GR_findSplit_25 : decode b_GR_findSplit 25 = .ok (.iload_n 2, 1) := by decide +kernel
theorem d_GR_findSplit_26 : decode b_GR_findSplit 26 = .ok (.imul, 1) := by decide +kernel
theorem d_GR_findSplit_27 : decode b_GR_findSplit 27 = .ok (.iadd, 1) := by decide +kernel
theorem d_GR_findSplit_28 : decode b_GR_findSplit 28 = .ok (.iload_n 3, 1) := by decide +kernel
theorem d_GR_findSplit_29 : decode b_GR_findSplit 29 = .ok (.iadd, 1) := by decide +kernel
theorem d_GR_findSplit_30 : decode b_GR_findSplit 30 = .ok (.invokevirtual 113, 3) := by decide +kernel
theorem d_GR_findSplit_33 : decode b_GR_findSplit 33 = .ok (.aload_n 0, 1) := by decide +kernel
theorem d_GR_findSplit_34 : decode b_GR_findSplit 34 = .ok (.getfield 18, 3) := by decide +kernel
theorem d_GR_findSplit_37 : decode b_GR_findSplit 37 = .ok (.bipush 7, 2) := by decide +kernel
theorem d_GR_findSplit_39 : decode b_GR_findSplit 39 = .ok (.iaload, 1) := by decide +kernel
theorem d_GR_findSplit_40 : decode b_GR_findSplit 40 = .ok (.if_icmp .ge 9, 3) := by decide +kernel
theorem d_GR_findSplit_43 : decode b_GR_findSplit 43 = .ok (.aload_n 0, 1) := by decide +kernel
theorem d_GR_findSplit_44 : decode b_GR_findSplit 44 = .ok (.iload_n 1, 1) := by decide +kernel
theorem d_GR_findSplit_45 : decode b_GR_findSplit 45 = .ok (.iload_n 3, 1) := by decide +kernel
theorem d_GR_findSplit_46 : decode b_GR_findSplit 46 = .ok (.invokevirtual 139, 3) := by decide +kernel
theorem d_GR_findSplit_49 : decode b_GR_findSplit 49 = .ok (.iinc 3 1, 3) := by decide +kernel
theorem d_GR_findSplit_52 : decode b_GR_findSplit 52 = .ok (.goto (-36), 3) := by decide +kernel
theorem d_GR_findSplit_55 : decode b_GR_findSplit 55 = .ok (.return_, 1) := by decide +kernel
theorem d_GR_tryColumn_0 : decode b_GR_tryColumn 0 = .ok (.aload_n 0, 1) := by decide +kernel
theorem d_GR_tryColumn_1 : decode b_GR_tryColumn 1 = .ok (.getfield 41, 3) := by decide +kernel
theorem d_GR_tryColumn_4 : decode b_GR_tryColumn 4 = .ok (.invokevirtual 123, 3) := by decide +kernel
theorem d_GR_tryColumn_7 : decode b_GR_tryColumn 7 = .ok (.aload_n 0, 1) := by decide +kernel
theorem d_GR_tryColumn_8 : decode b_GR_tryColumn 8 = .ok (.getfield 44, 3) := by decide +kernel
theorem d_GR_tryColumn_11 : decode b_GR_tryColumn 11 = .ok (.invokevirtual 123, 3) := by decide +kernel
theorem d_GR_tryColumn_14 : decode b_GR_tryColumn 14 = .ok (.iconst (-1), 1) := by decide +kernel
theorem d_GR_tryColumn_15 : decode b_GR_tryColumn 15 = .ok (.istore_n 3, 1) := by decide +kernel
theorem d_GR_tryColumn_16 : decode b_GR_tryColumn 16 = .ok (.iconst 0, 1) := by decide +kernel
theorem d_GR_tryColumn_17 : decode b_GR_tryColumn 17 = .ok (.istore 4, 2) := by decide +kernel
theorem d_GR_tryColumn_19 : decode b_GR_tryColumn 19 = .ok (.iload 4, 2) := by decide +kernel
theorem d_GR_tryColumn_21 : decode b_GR_tryColumn 21 = .ok (.aload_n 0, 1) := by decide +kernel
theorem d_GR_tryColumn_22 : decode b_GR_tryColumn 22 = .ok (.getfield 12, 3) := by decide +kernel
theorem d_GR_tryColumn_25 : decode b_GR_tryColumn 25 = .ok (.getfield 63, 3) := by decide +kernel
theorem d_GR_tryColumn_28 : decode b_GR_tryColumn 28 = .ok (.if_icmp .ge 120, 3) := by decide +kernel
theorem d_GR_tryColumn_31 : decode b_GR_tryColumn 31 = .ok (.aload_n 0, 1) := by decide +kernel
theorem d_GR_tryColumn_32 : decode b_GR_tryColumn 32 = .ok (.getfield 24, 3) := by decide +kernel
theorem d_GR_tryColumn_35 : decode b_GR_tryColumn 35 = .ok (.iload_n 2, 1) := by decide +kernel
theorem d_GR_tryColumn_36 : decode b_GR_tryColumn 36 = .ok (.aaload, 1) := by decide +kernel
theorem d_GR_tryColumn_37 : decode b_GR_tryColumn 37 = .ok (.iload 4, 2) := by decide +kernel
theorem d_GR_tryColumn_39 : decode b_GR_tryColumn 39 = .ok (.iaload, 1) := by decide +kernel
theorem d_GR_tryColumn_40 : decode b_GR_tryColumn 40 = .ok (.istore 5, 2) := by decide +kernel
theorem d_GR_tryColumn_42 : decode b_GR_tryColumn 42 = .ok (.aload_n 0, 1) := by decide +kernel
theorem d_GR_tryColumn_43 : decode b_GR_tryColumn 43 = .ok (.getfield 27, 3) := by decide +kernel
theorem d_GR_tryColumn_46 : decode b_GR_tryColumn 46 = .ok (.iload 5, 2) := by decide +kernel
theorem d_GR_tryColumn_48 : decode b_GR_tryColumn 48 = .ok (.iaload, 1) := by decide +kernel
theorem d_GR_tryColumn_49 : decode b_GR_tryColumn 49 = .ok (.iload_n 1, 1) := by decide +kernel
theorem d_GR_tryColumn_50 : decode b_GR_tryColumn 50 = .ok (.if_icmp .ne 92, 3) := by decide +kernel
theorem d_GR_tryColumn_53 : decode b_GR_tryColumn 53 = .ok (.aload_n 0, 1) := by decide +kernel
theorem d_GR_tryColumn_54 : decode b_GR_tryColumn 54 = .ok (.getfield 12, 3) := by decide +kernel
theorem d_GR_tryColumn_57 : decode b_GR_tryColumn 57 = .ok (.getfield 67, 3) := by decide +kernel
theorem d_GR_tryColumn_60 : decode b_GR_tryColumn 60 = .ok (.iload 5, 2) := by decide +kernel
theorem d_GR_tryColumn_62 : decode b_GR_tryColumn 62 = .ok (.aaload, 1) := by decide +kernel
theorem d_GR_tryColumn_63 : decode b_GR_tryColumn 63 = .ok (.iload_n 2, 1) := by decide +kernel
theorem d_GR_tryColumn_64 : decode b_GR_tryColumn 64 = .ok (.iaload, 1) := by decide +kernel
theorem d_GR_tryColumn_65 : decode b_GR_tryColumn 65 = .ok (.istore 6, 2) := by decide +kernel
theorem d_GR_tryColumn_67 : decode b_GR_tryColumn 67 = .ok (.iload_n 3, 1) := by decide +kernel
theorem d_GR_tryColumn_68 : decode b_GR_tryColumn 68 = .ok (.iconst (-1), 1) := by decide +kernel
theorem d_GR_tryColumn_69 : decode b_GR_tryColumn 69 = .ok (.if_icmp .eq 33, 3) := by decide +kernel
theorem d_GR_tryColumn_72 : decode b_GR_tryColumn 72 = .ok (.iload 6, 2) := by decide +kernel
theorem d_GR_tryColumn_74 : decode b_GR_tryColumn 74 = .ok (.iload_n 3, 1) := by decide +kernel
theorem d_GR_tryColumn_75 : decode b_GR_tryColumn 75 = .ok (.if_icmp .le 27, 3) := by decide +kernel
theorem d_GR_tryColumn_78 : decode b_GR_tryColumn 78 = .ok (.aload_n 0, 1) := by decide +kernel
theorem d_GR_tryColumn_79 : decode b_GR_tryColumn 79 = .ok (.iload_n 2, 1) := by decide +kernel
theorem d_GR_tryColumn_80 : decode b_GR_tryColumn 80 = .ok (.iload_n 3, 1) := by decide +kernel
theorem d_GR_tryColumn_81 : decode b_GR_tryColumn 81 = .ok (.iconst 0, 1) := by decide +kernel
theorem d_GR_tryColumn_82 : decode b_GR_tryColumn 82 = .ok (.invokevirtual 142, 3) := by decide +kernel
theorem d_GR_tryColumn_85 : decode b_GR_tryColumn 85 = .ok (.aload_n 0, 1) := by decide +kernel
theorem d_GR_tryColumn_86 : decode b_GR_tryColumn 86 = .ok (.getfield 41, 3) := by decide +kernel
theorem d_GR_tryColumn_89 : decode b_GR_tryColumn 89 = .ok (.getfield 146, 3) := by decide +kernel
theorem d_GR_tryColumn_92 : decode b_GR_tryColumn 92 = .ok (.ifCond .le 10, 3) := by decide +kernel
theorem d_GR_tryColumn_95 : decode b_GR_tryColumn 95 = .ok (.aload_n 0, 1) := by decide +kernel
theorem d_GR_tryColumn_96 : decode b_GR_tryColumn 96 = .ok (.iload_n 2, 1) := by decide +kernel
theorem d_GR_tryColumn_97 : decode b_GR_tryColumn 97 = .ok (.iload_n 3, 1) := by decide +kernel
theorem d_GR_tryColumn_98 : decode b_GR_tryColumn 98 = .ok (.iconst 1, 1) := by decide +kernel
theorem d_GR_tryColumn_99 : decode b_GR_tryColumn 99 = .ok (.invokevirtual 142, 3) := by decide +kernel
theorem d_GR_tryColumn_102 : decode b_GR_tryColumn 102 = .ok (.iload 6, 2) := by decide +kernel
theorem d_GR_tryColumn_104 : decode b_GR_tryColumn 104 = .ok (.iconst (-1), 1) := by decide +kernel
theorem d_GR_tryColumn_105 : decode b_GR_tryColumn 105 = .ok (.if_icmp .ne 10, 3) := by decide +kernel
theorem d_GR_tryColumn_108 : decode b_GR_tryColumn 108 = .ok (.aload_n 0, 1) := by decide +kernel
theorem d_GR_tryColumn_109 : decode b_GR_tryColumn 109 = .ok (.getfield 41, 3) := by decide +kernel
theorem d_GR_tryColumn_112 : decode b_GR_tryColumn 112 = .ok (.goto 7, 3) := by decide +kernel
theorem d_GR_tryColumn_115 : decode b_GR_tryColumn 115 = .ok (.aload_n 0, 1) := by decide +kernel
theorem d_GR_tryColumn_116 : decode b_GR_tryColumn 116 = .ok (.getfield 44, 3) := by decide +kernel
theorem d_GR_tryColumn_119 : decode b_GR_tryColumn 119 = .ok (.aload_n 0, 1) := by decide +kernel
theorem d_GR_tryColumn_120 : decode b_GR_tryColumn 120 = .ok (.getfield 30, 3) := by decide +kernel
theorem d_GR_tryColumn_123 : decode b_GR_tryColumn 123 = .ok (.iload 5, 2) := by decide +kernel
theorem d_GR_tryColumn_125 : decode b_GR_tryColumn 125 = .ok (.laload, 1) := by decide +kernel
theorem d_GR_tryColumn_126 : decode b_GR_tryColumn 126 = .ok (.aload_n 0, 1) := by decide +kernel
theorem d_GR_tryColumn_127 : decode b_GR_tryColumn 127 = .ok (.getfield 12, 3) := by decide +kernel
theorem d_GR_tryColumn_130 : decode b_GR_tryColumn 130 = .ok (.getfield 117, 3) := by decide +kernel
theorem d_GR_tryColumn_133 : decode b_GR_tryColumn 133 = .ok (.iload 5, 2) := by decide +kernel
theorem d_GR_tryColumn_135 : decode b_GR_tryColumn 135 = .ok (.iaload, 1) := by decide +kernel
theorem d_GR_tryColumn_136 : decode b_GR_tryColumn 136 = .ok (.invokevirtual 126, 3) := by decide +kernel
theorem d_GR_tryColumn_139 : decode b_GR_tryColumn 139 = .ok (.iload 6, 2) := by decide +kernel
theorem d_GR_tryColumn_141 : decode b_GR_tryColumn 141 = .ok (.istore_n 3, 1) := by decide +kernel
theorem d_GR_tryColumn_142 : decode b_GR_tryColumn 142 = .ok (.iinc 4 1, 3) := by decide +kernel
theorem d_GR_tryColumn_145 : decode b_GR_tryColumn 145 = .ok (.goto (-126), 3) := by decide +kernel
theorem d_GR_tryColumn_148 : decode b_GR_tryColumn 148 = .ok (.return_, 1) := by decide +kernel
theorem d_GR_trySplit_0 : decode b_GR_trySplit 0 = .ok (.aload_n 0, 1) := by decide +kernel
theorem d_GR_trySplit_1 : decode b_GR_trySplit 1 = .ok (.getfield 47, 3) := by decide +kernel
theorem d_GR_trySplit_4 : decode b_GR_trySplit 4 = .ok (.aload_n 0, 1) := by decide +kernel
theorem d_GR_trySplit_5 : decode b_GR_trySplit 5 = .ok (.getfield 44, 3) := by decide +kernel
theorem d_GR_trySplit_8 : decode b_GR_trySplit 8 = .ok (.iload_n 3, 1) := by decide +kernel
theorem d_GR_trySplit_9 : decode b_GR_trySplit 9 = .ok (.ifCond .ne 10, 3) := by decide +kernel
theorem d_GR_trySplit_12 : decode b_GR_trySplit 12 = .ok (.aload_n 0, 1) := by decide +kernel
theorem d_GR_trySplit_13 : decode b_GR_trySplit 13 = .ok (.getfield 41, 3) := by decide +kernel
theorem d_GR_trySplit_16 : decode b_GR_trySplit 16 = .ok (.goto 7, 3) := by decide +kernel
theorem d_GR_trySplit_19 : decode b_GR_trySplit 19 = .ok (.aload_n 0, 1) := by decide +kernel
theorem d_GR_trySplit_20 : decode b_GR_trySplit 20 = .ok (.getfield 53, 3) := by decide +kernel
theorem d_GR_trySplit_23 : decode b_GR_trySplit 23 = .ok (.invokevirtual 148, 3) := by decide +kernel
theorem d_GR_trySplit_26 : decode b_GR_trySplit 26 = .ok (.aload_n 0, 1) := by decide +kernel
theorem d_GR_trySplit_27 : decode b_GR_trySplit 27 = .ok (.getfield 50, 3) := by decide +kernel
theorem d_GR_trySplit_30 : decode b_GR_trySplit 30 = .ok (.aload_n 0, 1) := by decide +kernel
theorem d_GR_trySplit_31 : decode b_GR_trySplit 31 = .ok (.getfield 37, 3) := by decide +kernel
theorem d_GR_trySplit_34 : decode b_GR_trySplit 34 = .ok (.aload_n 0, 1) := by decide +kernel
theorem d_GR_trySplit_35 : decode b_GR_trySplit 35 = .ok (.getfield 47, 3) := by decide +kernel
theorem d_GR_trySplit_38 : decode b_GR_trySplit 38 = .ok (.invokevirtual 152, 3) := by decide +kernel
theorem d_GR_trySplit_41 : decode b_GR_trySplit 41 = .ok (.aload_n 0, 1) := by decide +kernel
theorem d_GR_trySplit_42 : decode b_GR_trySplit 42 = .ok (.getfield 47, 3) := by decide +kernel
theorem d_GR_trySplit_45 : decode b_GR_trySplit 45 = .ok (.getfield 146, 3) := by decide +kernel
theorem d_GR_trySplit_48 : decode b_GR_trySplit 48 = .ok (.aload_n 0, 1) := by decide +kernel
theorem d_GR_trySplit_49 : decode b_GR_trySplit 49 = .ok (.getfield 18, 3) := by decide +kernel
theorem d_GR_trySplit_52 : decode b_GR_trySplit 52 = .ok (.iconst 1, 1) := by decide +kernel
theorem d_GR_trySplit_53 : decode b_GR_trySplit 53 = .ok (.iaload, 1) := by decide +kernel
theorem d_GR_trySplit_54 : decode b_GR_trySplit 54 = .ok (.if_icmp .lt 19, 3) := by decide +kernel
theorem d_GR_trySplit_57 : decode b_GR_trySplit 57 = .ok (.aload_n 0, 1) := by decide +kernel
theorem d_GR_trySplit_58 : decode b_GR_trySplit 58 = .ok (.getfield 50, 3) := by decide +kernel
theorem d_GR_trySplit_61 : decode b_GR_trySplit 61 = .ok (.getfield 146, 3) := by decide +kernel
theorem d_GR_trySplit_64 : decode b_GR_trySplit 64 = .ok (.aload_n 0, 1) := by decide +kernel
theorem d_GR_trySplit_65 : decode b_GR_trySplit 65 = .ok (.getfield 18, 3) := by decide +kernel
theorem d_GR_trySplit_68 : decode b_GR_trySplit 68 = .ok (.iconst 1, 1) := by decide +kernel
theorem d_GR_trySplit_69 : decode b_GR_trySplit 69 = .ok (.iaload, 1) := by decide +kernel
theorem d_GR_trySplit_70 : decode b_GR_trySplit 70 = .ok (.if_icmp .ge 4, 3) := by decide +kernel
theorem d_GR_trySplit_73 : decode b_GR_trySplit 73 = .ok (.return_, 1) := by decide +kernel
theorem d_GR_trySplit_74 : decode b_GR_trySplit 74 = .ok (.aload_n 0, 1) := by decide +kernel
theorem d_GR_trySplit_75 : decode b_GR_trySplit 75 = .ok (.getfield 18, 3) := by decide +kernel
theorem d_GR_trySplit_78 : decode b_GR_trySplit 78 = .ok (.iconst 2, 1) := by decide +kernel
theorem d_GR_trySplit_79 : decode b_GR_trySplit 79 = .ok (.iaload, 1) := by decide +kernel
theorem d_GR_trySplit_80 : decode b_GR_trySplit 80 = .ok (.istore 4, 2) := by decide +kernel
theorem d_GR_trySplit_82 : decode b_GR_trySplit 82 = .ok (.aload_n 0, 1) := by decide +kernel
theorem d_GR_trySplit_83 : decode b_GR_trySplit 83 = .ok (.getfield 47, 3) := by decide +kernel
theorem d_GR_trySplit_86 : decode b_GR_trySplit 86 = .ok (.iload 4, 2) := by decide +kernel
theorem d_GR_trySplit_88 : decode b_GR_trySplit 88 = .ok (.invokevirtual 155, 3) := by decide +kernel
theorem d_GR_trySplit_91 : decode b_GR_trySplit 91 = .ok (.aload_n 0, 1) := by decide +kernel
theorem d_GR_trySplit_92 : decode b_GR_trySplit 92 = .ok (.getfield 50, 3) := by decide +kernel
theorem d_GR_trySplit_95 : decode b_GR_trySplit 95 = .ok (.iload 4, 2) := by decide +kernel
theorem d_GR_trySplit_97 : decode b_GR_trySplit 97 = .ok (.invokevirtual 155, 3) := by decide +kernel
theorem d_GR_trySplit_100 : decode b_GR_trySplit 100 = .ok (.ladd, 1) := by decide +kernel
theorem d_GR_trySplit_101 : decode b_GR_trySplit 101 = .ok (.aload_n 0, 1) := by decide +kernel
theorem d_GR_trySplit_102 : decode b_GR_trySplit 102 = .ok (.getfield 37, 3) := by decide +kernel
theorem d_GR_trySplit_105 : decode b_GR_trySplit 105 = .ok (.iload 4, 2) := by decide +kernel
theorem d_GR_trySplit_107 : decode b_GR_trySplit 107 = .ok (.invokevirtual 155, 3) := by decide +kernel
theorem d_GR_trySplit_110 : decode b_GR_trySplit 110 = .ok (.lsub, 1) := by decide +kernel
theorem d_GR_trySplit_111 : decode b_GR_trySplit 111 = .ok (.lstore 5, 2) := by decide +kernel
theorem d_GR_trySplit_113 : decode b_GR_trySplit 113 = .ok (.lload 5, 2) := by decide +kernel
theorem d_GR_trySplit_115 : decode b_GR_trySplit 115 = .ok (.aload_n 0, 1) := by decide +kernel
theorem d_GR_trySplit_116 : decode b_GR_trySplit 116 = .ok (.getfield 59, 3) := by decide +kernel
theorem d_GR_trySplit_119 : decode b_GR_trySplit 119 = .ok (.getfield 159, 3) := by decide +kernel
theorem d_GR_trySplit_122 : decode b_GR_trySplit 122 = .ok (.lcmp, 1) := by decide +kernel
theorem d_GR_trySplit_123 : decode b_GR_trySplit 123 = .ok (.ifCond .le 48, 3) := by decide +kernel
theorem d_GR_trySplit_126 : decode b_GR_trySplit 126 = .ok (.aload_n 0, 1) := by decide +kernel
theorem d_GR_trySplit_127 : decode b_GR_trySplit 127 = .ok (.getfield 18, 3) := by decide +kernel
theorem d_GR_trySplit_130 : decode b_GR_trySplit 130 = .ok (.bipush 11, 2) := by decide +kernel
theorem d_GR_trySplit_132 : decode b_GR_trySplit 132 = .ok (.iload_n 1, 1) := by decide +kernel
theorem d_GR_trySplit_133 : decode b_GR_trySplit 133 = .ok (.iadd, 1) := by decide +kernel
theorem d_GR_trySplit_134 : decode b_GR_trySplit 134 = .ok (.iaload, 1) := by decide +kernel
theorem d_GR_trySplit_135 : decode b_GR_trySplit 135 = .ok (.aload_n 0, 1) := by decide +kernel
theorem d_GR_trySplit_136 : decode b_GR_trySplit 136 = .ok (.getfield 47, 3) := by decide +kernel
theorem d_GR_trySplit_139 : decode b_GR_trySplit 139 = .ok (.iload 4, 2) := by decide +kernel
theorem d_GR_trySplit_141 : decode b_GR_trySplit 141 = .ok (.invokevirtual 163, 3) := by decide +kernel
theorem d_GR_trySplit_144 : decode b_GR_trySplit 144 = .ok (.aload_n 0, 1) := by decide +kernel
theorem d_GR_trySplit_145 : decode b_GR_trySplit 145 = .ok (.getfield 50, 3) := by decide +kernel
theorem d_GR_trySplit_148 : decode b_GR_trySplit 148 = .ok (.iload 4, 2) := by decide +kernel
theorem d_GR_trySplit_150 : decode b_GR_trySplit 150 = .ok (.invokevirtual 163, 3) := by decide +kernel
theorem d_GR_trySplit_153 : decode b_GR_trySplit 153 = .ok (.invokestatic 166, 3) := by decide +kernel
theorem d_GR_trySplit_156 : decode b_GR_trySplit 156 = .ok (.ifCond .eq 15, 3) := by decide +kernel
theorem d_GR_trySplit_159 : decode b_GR_trySplit 159 = .ok (.aload_n 0, 1) := by decide +kernel
theorem d_GR_trySplit_160 : decode b_GR_trySplit 160 = .ok (.getfield 59, 3) := by decide +kernel
theorem d_GR_trySplit_163 : decode b_GR_trySplit 163 = .ok (.iload_n 1, 1) := by decide +kernel
theorem d_GR_trySplit_164 : decode b_GR_trySplit 164 = .ok (.iload_n 2, 1) := by decide +kernel
theorem d_GR_trySplit_165 : decode b_GR_trySplit 165 = .ok (.iload_n 3, 1) := by decide +kernel
theorem d_GR_trySplit_166 : decode b_GR_trySplit 166 = .ok (.lload 5, 2) := by decide +kernel
theorem d_GR_trySplit_168 : decode b_GR_trySplit 168 = .ok (.invokevirtual 170, 3) := by decide +kernel
theorem d_GR_trySplit_171 : decode b_GR_trySplit 171 = .ok (.return_, 1) := by decide +kernel
theorem d_GR_keepsSign_0 : decode b_GR_keepsSign 0 = .ok (.iload_n 0, 1) := by decide +kernel
theorem d_GR_keepsSign_1 : decode b_GR_keepsSign 1 = .ok (.ifCond .eq 22, 3) := by decide +kernel
theorem d_GR_keepsSign_4 : decode b_GR_keepsSign 4 = .ok (.iload_n 0, 1) := by decide +kernel
theorem d_GR_keepsSign_5 : decode b_GR_keepsSign 5 = .ok (.ifCond .le 12, 3) := by decide +kernel
theorem d_GR_keepsSign_8 : decode b_GR_keepsSign 8 = .ok (.lload_n 1, 1) := by decide +kernel
theorem d_GR_keepsSign_9 : decode b_GR_keepsSign 9 = .ok (.lload_n 3, 1) := by decide +kernel
theorem d_GR_keepsSign_10 : decode b_GR_keepsSign 10 = .ok (.lcmp, 1) := by decide +kernel
theorem d_GR_keepsSign_11 : decode b_GR_keepsSign 11 = .ok (.ifCond .gt 16, 3) := by decide +kernel
theorem d_GR_keepsSign_14 : decode b_GR_keepsSign 14 = .ok (.goto 9, 3) := by decide +kernel
theorem d_GR_keepsSign_17 : decode b_GR_keepsSign 17 = .ok (.lload_n 1, 1) := by decide +kernel
theorem d_GR_keepsSign_18 : decode b_GR_keepsSign 18 = .ok (.lload_n 3, 1) := by decide +kernel
theorem d_GR_keepsSign_19 : decode b_GR_keepsSign 19 = .ok (.lcmp, 1) := by decide +kernel
theorem d_GR_keepsSign_20 : decode b_GR_keepsSign 20 = .ok (.ifCond .lt 7, 3) := by decide +kernel
theorem d_GR_keepsSign_23 : decode b_GR_keepsSign 23 = .ok (.iconst 1, 1) := by decide +kernel
theorem d_GR_keepsSign_24 : decode b_GR_keepsSign 24 = .ok (.goto 4, 3) := by decide +kernel
theorem d_GR_keepsSign_27 : decode b_GR_keepsSign 27 = .ok (.iconst 0, 1) := by decide +kernel
theorem d_GR_keepsSign_28 : decode b_GR_keepsSign 28 = .ok (.ireturn, 1) := by decide +kernel
theorem d_GR_drawn_0 : decode b_GR_drawn 0 = .ok (.aload_n 0, 1) := by decide +kernel
theorem d_GR_drawn_1 : decode b_GR_drawn 1 = .ok (.getfield 18, 3) := by decide +kernel
theorem d_GR_drawn_4 : decode b_GR_drawn 4 = .ok (.bipush 10, 2) := by decide +kernel
theorem d_GR_drawn_6 : decode b_GR_drawn 6 = .ok (.iaload, 1) := by decide +kernel
theorem d_GR_drawn_7 : decode b_GR_drawn 7 = .ok (.ldc 174, 2) := by decide +kernel
theorem d_GR_drawn_9 : decode b_GR_drawn 9 = .ok (.iload_n 1, 1) := by decide +kernel
theorem d_GR_drawn_10 : decode b_GR_drawn 10 = .ok (.imul, 1) := by decide +kernel
theorem d_GR_drawn_11 : decode b_GR_drawn 11 = .ok (.iadd, 1) := by decide +kernel
theorem d_GR_drawn_12 : decode b_GR_drawn 12 = .ok (.istore_n 2, 1) := by decide +kernel
theorem d_GR_drawn_13 : decode b_GR_drawn 13 = .ok (.iload_n 2, 1) := by decide +kernel
theorem d_GR_drawn_14 : decode b_GR_drawn 14 = .ok (.iload_n 2, 1) := by decide +kernel
theorem d_GR_drawn_15 : decode b_GR_drawn 15 = .ok (.bipush 15, 2) := by decide +kernel
theorem d_GR_drawn_17 : decode b_GR_drawn 17 = .ok (.iushr, 1) := by decide +kernel
theorem d_GR_drawn_18 : decode b_GR_drawn 18 = .ok (.ixor, 1) := by decide +kernel
theorem d_GR_drawn_19 : decode b_GR_drawn 19 = .ok (.ldc 175, 2) := by decide +kernel
theorem d_GR_drawn_21 : decode b_GR_drawn 21 = .ok (.imul, 1) := by decide +kernel
theorem d_GR_drawn_22 : decode b_GR_drawn 22 = .ok (.istore_n 2, 1) := by decide +kernel
theorem d_GR_drawn_23 : decode b_GR_drawn 23 = .ok (.iload_n 2, 1) := by decide +kernel
theorem d_GR_drawn_24 : decode b_GR_drawn 24 = .ok (.iload_n 2, 1) := by decide +kernel
theorem d_GR_drawn_25 : decode b_GR_drawn 25 = .ok (.bipush 12, 2) := by decide +kernel
theorem d_GR_drawn_27 : decode b_GR_drawn 27 = .ok (.iushr, 1) := by decide +kernel
theorem d_GR_drawn_28 : decode b_GR_drawn 28 = .ok (.ixor, 1) := by decide +kernel
theorem d_GR_drawn_29 : decode b_GR_drawn 29 = .ok (.ldc 176, 2) := by decide +kernel
theorem d_GR_drawn_31 : decode b_GR_drawn 31 = .ok (.imul, 1) := by decide +kernel
theorem d_GR_drawn_32 : decode b_GR_drawn 32 = .ok (.istore_n 2, 1) := by decide +kernel
theorem d_GR_drawn_33 : decode b_GR_drawn 33 = .ok (.iload_n 2, 1) := by decide +kernel
theorem d_GR_drawn_34 : decode b_GR_drawn 34 = .ok (.bipush 24, 2) := by decide +kernel
theorem d_GR_drawn_36 : decode b_GR_drawn 36 = .ok (.iushr, 1) := by decide +kernel
theorem d_GR_drawn_37 : decode b_GR_drawn 37 = .ok (.ireturn, 1) := by decide +kernel
theorem d_TG_init_0 : decode b_TG_init 0 = .ok (.aload_n 0, 1) := by decide +kernel
theorem d_TG_init_1 : decode b_TG_init 1 = .ok (.invokespecial 3, 3) := by decide +kernel
theorem d_TG_init_4 : decode b_TG_init 4 = .ok (.aload_n 0, 1) := by decide +kernel
theorem d_TG_init_5 : decode b_TG_init 5 = .ok (.new 9, 3) := by decide +kernel
theorem d_TG_init_8 : decode b_TG_init 8 = .ok (.dup, 1) := by decide +kernel
theorem d_TG_init_9 : decode b_TG_init 9 = .ok (.invokespecial 11, 3) := by decide +kernel
theorem d_TG_init_12 : decode b_TG_init 12 = .ok (.putfield 12, 3) := by decide +kernel
theorem d_TG_init_15 : decode b_TG_init 15 = .ok (.aload_n 0, 1) := by decide +kernel
theorem d_TG_init_16 : decode b_TG_init 16 = .ok (.aload_n 0, 1) := by decide +kernel
theorem d_TG_init_17 : decode b_TG_init 17 = .ok (.getfield 12, 3) := by decide +kernel
theorem d_TG_init_20 : decode b_TG_init 20 = .ok (.getfield 18, 3) := by decide +kernel
theorem d_TG_init_23 : decode b_TG_init 23 = .ok (.putfield 22, 3) := by decide +kernel
theorem d_TG_init_26 : decode b_TG_init 26 = .ok (.aload_n 0, 1) := by decide +kernel
theorem d_TG_init_27 : decode b_TG_init 27 = .ok (.aload_n 0, 1) := by decide +kernel
theorem d_TG_init_28 : decode b_TG_init 28 = .ok (.getfield 12, 3) := by decide +kernel
theorem d_TG_init_31 : decode b_TG_init 31 = .ok (.getfield 23, 3) := by decide +kernel
theorem d_TG_init_34 : decode b_TG_init 34 = .ok (.putfield 27, 3) := by decide +kernel
theorem d_TG_init_37 : decode b_TG_init 37 = .ok (.aload_n 0, 1) := by decide +kernel
theorem d_TG_init_38 : decode b_TG_init 38 = .ok (.bipush 12, 2) := by decide +kernel
theorem d_TG_init_40 : decode b_TG_init 40 = .ok (.anewarray 28, 3) := by decide +kernel
theorem d_TG_init_43 : decode b_TG_init 43 = .ok (.putfield 30, 3) := by decide +kernel
theorem d_TG_init_46 : decode b_TG_init 46 = .ok (.aload_n 0, 1) := by decide +kernel
theorem d_TG_init_47 : decode b_TG_init 47 = .ok (.bipush 40, 2) := by decide +kernel
theorem d_TG_init_49 : decode b_TG_init 49 = .ok (.newarray .long, 2) := by decide +kernel
theorem d_TG_init_51 : decode b_TG_init 51 = .ok (.putfield 34, 3) := by decide +kernel
theorem d_TG_init_54 : decode b_TG_init 54 = .ok (.aload_n 0, 1) := by decide +kernel
theorem d_TG_init_55 : decode b_TG_init 55 = .ok (.bipush 40, 2) := by decide +kernel
theorem d_TG_init_57 : decode b_TG_init 57 = .ok (.newarray .int, 2) := by decide +kernel
theorem d_TG_init_59 : decode b_TG_init 59 = .ok (.putfield 38, 3) := by decide +kernel
theorem d_TG_init_62 : decode b_TG_init 62 = .ok (.aload_n 0, 1) := by decide +kernel
theorem d_TG_init_63 : decode b_TG_init 63 = .ok (.iconst 2, 1) := by decide +kernel
theorem d_TG_init_64 : decode b_TG_init 64 = .ok (.bipush 13, 2) := by decide +kernel
theorem d_TG_init_66 : decode b_TG_init 66 = .ok (.multianewarray 41 2, 4) := by decide +kernel
theorem d_TG_init_70 : decode b_TG_init 70 = .ok (.putfield 43, 3) := by decide +kernel
theorem d_TG_init_73 : decode b_TG_init 73 = .ok (.aload_n 0, 1) := by decide +kernel
theorem d_TG_init_74 : decode b_TG_init 74 = .ok (.bipush 31, 2) := by decide +kernel
theorem d_TG_init_76 : decode b_TG_init 76 = .ok (.newarray .long, 2) := by decide +kernel
theorem d_TG_init_78 : decode b_TG_init 78 = .ok (.putfield 46, 3) := by decide +kernel
theorem d_TG_init_81 : decode b_TG_init 81 = .ok (.iconst 0, 1) := by decide +kernel
theorem d_TG_init_82 : decode b_TG_init 82 = .ok (.istore_n 1, 1) := by decide +kernel
theorem d_TG_init_83 : decode b_TG_init 83 = .ok (.iload_n 1, 1) := by decide +kernel
theorem d_TG_init_84 : decode b_TG_init 84 = .ok (.bipush 12, 2) := by decide +kernel
theorem d_TG_init_86 : decode b_TG_init 86 = .ok (.if_icmp .ge 22, 3) := by decide +kernel
theorem d_TG_init_89 : decode b_TG_init 89 = .ok (.aload_n 0, 1) := by decide +kernel
theorem d_TG_init_90 : decode b_TG_init 90 = .ok (.getfield 30, 3) := by decide +kernel
theorem d_TG_init_93 : decode b_TG_init 93 = .ok (.iload_n 1, 1) := by decide +kernel
theorem d_TG_init_94 : decode b_TG_init 94 = .ok (.new 28, 3) := by decide +kernel
theorem d_TG_init_97 : decode b_TG_init 97 = .ok (.dup, 1) := by decide +kernel
theorem d_TG_init_98 : decode b_TG_init 98 = .ok (.invokespecial 49, 3) := by decide +kernel
theorem d_TG_init_101 : decode b_TG_init 101 = .ok (.aastore, 1) := by decide +kernel
theorem d_TG_init_102 : decode b_TG_init 102 = .ok (.iinc 1 1, 3) := by decide +kernel
theorem d_TG_init_105 : decode b_TG_init 105 = .ok (.goto (-22), 3) := by decide +kernel
theorem d_TG_init_108 : decode b_TG_init 108 = .ok (.return_, 1) := by decide +kernel
theorem d_TG_run_0 : decode b_TG_run 0 = .ok (.aload_n 0, 1) := by decide +kernel
theorem d_TG_run_1 : decode b_TG_run 1 = .ok (.getfield 22, 3) := by decide +kernel
theorem d_TG_run_4 : decode b_TG_run 4 = .ok (.aload_n 1, 1) := by decide +kernel
theorem d_TG_run_5 : decode b_TG_run 5 = .ok (.invokevirtual 50, 3) := by decide +kernel
theorem d_TG_run_8 : decode b_TG_run 8 = .ok (.aload_n 2, 1) := by decide +kernel
theorem d_TG_run_9 : decode b_TG_run 9 = .ok (.iconst 0, 1) := by decide +kernel
theorem d_TG_run_10 : decode b_TG_run 10 = .ok (.aload_n 0, 1) := by decide +kernel
theorem d_TG_run_11 : decode b_TG_run 11 = .ok (.getfield 27, 3) := by decide +kernel
theorem d_TG_run_14 : decode b_TG_run 14 = .ok (.iconst 0, 1) := by decide +kernel
theorem d_TG_run_15 : decode b_TG_run 15 = .ok (.bipush 15, 2) := by decide +kernel
theorem d_TG_run_17 : decode b_TG_run 17 = .ok (.invokestatic 56, 3) := by decide +kernel
theorem d_TG_run_20 : decode b_TG_run 20 = .ok (.aload_n 0, 1) := by decide +kernel
theorem d_TG_run_21 : decode b_TG_run 21 = .ok (.invokevirtual 62, 3) := by decide +kernel
theorem d_TG_run_24 : decode b_TG_run 24 = .ok (.aload_n 0, 1) := by decide +kernel
theorem d_TG_run_25 : decode b_TG_run 25 = .ok (.getfield 22, 3) := by decide +kernel
theorem d_TG_run_28 : decode b_TG_run 28 = .ok (.invokevirtual 65, 3) := by decide +kernel
theorem d_TG_run_31 : decode b_TG_run 31 = .ok (.ifCond .le 13, 3) := by decide +kernel
theorem d_TG_run_34 : decode b_TG_run 34 = .ok (.aload_n 0, 1) := by decide +kernel
theorem d_TG_run_35 : decode b_TG_run 35 = .ok (.getfield 27, 3) := by decide +kernel
theorem d_TG_run_38 : decode b_TG_run 38 = .ok (.bipush 8, 2) := by decide +kernel
theorem d_TG_run_40 : decode b_TG_run 40 = .ok (.iaload, 1) := by decide +kernel
theorem d_TG_run_41 : decode b_TG_run 41 = .ok (.goto 4, 3) := by decide +kernel
theorem d_TG_run_44 : decode b_TG_run 44 = .ok (.iconst 0, 1) := by decide +kernel
theorem d_TG_run_45 : decode b_TG_run 45 = .ok (.istore_n 3, 1) := by decide +kernel
theorem d_TG_run_46 : decode b_TG_run 46 = .ok (.aload_n 0, 1) := by decide +kernel
theorem d_TG_run_47 : decode b_TG_run 47 = .ok (.getfield 43, 3) := by decide +kernel
theorem d_TG_run_50 : decode b_TG_run 50 = .ok (.iconst 1, 1) := by decide +kernel
theorem d_TG_run_51 : decode b_TG_run 51 = .ok (.aaload, 1) := by decide +kernel
theorem d_TG_run_52 : decode b_TG_run 52 = .ok (.iconst 0, 1) := by decide +kernel
theorem d_TG_run_53 : decode b_TG_run 53 = .ok (.laload, 1) := by decide +kernel
theorem d_TG_run_54 : decode b_TG_run 54 = .ok (.lstore 4, 2) := by decide +kernel
theorem d_TG_run_56 : decode b_TG_run 56 = .ok (.iconst 0, 1) := by decide +kernel
theorem d_TG_run_57 : decode b_TG_run 57 = .ok (.istore 6, 2) := by decide +kernel
theorem d_TG_run_59 : decode b_TG_run 59 = .ok (.iconst 0, 1) := by decide +kernel
theorem d_TG_run_60 : decode b_TG_run 60 = .ok (.istore 7, 2) := by decide +kernel
theorem d_TG_run_62 : decode b_TG_run 62 = .ok (.iload 7, 2) := by decide +kernel
theorem d_TG_run_64 : decode b_TG_run 64 = .ok (.aload_n 0, 1) := by decide +kernel
theorem d_TG_run_65 : decode b_TG_run 65 = .ok (.getfield 27, 3) := by decide +kernel
theorem d_TG_run_68 : decode b_TG_run 68 = .ok (.iconst 4, 1) := by decide +kernel
theorem d_TG_run_69 : decode b_TG_run 69 = .ok (.iaload, 1) := by decide +kernel
theorem d_TG_run_70 : decode b_TG_run 70 = .ok (.if_icmp .ge 100, 3) := by decide +kernel
theorem d_TG_run_73 : decode b_TG_run 73 = .ok (.iload 7, 2) := by decide +kernel
theorem d_TG_run_75 : decode b_TG_run 75 = .ok (.bipush 12, 2) := by decide +kernel
theorem d_TG_run_77 : decode b_TG_run 77 = .ok (.if_icmp .ge 93, 3) := by decide +kernel
theorem d_TG_run_80 : decode b_TG_run 80 = .ok (.aload_n 0, 1) := by decide +kernel
theorem d_TG_run_81 : decode b_TG_run 81 = .ok (.getfield 12, 3) := by decide +kernel
theorem d_TG_run_84 : decode b_TG_run 84 = .ok (.aload_n 0, 1) := by decide +kernel
theorem d_TG_run_85 : decode b_TG_run 85 = .ok (.getfield 30, 3) := by decide +kernel
theorem d_TG_run_88 : decode b_TG_run 88 = .ok (.iload 7, 2) := by decide +kernel
theorem d_TG_run_90 : decode b_TG_run 90 = .ok (.aaload, 1) := by decide +kernel
theorem d_TG_run_91 : decode b_TG_run 91 = .ok (.iload 7, 2) := by decide +kernel
theorem d_TG_run_93 : decode b_TG_run 93 = .ok (.aload_n 0, 1) := by decide +kernel
theorem d_TG_run_94 : decode b_TG_run 94 = .ok (.getfield 34, 3) := by decide +kernel
theorem d_TG_run_97 : decode b_TG_run 97 = .ok (.invokevirtual 69, 3) := by decide +kernel
theorem d_TG_run_100 : decode b_TG_run 100 = .ok (.aload_n 0, 1) := by decide +kernel
theorem d_TG_run_101 : decode b_TG_run 101 = .ok (.iload 7, 2) := by decide +kernel
theorem d_TG_run_103 : decode b_TG_run 103 = .ok (.invokevirtual 73, 3) := by decide +kernel
theorem d_TG_run_106 : decode b_TG_run 106 = .ok (.aload_n 0, 1) := by decide +kernel
theorem d_TG_run_107 : decode b_TG_run 107 = .ok (.getfield 43, 3) := by decide +kernel
theorem d_TG_run_110 : decode b_TG_run 110 = .ok (.iconst 1, 1) := by decide +kernel
theorem d_TG_run_111 : decode b_TG_run 111 = .ok (.aaload, 1) := by decide +kernel
theorem d_TG_run_112 : decode b_TG_run 112 = .ok (.aload_n 0, 1) := by decide +kernel
theorem d_TG_run_113 : decode b_TG_run 113 = .ok (.getfield 77, 3) := by decide +kernel
theorem d_TG_run_116 : decode b_TG_run 116 = .ok (.laload, 1) := by decide +kernel
theorem d_TG_run_117 : decode b_TG_run 117 = .ok (.lload 4, 2) := by decide +kernel
theorem d_TG_run_119 : decode b_TG_run 119 = .ok (.lcmp, 1) := by decide +kernel
theorem d_TG_run_120 : decode b_TG_run 120 = .ok (.ifCond .ge 7, 3) := by decide +kernel
theorem d_TG_run_123 : decode b_TG_run 123 = .ok (.iconst 0, 1) := by decide +kernel
theorem d_TG_run_124 : decode b_TG_run 124 = .ok (.goto 7, 3) := by decide +kernel
theorem d_TG_run_127 : decode b_TG_run 127 = .ok (.iload 6, 2) := by decide +kernel
theorem d_TG_run_129 : decode b_TG_run 129 = .ok (.iconst 1, 1) := by decide +kernel
theorem d_TG_run_130 : decode b_TG_run 130 = .ok (.iadd, 1) := by decide +kernel
theorem d_TG_run_131 : decode b_TG_run 131 = .ok (.istore 6, 2) := by decide +kernel
theorem d_TG_run_133 : decode b_TG_run 133 = .ok (.lload 4, 2) := by decide +kernel
theorem d_TG_run_135 : decode b_TG_run 135 = .ok (.aload_n 0, 1) := by decide +kernel
theorem d_TG_run_136 : decode b_TG_run 136 = .ok (.getfield 43, 3) := by decide +kernel
theorem d_TG_run_139 : decode b_TG_run 139 = .ok (.iconst 1, 1) := by decide +kernel
theorem d_TG_run_140 : decode b_TG_run 140 = .ok (.aaload, 1) := by decide +kernel
theorem d_TG_run_141 : decode b_TG_run 141 = .ok (.aload_n 0, 1) := by decide +kernel
theorem d_TG_run_142 : decode b_TG_run 142 = .ok (.getfield 77, 3) := by decide +kernel
theorem d_TG_run_145 : decode b_TG_run 145 = .ok (.laload, 1) := by decide +kernel
theorem d_TG_run_146 : decode b_TG_run 146 = .ok (.invokestatic 81, 3) := by decide +kernel
theorem d_TG_run_149 : decode b_TG_run 149 = .ok (.lstore 4, 2) := by decide +kernel
theorem d_TG_run_151 : decode b_TG_run 151 = .ok (.iload_n 3, 1) := by decide +kernel
theorem d_TG_run_152 : decode b_TG_run 152 = .ok (.ifCond .le 12, 3) := by decide +kernel
theorem d_TG_run_155 : decode b_TG_run 155 = .ok (.iload 6, 2) := by decide +kernel
theorem d_TG_run_157 : decode b_TG_run 157 = .ok (.iload_n 3, 1) := by decide +kernel
theorem d_TG_run_158 : decode b_TG_run 158 = .ok (.if_icmp .lt 6, 3) := by decide +kernel
theorem d_TG_run_161 : decode b_TG_run 161 = .ok (.goto 9, 3) := by decide +kernel
theorem d_TG_run_164 : decode b_TG_run 164 = .ok (.iinc 7 1, 3) := by decide +kernel
theorem d_TG_run_167 : decode b_TG_run 167 = .ok (.goto (-105), 3) := by decide +kernel
theorem d_TG_run_170 : decode b_TG_run 170 = .ok (.return_, 1) := by decide +kernel
theorem d_TG_begin_0 : decode b_TG_begin 0 = .ok (.aload_n 0, 1) := by decide +kernel
theorem d_TG_begin_1 : decode b_TG_begin 1 = .ok (.iconst 1, 1) := by decide +kernel
theorem d_TG_begin_2 : decode b_TG_begin 2 = .ok (.putfield 87, 3) := by decide +kernel
theorem d_TG_begin_5 : decode b_TG_begin 5 = .ok (.aload_n 0, 1) := by decide +kernel
theorem d_TG_begin_6 : decode b_TG_begin 6 = .ok (.iconst 0, 1) := by decide +kernel
theorem d_TG_begin_7 : decode b_TG_begin 7 = .ok (.putfield 77, 3) := by decide +kernel
theorem d_TG_begin_10 : decode b_TG_begin 10 = .ok (.iconst 0, 1) := by decide +kernel
theorem d_TG_begin_11 : decode b_TG_begin 11 = .ok (.istore_n 1, 1) := by decide +kernel
theorem d_TG_begin_12 : decode b_TG_begin 12 = .ok (.iload_n 1, 1) := by decide +kernel
theorem d_TG_begin_13 : decode b_TG_begin 13 = .ok (.aload_n 0, 1) := by decide +kernel
theorem d_TG_begin_14 : decode b_TG_begin 14 = .ok (.getfield 22, 3) := by decide +kernel
theorem d_TG_begin_17 : decode b_TG_begin 17 = .ok (.getfield 91, 3) := by decide +kernel
theorem d_TG_begin_20 : decode b_TG_begin 20 = .ok (.if_icmp .ge 26, 3) := by decide +kernel
theorem d_TG_begin_23 : decode b_TG_begin 23 = .ok (.aload_n 0, 1) := by decide +kernel
theorem d_TG_begin_24 : decode b_TG_begin 24 = .ok (.getfield 34, 3) := by decide +kernel
theorem d_TG_begin_27 : decode b_TG_begin 27 = .ok (.iload_n 1, 1) := by decide +kernel
theorem d_TG_begin_28 : decode b_TG_begin 28 = .ok (.aload_n 0, 1) := by decide +kernel
theorem d_TG_begin_29 : decode b_TG_begin 29 = .ok (.invokevirtual 94, 3) := by decide +kernel
theorem d_TG_begin_32 : decode b_TG_begin 32 = .ok (.lastore, 1) := by decide +kernel
theorem d_TG_begin_33 : decode b_TG_begin 33 = .ok (.aload_n 0, 1) := by decide +kernel
theorem d_TG_begin_34 : decode b_TG_begin 34 = .ok (.getfield 38, 3) := by decide +kernel
theorem d_TG_begin_37 : decode b_TG_begin 37 = .ok (.iload_n 1, 1) := by decide +kernel
theorem d_TG_begin_38 : decode b_TG_begin 38 = .ok (.iconst 0, 1) := by decide +kernel
theorem d_TG_begin_39 : decode b_TG_begin 39 = .ok (.iastore, 1) := by decide +kernel
theorem d_TG_begin_40 : decode b_TG_begin 40 = .ok (.iinc 1 1, 3) := by decide +kernel
theorem d_TG_begin_43 : decode b_TG_begin 43 = .ok (.goto (-31), 3) := by decide +kernel
theorem d_TG_begin_46 : decode b_TG_begin 46 = .ok (.aload_n 0, 1) := by decide +kernel
theorem d_TG_begin_47 : decode b_TG_begin 47 = .ok (.invokevirtual 98, 3) := by decide +kernel
theorem d_TG_begin_50 : decode b_TG_begin 50 = .ok (.aload_n 0, 1) := by decide +kernel
theorem d_TG_begin_51 : decode b_TG_begin 51 = .ok (.getfield 12, 3) := by decide +kernel
theorem d_TG_begin_54 : decode b_TG_begin 54 = .ok (.invokevirtual 101, 3) := by decide +kernel
theorem d_TG_begin_57 : decode b_TG_begin 57 = .ok (.return_, 1) := by decide +kernel
theorem d_TG_addTree_0 : decode b_TG_addTree 0 = .ok (.iconst 0, 1) := by decide +kernel
theorem d_TG_addTree_1 : decode b_TG_addTree 1 = .ok (.istore_n 2, 1) := by decide +kernel
theorem d_TG_addTree_2 : decode b_TG_addTree 2 = .ok (.iload_n 2, 1) := by decide +kernel
theorem d_TG_addTree_3 : decode b_TG_addTree 3 = .ok (.aload_n 0, 1) := by decide +kernel
theorem d_TG_addTree_4 : decode b_TG_addTree 4 = .ok (.getfield 22, 3) := by decide +kernel
theorem d_TG_addTree_7 : decode b_TG_addTree 7 = .ok (.getfield 91, 3) := by decide +kernel
theorem d_TG_addTree_10 : decode b_TG_addTree 10 = .ok (.if_icmp .ge 60, 3) := by decide +kernel
theorem d_TG_addTree_13 : decode b_TG_addTree 13 = .ok (.aload_n 0, 1) := by decide +kernel
theorem d_TG_addTree_14 : decode b_TG_addTree 14 = .ok (.getfield 34, 3) := by decide +kernel
theorem d_TG_addTree_17 : decode b_TG_addTree 17 = .ok (.iload_n 2, 1) := by decide +kernel
theorem d_TG_addTree_18 : decode b_TG_addTree 18 = .ok (.dup2, 1) := by decide +kernel
theorem d_TG_addTree_19 : decode b_TG_addTree 19 = .ok (.laload, 1) := by decide +kernel
theorem d_TG_addTree_20 : decode b_TG_addTree 20 = .ok (.aload_n 0, 1) := by decide +kernel
theorem d_TG_addTree_21 : decode b_TG_addTree 21 = .ok (.aload_n 0, 1) := by decide +kernel
theorem d_TG_addTree_22 : decode b_TG_addTree 22 = .ok (.getfield 30, 3) := by decide +kernel
theorem d_TG_addTree_25 : decode b_TG_addTree 25 = .ok (.iload_n 1, 1) := by decide +kernel
theorem d_TG_addTree_26 : decode b_TG_addTree 26 = .ok (.aaload, 1) := by decide +kernel
theorem d_TG_addTree_27 : decode b_TG_addTree 27 = .ok (.aload_n 0, 1) := by decide +kernel
theorem d_TG_addTree_28 : decode b_TG_addTree 28 = .ok (.getfield 22, 3) := by decide +kernel
theorem d_TG_addTree_31 : decode b_TG_addTree 31 = .ok (.getfield 104, 3) := by decide +kernel
theorem d_TG_addTree_34 : decode b_TG_addTree 34 = .ok (.iload_n 2, 1) := by decide +kernel
theorem d_TG_addTree_35 : decode b_TG_addTree 35 = .ok (.aaload, 1) := by decide +kernel
theorem d_TG_addTree_36 : decode b_TG_addTree 36 = .ok (.invokevirtual 108, 3) := by decide +kernel
theorem d_TG_addTree_39 : decode b_TG_addTree 39 = .ok (.ladd, 1) := by decide +kernel
theorem d_TG_addTree_40 : decode b_TG_addTree 40 = .ok (.lastore, 1) := by decide +kernel
theorem d_TG_addTree_41 : decode b_TG_addTree 41 = .ok (.aload_n 0, 1) := by decide +kernel
theorem d_TG_addTree_42 : decode b_TG_addTree 42 = .ok (.getfield 12, 3) := by decide +kernel
theorem d_TG_addTree_45 : decode b_TG_addTree 45 = .ok (.iload_n 2, 1) := by decide +kernel
theorem d_TG_addTree_46 : decode b_TG_addTree 46 = .ok (.invokevirtual 112, 3) := by decide +kernel
theorem d_TG_addTree_49 : decode b_TG_addTree 49 = .ok (.ifCond .eq 15, 3) := by decide +kernel
theorem d_TG_addTree_52 : decode b_TG_addTree 52 = .ok (.aload_n 0, 1) := by decide +kernel
theorem d_TG_addTree_53 : decode b_TG_addTree 53 = .ok (.getfield 38, 3) := by decide +kernel
theorem d_TG_addTree_56 : decode b_TG_addTree 56 = .ok (.iload_n 2, 1) := by decide +kernel
theorem d_TG_addTree_57 : decode b_TG_addTree 57 = .ok (.dup2, 1) := by decide +kernel
theorem d_TG_addTree_58 : decode b_TG_addTree 58 = .ok (.iaload, 1) := by decide +kernel
theorem d_TG_addTree_59 : decode b_TG_addTree 59 = .ok (.iconst 1, 1) := by decide +kernel
theorem d_TG_addTree_60 : decode b_TG_addTree 60 = .ok (.iload_n 1, 1) := by decide +kernel
theorem d_TG_addTree_61 : decode b_TG_addTree 61 = .ok (.ishl, 1) := by decide +kernel
theorem d_TG_addTree_62 : decode b_TG_addTree 62 = .ok (.ior, 1) := by decide +kernel
theorem d_TG_addTree_63 : decode b_TG_addTree 63 = .ok (.iastore, 1) := by decide +kernel
theorem d_TG_addTree_64 : decode b_TG_addTree 64 = .ok (.iinc 2 1, 3) := by decide +kernel
theorem d_TG_addTree_67 : decode b_TG_addTree 67 = .ok (.goto (-65), 3) := by decide +kernel
theorem d_TG_addTree_70 : decode b_TG_addTree 70 = .ok (.aload_n 0, 1) := by decide +kernel
theorem d_TG_addTree_71 : decode b_TG_addTree 71 = .ok (.iload_n 1, 1) := by decide +kernel
theorem d_TG_addTree_72 : decode b_TG_addTree 72 = .ok (.iconst 1, 1) := by decide +kernel
theorem d_TG_addTree_73 : decode b_TG_addTree 73 = .ok (.iadd, 1) := by decide +kernel
theorem d_TG_addTree_74 : decode b_TG_addTree 74 = .ok (.putfield 77, 3) := by decide +kernel
theorem d_TG_addTree_77 : decode b_TG_addTree 77 = .ok (.aload_n 0, 1) := by decide +kernel
theorem d_TG_addTree_78 : decode b_TG_addTree 78 = .ok (.invokevirtual 98, 3) := by decide +kernel
theorem d_TG_addTree_81 : decode b_TG_addTree 81 = .ok (.return_, 1) := by decide +kernel
theorem d_TG_keepLosses_0 : decode b_TG_keepLosses 0 = .ok (.aload_n 0, 1) := by decide +kernel
theorem d_TG_keepLosses_1 : decode b_TG_keepLosses 1 = .ok (.getfield 43, 3) := by decide +kernel
theorem d_TG_keepLosses_4 : decode b_TG_keepLosses 4 = .ok (.iconst 0, 1) := by decide +kernel
theorem d_TG_keepLosses_5 : decode b_TG_keepLosses 5 = .ok (.aaload, 1) := by decide +kernel
theorem d_TG_keepLosses_6 : decode b_TG_keepLosses 6 = .ok (.aload_n 0, 1) := by decide +kernel
theorem d_TG_keepLosses_7 : decode b_TG_keepLosses 7 = .ok (.getfield 77, 3) := by decide +kernel
theorem d_TG_keepLosses_10 : decode b_TG_keepLosses 10 = .ok (.lconst 0, 1) := by decide +kernel
theorem d_TG_keepLosses_11 : decode b_TG_keepLosses 11 = .ok (.lastore, 1) := by decide +kernel
theorem d_TG_keepLosses_12 : decode b_TG_keepLosses 12 = .ok (.aload_n 0, 1) := by decide +kernel
theorem d_TG_keepLosses_13 : decode b_TG_keepLosses 13 = .ok (.getfield 43, 3) := by decide +kernel
theorem d_TG_keepLosses_16 : decode b_TG_keepLosses 16 = .ok (.iconst 1, 1) := by decide +kernel
theorem d_TG_keepLosses_17 : decode b_TG_keepLosses 17 = .ok (.aaload, 1) := by decide +kernel
theorem d_TG_keepLosses_18 : decode b_TG_keepLosses 18 = .ok (.aload_n 0, 1) := by decide +kernel
theorem d_TG_keepLosses_19 : decode b_TG_keepLosses 19 = .ok (.getfield 77, 3) := by decide +kernel
theorem d_TG_keepLosses_22 : decode b_TG_keepLosses 22 = .ok (.lconst 0, 1) := by decide +kernel
theorem d_TG_keepLosses_23 : decode b_TG_keepLosses 23 = .ok (.lastore, 1) := by decide +kernel
theorem d_TG_keepLosses_24 : decode b_TG_keepLosses 24 = .ok (.iconst 0, 1) := by decide +kernel
theorem d_TG_keepLosses_25 : decode b_TG_keepLosses 25 = .ok (.istore_n 1, 1) := by decide +kernel
theorem d_TG_keepLosses_26 : decode b_TG_keepLosses 26 = .ok (.iload_n 1, 1) := by decide +kernel
theorem d_TG_keepLosses_27 : decode b_TG_keepLosses 27 = .ok (.aload_n 0, 1) := by decide +kernel
theorem d_TG_keepLosses_28 : decode b_TG_keepLosses 28 = .ok (.getfield 22, 3) := by decide +kernel
theorem d_TG_keepLosses_31 : decode b_TG_keepLosses 31 = .ok (.getfield 91, 3) := by decide +kernel
theorem d_TG_keepLosses_34 : decode b_TG_keepLosses 34 = .ok (.if_icmp .ge 75, 3) := by decide +kernel
theorem d_TG_keepLosses_37 : decode b_TG_keepLosses 37 = .ok (.aload_n 0, 1) := by decide +kernel
theorem d_TG_keepLosses_38 : decode b_TG_keepLosses 38 = .ok (.getfield 34, 3) := by decide +kernel
theorem d_TG_keepLosses_41 : decode b_TG_keepLosses 41 = .ok (.iload_n 1, 1) := by decide +kernel
theorem d_TG_keepLosses_42 : decode b_TG_keepLosses 42 = .ok (.laload, 1) := by decide +kernel
theorem d_TG_keepLosses_43 : decode b_TG_keepLosses 43 = .ok (.sipush 256, 3) := by decide +kernel
theorem d_TG_keepLosses_46 : decode b_TG_keepLosses 46 = .ok (.aload_n 0, 1) := by decide +kernel
theorem d_TG_keepLosses_47 : decode b_TG_keepLosses 47 = .ok (.getfield 22, 3) := by decide +kernel
theorem d_TG_keepLosses_50 : decode b_TG_keepLosses 50 = .ok (.getfield 116, 3) := by decide +kernel
theorem d_TG_keepLosses_53 : decode b_TG_keepLosses 53 = .ok (.iload_n 1, 1) := by decide +kernel
theorem d_TG_keepLosses_54 : decode b_TG_keepLosses 54 = .ok (.iaload, 1) := by decide +kernel
theorem d_TG_keepLosses_55 : decode b_TG_keepLosses 55 = .ok (.imul, 1) := by decide +kernel
theorem d_TG_keepLosses_56 : decode b_TG_keepLosses 56 = .ok (.i2l, 1) := by decide +kernel
theorem d_TG_keepLosses_57 : decode b_TG_keepLosses 57 = .ok (.lsub, 1) := by decide +kernel
theorem d_TG_keepLosses_58 : decode b_TG_keepLosses 58 = .ok (.lstore_n 2, 1) := by decide +kernel
theorem d_TG_keepLosses_59 : decode b_TG_keepLosses 59 = .ok (.aload_n 0, 1) := by decide +kernel
theorem d_TG_keepLosses_60 : decode b_TG_keepLosses 60 = .ok (.getfield 43, 3) := by decide +kernel
theorem d_TG_keepLosses_63 : decode b_TG_keepLosses 63 = .ok (.aload_n 0, 1) := by decide +kernel
theorem d_TG_keepLosses_64 : decode b_TG_keepLosses 64 = .ok (.getfield 22, 3) := by decide +kernel
theorem d_TG_keepLosses_67 : decode b_TG_keepLosses 67 = .ok (.getfield 119, 3) := by decide +kernel
theorem d_TG_keepLosses_70 : decode b_TG_keepLosses 70 = .ok (.iload_n 1, 1) := by decide +kernel
theorem d_TG_keepLosses_71 : decode b_TG_keepLosses 71 = .ok (.baload, 1) := by decide +kernel
theorem d_TG_keepLosses_72 : decode b_TG_keepLosses 72 = .ok (.ifCond .eq 7, 3) := by decide +kernel
theorem d_TG_keepLosses_75 : decode b_TG_keepLosses 75 = .ok (.iconst 1, 1) := by decide +kernel
theorem d_TG_keepLosses_76 : decode b_TG_keepLosses 76 = .ok (.goto 4, 3) := by decide +kernel
theorem d_TG_keepLosses_79 : decode b_TG_keepLosses 79 = .ok (.iconst 0, 1) := by decide +kernel
theorem d_TG_keepLosses_80 : decode b_TG_keepLosses 80 = .ok (.aaload, 1) := by decide +kernel
theorem d_TG_keepLosses_81 : decode b_TG_keepLosses 81 = .ok (.aload_n 0, 1) := by decide +kernel
theorem d_TG_keepLosses_82 : decode b_TG_keepLosses 82 = .ok (.getfield 77, 3) := by decide +kernel
theorem d_TG_keepLosses_85 : decode b_TG_keepLosses 85 = .ok (.dup2, 1) := by decide +kernel
theorem d_TG_keepLosses_86 : decode b_TG_keepLosses 86 = .ok (.laload, 1) := by decide +kernel
theorem d_TG_keepLosses_87 : decode b_TG_keepLosses 87 = .ok (.aload_n 0, 1) := by decide +kernel
theorem d_TG_keepLosses_88 : decode b_TG_keepLosses 88 = .ok (.getfield 22, 3) := by decide +kernel
theorem d_TG_keepLosses_91 : decode b_TG_keepLosses 91 = .ok (.getfield 123, 3) := by decide +kernel
theorem d_TG_keepLosses_94 : decode b_TG_keepLosses 94 = .ok (.iload_n 1, 1) := by decide +kernel
theorem d_TG_keepLosses_95 : decode b_TG_keepLosses 95 = .ok (.iaload, 1) := by decide +kernel
theorem d_TG_keepLosses_96 : decode b_TG_keepLosses 96 = .ok (.i2l, 1) := by decide +kernel
theorem d_TG_keepLosses_97 : decode b_TG_keepLosses 97 = .ok (.lload_n 2, 1) := by decide +kernel
theorem d_TG_keepLosses_98 : decode b_TG_keepLosses 98 = .ok (.lmul, 1) := by decide +kernel
theorem d_TG_keepLosses_99 : decode b_TG_keepLosses 99 = .ok (.lload_n 2, 1) := by decide +kernel
theorem d_TG_keepLosses_100 : decode b_TG_keepLosses 100 = .ok (.lmul, 1) := by decide +kernel
theorem d_TG_keepLosses_101 : decode b_TG_keepLosses 101 = .ok (.ladd, 1) := by decide +kernel
theorem d_TG_keepLosses_102 : decode b_TG_keepLosses 102 = .ok (.lastore, 1) := by decide +kernel
theorem d_TG_keepLosses_103 : decode b_TG_keepLosses 103 = .ok (.iinc 1 1, 3) := by decide +kernel
theorem d_TG_keepLosses_106 : decode b_TG_keepLosses 106 = .ok (.goto (-80), 3) := by decide +kernel
theorem d_TG_keepLosses_109 : decode b_TG_keepLosses 109 = .ok (.return_, 1) := by decide +kernel
theorem d_TG_treesOfLeastLoss_0 : decode b_TG_treesOfLeastLoss 0 = .ok (.aload_n 0, 1) := by decide +kernel
theorem d_TG_treesOfLeastLoss_1 : decode b_TG_treesOfLeastLoss 1 = .ok (.getfield 22, 3) := by decide +kernel
theorem d_TG_treesOfLeastLoss_4 : decode b_TG_treesOfLeastLoss 4 = .ok (.invokevirtual 65, 3) := by decide +kernel
theorem d_TG_treesOfLeastLoss_7 : decode b_TG_treesOfLeastLoss 7 = .ok (.ifCond .ne 8, 3) := by decide +kernel
theorem d_TG_treesOfLeastLoss_10 : decode b_TG_treesOfLeastLoss 10 = .ok (.aload_n 0, 1) := by decide +kernel
theorem d_TG_treesOfLeastLoss_11 : decode b_TG_treesOfLeastLoss 11 = .ok (.getfield 77, 3) := by decide +kernel
theorem d_TG_treesOfLeastLoss_14 : decode b_TG_treesOfLeastLoss 14 = .ok (.ireturn, 1) := by decide +kernel
theorem d_TG_treesOfLeastLoss_15 : decode b_TG_treesOfLeastLoss 15 = .ok (.iconst 0, 1) := by decide +kernel
theorem d_TG_treesOfLeastLoss_16 : decode b_TG_treesOfLeastLoss 16 = .ok (.istore_n 1, 1) := by decide +kernel
theorem d_TG_treesOfLeastLoss_17 : decode b_TG_treesOfLeastLoss 17 = .ok (.iconst 1, 1) := by decide +kernel
theorem d_TG_treesOfLeastLoss_18 : decode b_TG_treesOfLeastLoss 18 = .ok (.istore_n 2, 1) := by decide +kernel
theorem d_TG_treesOfLeastLoss_19 : decode b_TG_treesOfLeastLoss 19 = .ok (.iload_n 2, 1) := by decide +kernel
theorem d_TG_treesOfLeastLoss_20 : decode b_TG_treesOfLeastLoss 20 = .ok (.aload_n 0, 1) := by decide +kernel
theorem d_TG_treesOfLeastLoss_21 : decode b_TG_treesOfLeastLoss 21 = .ok (.getfield 77, 3) := by decide +kernel
theorem d_TG_treesOfLeastLoss_24 : decode b_TG_treesOfLeastLoss 24 = .ok (.if_icmp .gt 31, 3) := by decide +kernel
theorem d_TG_treesOfLeastLoss_27 : decode b_TG_treesOfLeastLoss 27 = .ok (.aload_n 0, 1) := by decide +kernel
theorem d_TG_treesOfLeastLoss_28 : decode b_TG_treesOfLeastLoss 28 = .ok (.getfield 43, 3) := by decide +kernel
theorem d_TG_treesOfLeastLoss_31 : decode b_TG_treesOfLeastLoss 31 = .ok (.iconst 1, 1) := by decide +kernel
theorem d_TG_treesOfLeastLoss_32 : decode b_TG_treesOfLeastLoss 32 = .ok (.aaload, 1) := by decide +kernel
theorem d_TG_treesOfLeastLoss_33 : decode b_TG_treesOfLeastLoss 33 = .ok (.iload_n 2, 1) := by decide +kernel
theorem d_TG_treesOfLeastLoss_34 : decode b_TG_treesOfLeastLoss 34 = .ok (.laload, 1) := by decide +kernel
theorem d_TG_treesOfLeastLoss_35 : decode b_TG_treesOfLeastLoss 35 = .ok (.aload_n 0, 1) := by decide +kernel
theorem d_TG_treesOfLeastLoss_36 : decode b_TG_treesOfLeastLoss 36 = .ok (.getfield 43, 3) := by decide +kernel
theorem d_TG_treesOfLeastLoss_39 : decode b_TG_treesOfLeastLoss 39 = .ok (.iconst 1, 1) := by decide +kernel
theorem d_TG_treesOfLeastLoss_40 : decode b_TG_treesOfLeastLoss 40 = .ok (.aaload, 1) := by decide +kernel
theorem d_TG_treesOfLeastLoss_41 : decode b_TG_treesOfLeastLoss 41 = .ok (.iload_n 1, 1) := by decide +kernel
theorem d_TG_treesOfLeastLoss_42 : decode b_TG_treesOfLeastLoss 42 = .ok (.laload, 1) := by decide +kernel
theorem d_TG_treesOfLeastLoss_43 : decode b_TG_treesOfLeastLoss 43 = .ok (.lcmp, 1) := by decide +kernel
theorem d_TG_treesOfLeastLoss_44 : decode b_TG_treesOfLeastLoss 44 = .ok (.ifCond .ge 5, 3) := by decide +kernel
theorem d_TG_treesOfLeastLoss_47 : decode b_TG_treesOfLeastLoss 47 = .ok (.iload_n 2, 1) := by decide +kernel
theorem d_TG_treesOfLeastLoss_48 : decode b_TG_treesOfLeastLoss 48 = .ok (.istore_n 1, 1) := by decide +kernel
theorem d_TG_treesOfLeastLoss_49 : decode b_TG_treesOfLeastLoss 49 = .ok (.iinc 2 1, 3) := by decide +kernel
theorem d_TG_treesOfLeastLoss_52 : decode b_TG_treesOfLeastLoss 52 = .ok (.goto (-33), 3) := by decide +kernel
theorem d_TG_treesOfLeastLoss_55 : decode b_TG_treesOfLeastLoss 55 = .ok (.iload_n 1, 1) := by decide +kernel
theorem d_TG_treesOfLeastLoss_56 : decode b_TG_treesOfLeastLoss 56 = .ok (.ireturn, 1) := by decide +kernel
theorem d_TG_answerBy_0 : decode b_TG_answerBy 0 = .ok (.aload_n 0, 1) := by decide +kernel
theorem d_TG_answerBy_1 : decode b_TG_answerBy 1 = .ok (.invokevirtual 94, 3) := by decide +kernel
theorem d_TG_answerBy_4 : decode b_TG_answerBy 4 = .ok (.lstore_n 3, 1) := by decide +kernel
theorem d_TG_answerBy_5 : decode b_TG_answerBy 5 = .ok (.iconst 0, 1) := by decide +kernel
theorem d_TG_answerBy_6 : decode b_TG_answerBy 6 = .ok (.istore 5, 2) := by decide +kernel
theorem d_TG_answerBy_8 : decode b_TG_answerBy 8 = .ok (.iload 5, 2) := by decide +kernel
theorem d_TG_answerBy_10 : decode b_TG_answerBy 10 = .ok (.iload_n 1, 1) := by decide +kernel
theorem d_TG_answerBy_11 : decode b_TG_answerBy 11 = .ok (.if_icmp .ge 33, 3) := by decide +kernel
theorem d_TG_answerBy_14 : decode b_TG_answerBy 14 = .ok (.iload 5, 2) := by decide +kernel
theorem d_TG_answerBy_16 : decode b_TG_answerBy 16 = .ok (.aload_n 0, 1) := by decide +kernel
theorem d_TG_answerBy_17 : decode b_TG_answerBy 17 = .ok (.getfield 77, 3) := by decide +kernel
theorem d_TG_answerBy_20 : decode b_TG_answerBy 20 = .ok (.if_icmp .ge 24, 3) := by decide +kernel
theorem d_TG_answerBy_23 : decode b_TG_answerBy 23 = .ok (.lload_n 3, 1) := by decide +kernel
theorem d_TG_answerBy_24 : decode b_TG_answerBy 24 = .ok (.aload_n 0, 1) := by decide +kernel
theorem d_TG_answerBy_25 : decode b_TG_answerBy 25 = .ok (.aload_n 0, 1) := by decide +kernel
theorem d_TG_answerBy_26 : decode b_TG_answerBy 26 = .ok (.getfield 30, 3) := by decide +kernel
theorem d_TG_answerBy_29 : decode b_TG_answerBy 29 = .ok (.iload 5, 2) := by decide +kernel
theorem d_TG_answerBy_31 : decode b_TG_answerBy 31 = .ok (.aaload, 1) := by decide +kernel
theorem d_TG_answerBy_32 : decode b_TG_answerBy 32 = .ok (.aload_n 2, 1) := by decide +kernel
theorem d_TG_answerBy_33 : decode b_TG_answerBy 33 = .ok (.invokevirtual 108, 3) := by decide +kernel
theorem d_TG_answerBy_36 : decode b_TG_answerBy 36 = .ok (.ladd, 1) := by decide +kernel
theorem d_TG_answerBy_37 : decode b_TG_answerBy 37 = .ok (.lstore_n 3, 1) := by decide +kernel
theorem d_TG_answerBy_38 : decode b_TG_answerBy 38 = .ok (.iinc 5 1, 3) := by decide +kernel
theorem d_TG_answerBy_41 : decode b_TG_answerBy 41 = .ok (.goto (-33), 3) := by decide +kernel
theorem d_TG_answerBy_44 : decode b_TG_answerBy 44 = .ok (.lload_n 3, 1) := by decide +kernel
theorem d_TG_answerBy_45 : decode b_TG_answerBy 45 = .ok (.lreturn, 1) := by decide +kernel
theorem d_TG_leftOut_0 : decode b_TG_leftOut 0 = .ok (.aload_n 0, 1) := by decide +kernel
theorem d_TG_leftOut_1 : decode b_TG_leftOut 1 = .ok (.invokevirtual 94, 3) := by decide +kernel
theorem d_TG_leftOut_4 : decode b_TG_leftOut 4 = .ok (.lstore_n 2, 1) := by decide +kernel
theorem d_TG_leftOut_5 : decode b_TG_leftOut 5 = .ok (.iconst 0, 1) := by decide +kernel
theorem d_TG_leftOut_6 : decode b_TG_leftOut 6 = .ok (.istore 4, 2) := by decide +kernel
theorem d_TG_leftOut_8 : decode b_TG_leftOut 8 = .ok (.iload 4, 2) := by decide +kernel
theorem d_TG_leftOut_10 : decode b_TG_leftOut 10 = .ok (.aload_n 0, 1) := by decide +kernel
theorem d_TG_leftOut_11 : decode b_TG_leftOut 11 = .ok (.getfield 77, 3) := by decide +kernel
theorem d_TG_leftOut_14 : decode b_TG_leftOut 14 = .ok (.if_icmp .ge 46, 3) := by decide +kernel
theorem d_TG_leftOut_17 : decode b_TG_leftOut 17 = .ok (.aload_n 0, 1) := by decide +kernel
theorem d_TG_leftOut_18 : decode b_TG_leftOut 18 = .ok (.getfield 38, 3) := by decide +kernel
theorem d_TG_leftOut_21 : decode b_TG_leftOut 21 = .ok (.iload_n 1, 1) := by decide +kernel
theorem d_TG_leftOut_22 : decode b_TG_leftOut 22 = .ok (.iaload, 1) := by decide +kernel
theorem d_TG_leftOut_23 : decode b_TG_leftOut 23 = .ok (.iload 4, 2) := by decide +kernel
theorem d_TG_leftOut_25 : decode b_TG_leftOut 25 = .ok (.ishr, 1) := by decide +kernel
theorem d_TG_leftOut_26 : decode b_TG_leftOut 26 = .ok (.iconst 1, 1) := by decide +kernel
theorem d_TG_leftOut_27 : decode b_TG_leftOut 27 = .ok (.iand, 1) := by decide +kernel
theorem d_TG_leftOut_28 : decode b_TG_leftOut 28 = .ok (.ifCond .ne 26, 3) := by decide +kernel
theorem d_TG_leftOut_31 : decode b_TG_leftOut 31 = .ok (.lload_n 2, 1) := by decide +kernel
theorem d_TG_leftOut_32 : decode b_TG_leftOut 32 = .ok (.aload_n 0, 1) := by decide +kernel
theorem d_TG_leftOut_33 : decode b_TG_leftOut 33 = .ok (.aload_n 0, 1) := by decide +kernel
theorem d_TG_leftOut_34 : decode b_TG_leftOut 34 = .ok (.getfield 30, 3) := by decide +kernel
theorem d_TG_leftOut_37 : decode b_TG_leftOut 37 = .ok (.iload 4, 2) := by decide +kernel
theorem d_TG_leftOut_39 : decode b_TG_leftOut 39 = .ok (.aaload, 1) := by decide +kernel
theorem d_TG_leftOut_40 : decode b_TG_leftOut 40 = .ok (.aload_n 0, 1) := by decide +kernel
theorem d_TG_leftOut_41 : decode b_TG_leftOut 41 = .ok (.getfield 22, 3) := by decide +kernel
theorem d_TG_leftOut_44 : decode b_TG_leftOut 44 = .ok (.getfield 104, 3) := by decide +kernel
theorem d_TG_leftOut_47 : decode b_TG_leftOut 47 = .ok (.iload_n 1, 1) := by decide +kernel
theorem d_TG_leftOut_48 : decode b_TG_leftOut 48 = .ok (.aaload, 1) := by decide +kernel
theorem d_TG_leftOut_49 : decode b_TG_leftOut 49 = .ok (.invokevirtual 108, 3) := by decide +kernel
theorem d_TG_leftOut_52 : decode b_TG_leftOut 52 = .ok (.ladd, 1) := by decide +kernel
theorem d_TG_leftOut_53 : decode b_TG_leftOut 53 = .ok (.lstore_n 2, 1) := by decide +kernel
theorem d_TG_leftOut_54 : decode b_TG_leftOut 54 = .ok (.iinc 4 1, 3) := by decide +kernel
theorem d_TG_leftOut_57 : decode b_TG_leftOut 57 = .ok (.goto (-49), 3) := by decide +kernel
theorem d_TG_leftOut_60 : decode b_TG_leftOut 60 = .ok (.lload_n 2, 1) := by decide +kernel
theorem d_TG_leftOut_61 : decode b_TG_leftOut 61 = .ok (.lreturn, 1) := by decide +kernel
theorem d_TG_gainBy_0 : decode b_TG_gainBy 0 = .ok (.lconst 0, 1) := by decide +kernel
theorem d_TG_gainBy_1 : decode b_TG_gainBy 1 = .ok (.lstore_n 2, 1) := by decide +kernel
theorem d_TG_gainBy_2 : decode b_TG_gainBy 2 = .ok (.iconst 0, 1) := by decide +kernel
theorem d_TG_gainBy_3 : decode b_TG_gainBy 3 = .ok (.istore 4, 2) := by decide +kernel
theorem d_TG_gainBy_5 : decode b_TG_gainBy 5 = .ok (.iload 4, 2) := by decide +kernel
theorem d_TG_gainBy_7 : decode b_TG_gainBy 7 = .ok (.aload_n 0, 1) := by decide +kernel
theorem d_TG_gainBy_8 : decode b_TG_gainBy 8 = .ok (.getfield 77, 3) := by decide +kernel
theorem d_TG_gainBy_11 : decode b_TG_gainBy 11 = .ok (.if_icmp .ge 70, 3) := by decide +kernel
theorem d_TG_gainBy_14 : decode b_TG_gainBy 14 = .ok (.iconst 0, 1) := by decide +kernel
theorem d_TG_gainBy_15 : decode b_TG_gainBy 15 = .ok (.istore 5, 2) := by decide +kernel
theorem d_TG_gainBy_17 : decode b_TG_gainBy 17 = .ok (.iload 5, 2) := by decide +kernel
theorem d_TG_gainBy_19 : decode b_TG_gainBy 19 = .ok (.aload_n 0, 1) := by decide +kernel
theorem d_TG_gainBy_20 : decode b_TG_gainBy 20 = .ok (.getfield 30, 3) := by decide +kernel
theorem d_TG_gainBy_23 : decode b_TG_gainBy 23 = .ok (.iload 4, 2) := by decide +kernel
theorem d_TG_gainBy_25 : decode b_TG_gainBy 25 = .ok (.aaload, 1) := by decide +kernel
theorem d_TG_gainBy_26 : decode b_TG_gainBy 26 = .ok (.getfield 126, 3) := by decide +kernel
theorem d_TG_gainBy_29 : decode b_TG_gainBy 29 = .ok (.if_icmp .ge 46, 3) := by decide +kernel
theorem d_TG_gainBy_32 : decode b_TG_gainBy 32 = .ok (.aload_n 0, 1) := by decide +kernel
theorem d_TG_gainBy_33 : decode b_TG_gainBy 33 = .ok (.getfield 30, 3) := by decide +kernel
theorem d_TG_gainBy_36 : decode b_TG_gainBy 36 = .ok (.iload 4, 2) := by decide +kernel
theorem d_TG_gainBy_38 : decode b_TG_gainBy 38 = .ok (.aaload, 1) := by decide +kernel
theorem d_TG_gainBy_39 : decode b_TG_gainBy 39 = .ok (.getfield 129, 3) := by decide +kernel
theorem d_TG_gainBy_42 : decode b_TG_gainBy 42 = .ok (.iconst 0, 1) := by decide +kernel
theorem d_TG_gainBy_43 : decode b_TG_gainBy 43 = .ok (.aaload, 1) := by decide +kernel
theorem d_TG_gainBy_44 : decode b_TG_gainBy 44 = .ok (.iload 5, 2) := by decide +kernel
theorem d_TG_gainBy_46 : decode b_TG_gainBy 46 = .ok (.iaload, 1) := by decide +kernel
theorem d_TG_gainBy_47 : decode b_TG_gainBy 47 = .ok (.iload_n 1, 1) := by decide +kernel
theorem d_TG_gainBy_48 : decode b_TG_gainBy 48 = .ok (.if_icmp .ne 21, 3) := by decide +kernel
theorem d_TG_gainBy_51 : decode b_TG_gainBy 51 = .ok (.lload_n 2, 1) := by decide +kernel
theorem d_TG_gainBy_52 : decode b_TG_gainBy 52 = .ok (.aload_n 0, 1) := by decide +kernel
theorem d_TG_gainBy_53 : decode b_TG_gainBy 53 = .ok (.getfield 30, 3) := by decide +kernel
theorem d_TG_gainBy_56 : decode b_TG_gainBy 56 = .ok (.iload 4, 2) := by decide +kernel
theorem d_TG_gainBy_58 : decode b_TG_gainBy 58 = .ok (.aaload, 1) := by decide +kernel
theorem d_TG_gainBy_59 : decode b_TG_gainBy 59 = .ok (.getfield 132, 3) := by decide +kernel
theorem d_TG_gainBy_62 : decode b_TG_gainBy 62 = .ok (.iconst 2, 1) := by decide +kernel
theorem d_TG_gainBy_63 : decode b_TG_gainBy 63 = .ok (.aaload, 1) := by decide +kernel
theorem d_TG_gainBy_64 : decode b_TG_gainBy 64 = .ok (.iload 5, 2) := by decide +kernel
theorem d_TG_gainBy_66 : decode b_TG_gainBy 66 = .ok (.laload, 1) := by decide +kernel
theorem d_TG_gainBy_67 : decode b_TG_gainBy 67 = .ok (.ladd, 1) := by decide +kernel
theorem d_TG_gainBy_68 : decode b_TG_gainBy 68 = .ok (.lstore_n 2, 1) := by decide +kernel
theorem d_TG_gainBy_69 : decode b_TG_gainBy 69 = .ok (.iinc 5 1, 3) := by decide +kernel
theorem d_TG_gainBy_72 : decode b_TG_gainBy 72 = .ok (.goto (-55), 3) := by decide +kernel
theorem d_TG_gainBy_75 : decode b_TG_gainBy 75 = .ok (.iinc 4 1, 3) := by decide +kernel
theorem d_TG_gainBy_78 : decode b_TG_gainBy 78 = .ok (.goto (-73), 3) := by decide +kernel
theorem d_TG_gainBy_81 : decode b_TG_gainBy 81 = .ok (.lload_n 2, 1) := by decide +kernel
theorem d_TG_gainBy_82 : decode b_TG_gainBy 82 = .ok (.lreturn, 1) := by decide +kernel
theorem d_TG_tellAll_0 : decode b_TG_tellAll 0 = .ok (.aload_n 0, 1) := by decide +kernel
theorem d_TG_tellAll_1 : decode b_TG_tellAll 1 = .ok (.invokevirtual 94, 3) := by decide +kernel
theorem d_TG_tellAll_4 : decode b_TG_tellAll 4 = .ok (.lstore_n 3, 1) := by decide +kernel
theorem d_TG_tellAll_5 : decode b_TG_tellAll 5 = .ok (.iconst 0, 1) := by decide +kernel
theorem d_TG_tellAll_6 : decode b_TG_tellAll 6 = .ok (.istore 5, 2) := by decide +kernel
theorem d_TG_tellAll_8 : decode b_TG_tellAll 8 = .ok (.iload 5, 2) := by decide +kernel
theorem d_TG_tellAll_10 : decode b_TG_tellAll 10 = .ok (.aload_n 0, 1) := by decide +kernel
theorem d_TG_tellAll_11 : decode b_TG_tellAll 11 = .ok (.getfield 77, 3) := by decide +kernel
theorem d_TG_tellAll_14 : decode b_TG_tellAll 14 = .ok (.if_icmp .ge 25, 3) := by decide +kernel
theorem d_TG_tellAll_17 : decode b_TG_tellAll 17 = .ok (.lload_n 3, 1) := by decide +kernel
theorem d_TG_tellAll_18 : decode b_TG_tellAll 18 = .ok (.aload_n 0, 1) := by decide +kernel
theorem d_TG_tellAll_19 : decode b_TG_tellAll 19 = .ok (.aload_n 0, 1) := by decide +kernel
theorem d_TG_tellAll_20 : decode b_TG_tellAll 20 = .ok (.getfield 30, 3) := by decide +kernel
theorem d_TG_tellAll_23 : decode b_TG_tellAll 23 = .ok (.iload 5, 2) := by decide +kernel
theorem d_TG_tellAll_25 : decode b_TG_tellAll 25 = .ok (.aaload, 1) := by decide +kernel
theorem d_TG_tellAll_26 : decode b_TG_tellAll 26 = .ok (.iload_n 1, 1) := by decide +kernel
theorem d_TG_tellAll_27 : decode b_TG_tellAll 27 = .ok (.aload_n 2, 1) := by decide +kernel
theorem d_TG_tellAll_28 : decode b_TG_tellAll 28 = .ok (.invokevirtual 135, 3) := by decide +kernel
theorem d_TG_tellAll_31 : decode b_TG_tellAll 31 = .ok (.ladd, 1) := by decide +kernel
theorem d_TG_tellAll_32 : decode b_TG_tellAll 32 = .ok (.lstore_n 3, 1) := by decide +kernel
theorem d_TG_tellAll_33 : decode b_TG_tellAll 33 = .ok (.iinc 5 1, 3) := by decide +kernel
theorem d_TG_tellAll_36 : decode b_TG_tellAll 36 = .ok (.goto (-28), 3) := by decide +kernel
theorem d_TG_tellAll_39 : decode b_TG_tellAll 39 = .ok (.lload_n 3, 1) := by decide +kernel
theorem d_TG_tellAll_40 : decode b_TG_tellAll 40 = .ok (.lreturn, 1) := by decide +kernel
theorem d_TG_fairShare_0 : decode b_TG_fairShare 0 = .ok (.iconst 1, 1) := by decide +kernel
theorem d_TG_fairShare_1 : decode b_TG_fairShare 1 = .ok (.iload_n 1, 1) := by decide +kernel
theorem d_TG_fairShare_2 : decode b_TG_fairShare 2 = .ok (.ishl, 1) := by decide +kernel
theorem d_TG_fairShare_3 : decode b_TG_fairShare 3 = .ok (.istore_n 3, 1) := by decide +kernel
theorem d_TG_fairShare_4 : decode b_TG_fairShare 4 = .ok (.lconst 0, 1) := by decide +kernel
theorem d_TG_fairShare_5 : decode b_TG_fairShare 5 = .ok (.lstore 4, 2) := by decide +kernel
theorem d_TG_fairShare_7 : decode b_TG_fairShare 7 = .ok (.iconst 0, 1) := by decide +kernel
theorem d_TG_fairShare_8 : decode b_TG_fairShare 8 = .ok (.istore 6, 2) := by decide +kernel
theorem d_TG_fairShare_10 : decode b_TG_fairShare 10 = .ok (.iload 6, 2) := by decide +kernel
theorem d_TG_fairShare_12 : decode b_TG_fairShare 12 = .ok (.bipush 16, 2) := by decide +kernel
theorem d_TG_fairShare_14 : decode b_TG_fairShare 14 = .ok (.if_icmp .ge 68, 3) := by decide +kernel
theorem d_TG_fairShare_17 : decode b_TG_fairShare 17 = .ok (.iload 6, 2) := by decide +kernel
theorem d_TG_fairShare_19 : decode b_TG_fairShare 19 = .ok (.iload_n 3, 1) := by decide +kernel
theorem d_TG_fairShare_20 : decode b_TG_fairShare 20 = .ok (.iand, 1) := by decide +kernel
theorem d_TG_fairShare_21 : decode b_TG_fairShare 21 = .ok (.ifCond .ne 55, 3) := by decide +kernel
theorem d_TG_fairShare_24 : decode b_TG_fairShare 24 = .ok (.iload 6, 2) := by decide +kernel
theorem d_TG_fairShare_26 : decode b_TG_fairShare 26 = .ok (.invokestatic 139, 3) := by decide +kernel
theorem d_TG_fairShare_29 : decode b_TG_fairShare 29 = .ok (.istore 7, 2) := by decide +kernel
theorem d_TG_fairShare_31 : decode b_TG_fairShare 31 = .ok (.iload 7, 2) := by decide +kernel
theorem d_TG_fairShare_33 : decode b_TG_fairShare 33 = .ok (.ifCond .eq 9, 3) := by decide +kernel
theorem d_TG_fairShare_36 : decode b_TG_fairShare 36 = .ok (.iload 7, 2) := by decide +kernel
theorem d_TG_fairShare_38 : decode b_TG_fairShare 38 = .ok (.iconst 3, 1) := by decide +kernel
theorem d_TG_fairShare_39 : decode b_TG_fairShare 39 = .ok (.if_icmp .ne 8, 3) := by decide +kernel
theorem d_TG_fairShare_42 : decode b_TG_fairShare 42 = .ok (.bipush 6, 2) := by decide +kernel
theorem d_TG_fairShare_44 : decode b_TG_fairShare 44 = .ok (.goto 4, 3) := by decide +kernel
theorem d_TG_fairShare_47 : decode b_TG_fairShare 47 = .ok (.iconst 2, 1) := by decide +kernel
theorem d_TG_fairShare_48 : decode b_TG_fairShare 48 = .ok (.istore 8, 2) := by decide +kernel
theorem d_TG_fairShare_50 : decode b_TG_fairShare 50 = .ok (.lload 4, 2) := by decide +kernel
theorem d_TG_fairShare_52 : decode b_TG_fairShare 52 = .ok (.iload 8, 2) := by decide +kernel
theorem d_TG_fairShare_54 : decode b_TG_fairShare 54 = .ok (.i2l, 1) := by decide +kernel
theorem d_TG_fairShare_55 : decode b_TG_fairShare 55 = .ok (.aload_n 0, 1) := by decide +kernel
theorem d_TG_fairShare_56 : decode b_TG_fairShare 56 = .ok (.iload 6, 2) := by decide +kernel
theorem d_TG_fairShare_58 : decode b_TG_fairShare 58 = .ok (.iload_n 3, 1) := by decide +kernel
theorem d_TG_fairShare_59 : decode b_TG_fairShare 59 = .ok (.ior, 1) := by decide +kernel
theorem d_TG_fairShare_60 : decode b_TG_fairShare 60 = .ok (.aload_n 2, 1) := by decide +kernel
theorem d_TG_fairShare_61 : decode b_TG_fairShare 61 = .ok (.invokevirtual 145, 3) := by decide +kernel
theorem d_TG_fairShare_64 : decode b_TG_fairShare 64 = .ok (.aload_n 0, 1) := by decide +kernel
theorem d_TG_fairShare_65 : decode b_TG_fairShare 65 = .ok (.iload 6, 2) := by decide +kernel
theorem d_TG_fairShare_67 : decode b_TG_fairShare 67 = .ok (.aload_n 2, 1) := by decide +kernel
theorem d_TG_fairShare_68 : decode b_TG_fairShare 68 = .ok (.invokevirtual 145, 3) := by decide +kernel
theorem d_TG_fairShare_71 : decode b_TG_fairShare 71 = .ok (.lsub, 1) := by decide +kernel
theorem d_TG_fairShare_72 : decode b_TG_fairShare 72 = .ok (.lmul, 1) := by decide +kernel
theorem d_TG_fairShare_73 : decode b_TG_fairShare 73 = .ok (.ladd, 1) := by decide +kernel
theorem d_TG_fairShare_74 : decode b_TG_fairShare 74 = .ok (.lstore 4, 2) := by decide +kernel
theorem d_TG_fairShare_76 : decode b_TG_fairShare 76 = .ok (.iinc 6 1, 3) := by decide +kernel
theorem d_TG_fairShare_79 : decode b_TG_fairShare 79 = .ok (.goto (-69), 3) := by decide +kernel
theorem d_TG_fairShare_82 : decode b_TG_fairShare 82 = .ok (.lload 4, 2) := by decide +kernel
theorem d_TG_fairShare_84 : decode b_TG_fairShare 84 = .ok (.lreturn, 1) := by decide +kernel
theorem d_TG_tellTree_0 : decode b_TG_tellTree 0 = .ok (.aload_n 1, 1) := by decide +kernel
theorem d_TG_tellTree_1 : decode b_TG_tellTree 1 = .ok (.getfield 126, 3) := by decide +kernel
theorem d_TG_tellTree_4 : decode b_TG_tellTree 4 = .ok (.iconst 1, 1) := by decide +kernel
theorem d_TG_tellTree_5 : decode b_TG_tellTree 5 = .ok (.isub, 1) := by decide +kernel
theorem d_TG_tellTree_6 : decode b_TG_tellTree 6 = .ok (.istore 4, 2) := by decide +kernel
theorem d_TG_tellTree_8 : decode b_TG_tellTree 8 = .ok (.iload 4, 2) := by decide +kernel
theorem d_TG_tellTree_10 : decode b_TG_tellTree 10 = .ok (.ifCond .lt 95, 3) := by decide +kernel
theorem d_TG_tellTree_13 : decode b_TG_tellTree 13 = .ok (.aload_n 1, 1) := by decide +kernel
theorem d_TG_tellTree_14 : decode b_TG_tellTree 14 = .ok (.getfield 129, 3) := by decide +kernel
theorem d_TG_tellTree_17 : decode b_TG_tellTree 17 = .ok (.iconst 0, 1) := by decide +kernel
theorem d_TG_tellTree_18 : decode b_TG_tellTree 18 = .ok (.aaload, 1) := by decide +kernel
theorem d_TG_tellTree_19 : decode b_TG_tellTree 19 = .ok (.iload 4, 2) := by decide +kernel
theorem d_TG_tellTree_21 : decode b_TG_tellTree 21 = .ok (.iaload, 1) := by decide +kernel
theorem d_TG_tellTree_22 : decode b_TG_tellTree 22 = .ok (.istore 5, 2) := by decide +kernel
theorem d_TG_tellTree_24 : decode b_TG_tellTree 24 = .ok (.iload 5, 2) := by decide +kernel
theorem d_TG_tellTree_26 : decode b_TG_tellTree 26 = .ok (.iconst (-1), 1) := by decide +kernel
theorem d_TG_tellTree_27 : decode b_TG_tellTree 27 = .ok (.if_icmp .ne 26, 3) := by decide +kernel
theorem d_TG_tellTree_30 : decode b_TG_tellTree 30 = .ok (.aload_n 0, 1) := by decide +kernel
theorem d_TG_tellTree_31 : decode b_TG_tellTree 31 = .ok (.getfield 46, 3) := by decide +kernel
theorem d_TG_tellTree_34 : decode b_TG_tellTree 34 = .ok (.iload 4, 2) := by decide +kernel
theorem d_TG_tellTree_36 : decode b_TG_tellTree 36 = .ok (.aload_n 0, 1) := by decide +kernel
theorem d_TG_tellTree_37 : decode b_TG_tellTree 37 = .ok (.aload_n 1, 1) := by decide +kernel
theorem d_TG_tellTree_38 : decode b_TG_tellTree 38 = .ok (.getfield 132, 3) := by decide +kernel
theorem d_TG_tellTree_41 : decode b_TG_tellTree 41 = .ok (.iconst 1, 1) := by decide +kernel
theorem d_TG_tellTree_42 : decode b_TG_tellTree 42 = .ok (.aaload, 1) := by decide +kernel
theorem d_TG_tellTree_43 : decode b_TG_tellTree 43 = .ok (.iload 4, 2) := by decide +kernel
theorem d_TG_tellTree_45 : decode b_TG_tellTree 45 = .ok (.laload, 1) := by decide +kernel
theorem d_TG_tellTree_46 : decode b_TG_tellTree 46 = .ok (.invokevirtual 149, 3) := by decide +kernel
theorem d_TG_tellTree_49 : decode b_TG_tellTree 49 = .ok (.lastore, 1) := by decide +kernel
theorem d_TG_tellTree_50 : decode b_TG_tellTree 50 = .ok (.goto 49, 3) := by decide +kernel
theorem d_TG_tellTree_53 : decode b_TG_tellTree 53 = .ok (.iload_n 2, 1) := by decide +kernel
theorem d_TG_tellTree_54 : decode b_TG_tellTree 54 = .ok (.iload 5, 2) := by decide +kernel
theorem d_TG_tellTree_56 : decode b_TG_tellTree 56 = .ok (.ishr, 1) := by decide +kernel
theorem d_TG_tellTree_57 : decode b_TG_tellTree 57 = .ok (.iconst 1, 1) := by decide +kernel
theorem d_TG_tellTree_58 : decode b_TG_tellTree 58 = .ok (.iand, 1) := by decide +kernel
theorem d_TG_tellTree_59 : decode b_TG_tellTree 59 = .ok (.iconst 1, 1) := by decide +kernel
theorem d_TG_tellTree_60 : decode b_TG_tellTree 60 = .ok (.if_icmp .ne 25, 3) := by decide +kernel
theorem d_TG_tellTree_63 : decode b_TG_tellTree 63 = .ok (.aload_n 0, 1) := by decide +kernel
theorem d_TG_tellTree_64 : decode b_TG_tellTree 64 = .ok (.getfield 46, 3) := by decide +kernel
theorem d_TG_tellTree_67 : decode b_TG_tellTree 67 = .ok (.iload 4, 2) := by decide +kernel
theorem d_TG_tellTree_69 : decode b_TG_tellTree 69 = .ok (.aload_n 0, 1) := by decide +kernel
theorem d_TG_tellTree_70 : decode b_TG_tellTree 70 = .ok (.getfield 46, 3) := by decide +kernel
theorem d_TG_tellTree_73 : decode b_TG_tellTree 73 = .ok (.aload_n 1, 1) := by decide +kernel
theorem d_TG_tellTree_74 : decode b_TG_tellTree 74 = .ok (.iload 4, 2) := by decide +kernel
theorem d_TG_tellTree_76 : decode b_TG_tellTree 76 = .ok (.aload_n 3, 1) := by decide +kernel
theorem d_TG_tellTree_77 : decode b_TG_tellTree 77 = .ok (.invokevirtual 153, 3) := by decide +kernel
theorem d_TG_tellTree_80 : decode b_TG_tellTree 80 = .ok (.laload, 1) := by decide +kernel
theorem d_TG_tellTree_81 : decode b_TG_tellTree 81 = .ok (.lastore, 1) := by decide +kernel
theorem d_TG_tellTree_82 : decode b_TG_tellTree 82 = .ok (.goto 17, 3) := by decide +kernel
theorem d_TG_tellTree_85 : decode b_TG_tellTree 85 = .ok (.aload_n 0, 1) := by decide +kernel
theorem d_TG_tellTree_86 : decode b_TG_tellTree 86 = .ok (.getfield 46, 3) := by decide +kernel
theorem d_TG_tellTree_89 : decode b_TG_tellTree 89 = .ok (.iload 4, 2) := by decide +kernel
theorem d_TG_tellTree_91 : decode b_TG_tellTree 91 = .ok (.aload_n 0, 1) := by decide +kernel
theorem d_TG_tellTree_92 : decode b_TG_tellTree 92 = .ok (.aload_n 1, 1) := by decide +kernel
theorem d_TG_tellTree_93 : decode b_TG_tellTree 93 = .ok (.iload 4, 2) := by decide +kernel
theorem d_TG_tellTree_95 : decode b_TG_tellTree 95 = .ok (.invokevirtual 157, 3) := by decide +kernel
theorem d_TG_tellTree_98 : decode b_TG_tellTree 98 = .ok (.lastore, 1) := by decide +kernel
theorem d_TG_tellTree_99 : decode b_TG_tellTree 99 = .ok (.iinc 4 (-1), 3) := by decide +kernel
theorem d_TG_tellTree_102 : decode b_TG_tellTree 102 = .ok (.goto (-94), 3) := by decide +kernel
theorem d_TG_tellTree_105 : decode b_TG_tellTree 105 = .ok (.aload_n 0, 1) := by decide +kernel
theorem d_TG_tellTree_106 : decode b_TG_tellTree 106 = .ok (.getfield 46, 3) := by decide +kernel
theorem d_TG_tellTree_109 : decode b_TG_tellTree 109 = .ok (.iconst 0, 1) := by decide +kernel
theorem d_TG_tellTree_110 : decode b_TG_tellTree 110 = .ok (.laload, 1) := by decide +kernel
theorem d_TG_tellTree_111 : decode b_TG_tellTree 111 = .ok (.lreturn, 1) := by decide +kernel
theorem d_TG_tellBoth_0 : decode b_TG_tellBoth 0 = .ok (.aload_n 1, 1) := by decide +kernel
theorem d_TG_tellBoth_1 : decode b_TG_tellBoth 1 = .ok (.getfield 129, 3) := by decide +kernel
theorem d_TG_tellBoth_4 : decode b_TG_tellBoth 4 = .ok (.iconst 4, 1) := by decide +kernel
theorem d_TG_tellBoth_5 : decode b_TG_tellBoth 5 = .ok (.aaload, 1) := by decide +kernel
theorem d_TG_tellBoth_6 : decode b_TG_tellBoth 6 = .ok (.astore_n 3, 1) := by decide +kernel
theorem d_TG_tellBoth_7 : decode b_TG_tellBoth 7 = .ok (.aload_n 1, 1) := by decide +kernel
theorem d_TG_tellBoth_8 : decode b_TG_tellBoth 8 = .ok (.getfield 129, 3) := by decide +kernel
theorem d_TG_tellBoth_11 : decode b_TG_tellBoth 11 = .ok (.iconst 3, 1) := by decide +kernel
theorem d_TG_tellBoth_12 : decode b_TG_tellBoth 12 = .ok (.aaload, 1) := by decide +kernel
theorem d_TG_tellBoth_13 : decode b_TG_tellBoth 13 = .ok (.iload_n 2, 1) := by decide +kernel
theorem d_TG_tellBoth_14 : decode b_TG_tellBoth 14 = .ok (.iaload, 1) := by decide +kernel
theorem d_TG_tellBoth_15 : decode b_TG_tellBoth 15 = .ok (.istore 4, 2) := by decide +kernel
theorem d_TG_tellBoth_17 : decode b_TG_tellBoth 17 = .ok (.aload_n 0, 1) := by decide +kernel
theorem d_TG_tellBoth_18 : decode b_TG_tellBoth 18 = .ok (.getfield 46, 3) := by decide +kernel
theorem d_TG_tellBoth_21 : decode b_TG_tellBoth 21 = .ok (.iload 4, 2) := by decide +kernel
theorem d_TG_tellBoth_23 : decode b_TG_tellBoth 23 = .ok (.laload, 1) := by decide +kernel
theorem d_TG_tellBoth_24 : decode b_TG_tellBoth 24 = .ok (.aload_n 3, 1) := by decide +kernel
theorem d_TG_tellBoth_25 : decode b_TG_tellBoth 25 = .ok (.iload 4, 2) := by decide +kernel
theorem d_TG_tellBoth_27 : decode b_TG_tellBoth 27 = .ok (.iaload, 1) := by decide +kernel
theorem d_TG_tellBoth_28 : decode b_TG_tellBoth 28 = .ok (.i2l, 1) := by decide +kernel
theorem d_TG_tellBoth_29 : decode b_TG_tellBoth 29 = .ok (.lmul, 1) := by decide +kernel
theorem d_TG_tellBoth_30 : decode b_TG_tellBoth 30 = .ok (.aload_n 0, 1) := by decide +kernel
theorem d_TG_tellBoth_31 : decode b_TG_tellBoth 31 = .ok (.getfield 46, 3) := by decide +kernel
theorem d_TG_tellBoth_34 : decode b_TG_tellBoth 34 = .ok (.iload 4, 2) := by decide +kernel
theorem d_TG_tellBoth_36 : decode b_TG_tellBoth 36 = .ok (.iconst 1, 1) := by decide +kernel
theorem d_TG_tellBoth_37 : decode b_TG_tellBoth 37 = .ok (.iadd, 1) := by decide +kernel
theorem d_TG_tellBoth_38 : decode b_TG_tellBoth 38 = .ok (.laload, 1) := by decide +kernel
theorem d_TG_tellBoth_39 : decode b_TG_tellBoth 39 = .ok (.aload_n 3, 1) := by decide +kernel
theorem d_TG_tellBoth_40 : decode b_TG_tellBoth 40 = .ok (.iload 4, 2) := by decide +kernel
theorem d_TG_tellBoth_42 : decode b_TG_tellBoth 42 = .ok (.iconst 1, 1) := by decide +kernel
theorem d_TG_tellBoth_43 : decode b_TG_tellBoth 43 = .ok (.iadd, 1) := by decide +kernel
theorem d_TG_tellBoth_44 : decode b_TG_tellBoth 44 = .ok (.iaload, 1) := by decide +kernel
theorem d_TG_tellBoth_45 : decode b_TG_tellBoth 45 = .ok (.i2l, 1) := by decide +kernel
theorem d_TG_tellBoth_46 : decode b_TG_tellBoth 46 = .ok (.lmul, 1) := by decide +kernel
theorem d_TG_tellBoth_47 : decode b_TG_tellBoth 47 = .ok (.ladd, 1) := by decide +kernel
theorem d_TG_tellBoth_48 : decode b_TG_tellBoth 48 = .ok (.lstore 5, 2) := by decide +kernel
theorem d_TG_tellBoth_50 : decode b_TG_tellBoth 50 = .ok (.aload_n 3, 1) := by decide +kernel
theorem d_TG_tellBoth_51 : decode b_TG_tellBoth 51 = .ok (.iload_n 2, 1) := by decide +kernel
theorem d_TG_tellBoth_52 : decode b_TG_tellBoth 52 = .ok (.iaload, 1) := by decide +kernel
theorem d_TG_tellBoth_53 : decode b_TG_tellBoth 53 = .ok (.i2l, 1) := by decide +kernel
theorem d_TG_tellBoth_54 : decode b_TG_tellBoth 54 = .ok (.lstore 7, 2) := by decide +kernel
theorem d_TG_tellBoth_56 : decode b_TG_tellBoth 56 = .ok (.lload 7, 2) := by decide +kernel
theorem d_TG_tellBoth_58 : decode b_TG_tellBoth 58 = .ok (.lconst 0, 1) := by decide +kernel
theorem d_TG_tellBoth_59 : decode b_TG_tellBoth 59 = .ok (.lcmp, 1) := by decide +kernel
theorem d_TG_tellBoth_60 : decode b_TG_tellBoth 60 = .ok (.ifCond .ne 7, 3) := by decide +kernel
theorem d_TG_tellBoth_63 : decode b_TG_tellBoth 63 = .ok (.lconst 0, 1) := by decide +kernel
theorem d_TG_tellBoth_64 : decode b_TG_tellBoth 64 = .ok (.goto 10, 3) := by decide +kernel
theorem d_TG_tellBoth_67 : decode b_TG_tellBoth 67 = .ok (.lload 5, 2) := by decide +kernel
theorem d_TG_tellBoth_69 : decode b_TG_tellBoth 69 = .ok (.lload 7, 2) := by decide +kernel
theorem d_TG_tellBoth_71 : decode b_TG_tellBoth 71 = .ok (.invokestatic 161, 3) := by decide +kernel
theorem d_TG_tellBoth_74 : decode b_TG_tellBoth 74 = .ok (.lreturn, 1) := by decide +kernel
theorem d_TG_addOf_0 : decode b_TG_addOf 0 = .ok (.aload_n 0, 1) := by decide +kernel
theorem d_TG_addOf_1 : decode b_TG_addOf 1 = .ok (.aload_n 1, 1) := by decide +kernel
theorem d_TG_addOf_2 : decode b_TG_addOf 2 = .ok (.getfield 132, 3) := by decide +kernel
theorem d_TG_addOf_5 : decode b_TG_addOf 5 = .ok (.iconst 1, 1) := by decide +kernel
theorem d_TG_addOf_6 : decode b_TG_addOf 6 = .ok (.aaload, 1) := by decide +kernel
theorem d_TG_addOf_7 : decode b_TG_addOf 7 = .ok (.aload_n 1, 1) := by decide +kernel
theorem d_TG_addOf_8 : decode b_TG_addOf 8 = .ok (.aload_n 2, 1) := by decide +kernel
theorem d_TG_addOf_9 : decode b_TG_addOf 9 = .ok (.invokevirtual 164, 3) := by decide +kernel
theorem d_TG_addOf_12 : decode b_TG_addOf 12 = .ok (.laload, 1) := by decide +kernel
theorem d_TG_addOf_13 : decode b_TG_addOf 13 = .ok (.invokevirtual 149, 3) := by decide +kernel
theorem d_TG_addOf_16 : decode b_TG_addOf 16 = .ok (.lreturn, 1) := by decide +kernel
theorem d_TG_shrunk_0 : decode b_TG_shrunk 0 = .ok (.lload_n 1, 1) := by decide +kernel
theorem d_TG_shrunk_1 : decode b_TG_shrunk 1 = .ok (.aload_n 0, 1) := by decide +kernel
theorem d_TG_shrunk_2 : decode b_TG_shrunk 2 = .ok (.getfield 27, 3) := by decide +kernel
theorem d_TG_shrunk_5 : decode b_TG_shrunk 5 = .ok (.iconst 3, 1) := by decide +kernel
theorem d_TG_shrunk_6 : decode b_TG_shrunk 6 = .ok (.iaload, 1) := by decide +kernel
theorem d_TG_shrunk_7 : decode b_TG_shrunk 7 = .ok (.i2l, 1) := by decide +kernel
theorem d_TG_shrunk_8 : decode b_TG_shrunk 8 = .ok (.lmul, 1) := by decide +kernel
theorem d_TG_shrunk_9 : decode b_TG_shrunk 9 = .ok (.ldc2_w 168, 3) := by decide +kernel
theorem d_TG_shrunk_12 : decode b_TG_shrunk 12 = .ok (.ldiv, 1) := by decide +kernel
theorem d_TG_shrunk_13 : decode b_TG_shrunk 13 = .ok (.lreturn, 1) := by decide +kernel
theorem d_TG_baseUnits_0 : decode b_TG_baseUnits 0 = .ok (.ldc2_w 168, 3) := by decide +kernel
theorem d_TG_baseUnits_3 : decode b_TG_baseUnits 3 = .ok (.aload_n 0, 1) := by decide +kernel
theorem d_TG_baseUnits_4 : decode b_TG_baseUnits 4 = .ok (.getfield 27, 3) := by decide +kernel
theorem d_TG_baseUnits_7 : decode b_TG_baseUnits 7 = .ok (.bipush 9, 2) := by decide +kernel
theorem d_TG_baseUnits_9 : decode b_TG_baseUnits 9 = .ok (.iaload, 1) := by decide +kernel
theorem d_TG_baseUnits_10 : decode b_TG_baseUnits 10 = .ok (.i2l, 1) := by decide +kernel
theorem d_TG_baseUnits_11 : decode b_TG_baseUnits 11 = .ok (.lmul, 1) := by decide +kernel
theorem d_TG_baseUnits_12 : decode b_TG_baseUnits 12 = .ok (.lreturn, 1) := by decide +kernel
theorem d_TR_init_0 : decode b_TR_init 0 = .ok (.aload_n 0, 1) := by decide +kernel
theorem d_TR_init_1 : decode b_TR_init 1 = .ok (.invokespecial 3, 3) := by decide +kernel
theorem d_TR_init_4 : decode b_TR_init 4 = .ok (.aload_n 0, 1) := by decide +kernel
theorem d_TR_init_5 : decode b_TR_init 5 = .ok (.bipush 7, 2) := by decide +kernel
theorem d_TR_init_7 : decode b_TR_init 7 = .ok (.bipush 31, 2) := by decide +kernel
theorem d_TR_init_9 : decode b_TR_init 9 = .ok (.multianewarray 9 2, 4) := by decide +kernel
theorem d_TR_init_13 : decode b_TR_init 13 = .ok (.putfield 11, 3) := by decide +kernel
theorem d_TR_init_16 : decode b_TR_init 16 = .ok (.aload_n 0, 1) := by decide +kernel
theorem d_TR_init_17 : decode b_TR_init 17 = .ok (.iconst 3, 1) := by decide +kernel
theorem d_TR_init_18 : decode b_TR_init 18 = .ok (.bipush 31, 2) := by decide +kernel
theorem d_TR_init_20 : decode b_TR_init 20 = .ok (.multianewarray 16 2, 4) := by decide +kernel
theorem d_TR_init_24 : decode b_TR_init 24 = .ok (.putfield 18, 3) := by decide +kernel
theorem d_TR_init_27 : decode b_TR_init 27 = .ok (.return_, 1) := by decide +kernel
theorem d_TR_appendNode_0 : decode b_TR_appendNode 0 = .ok (.aload_n 0, 1) := by decide +kernel
theorem d_TR_appendNode_1 : decode b_TR_appendNode 1 = .ok (.getfield 21, 3) := by decide +kernel
theorem d_TR_appendNode_4 : decode b_TR_appendNode 4 = .ok (.istore_n 2, 1) := by decide +kernel
theorem d_TR_appendNode_5 : decode b_TR_appendNode 5 = .ok (.aload_n 0, 1) := by decide +kernel
theorem d_TR_appendNode_6 : decode b_TR_appendNode 6 = .ok (.getfield 11, 3) := by decide +kernel
theorem d_TR_appendNode_9 : decode b_TR_appendNode 9 = .ok (.iconst 0, 1) := by decide +kernel
theorem d_TR_appendNode_10 : decode b_TR_appendNode 10 = .ok (.aaload, 1) := by decide +kernel
theorem d_TR_appendNode_11 : decode b_TR_appendNode 11 = .ok (.iload_n 2, 1) := by decide +kernel
theorem d_TR_appendNode_12 : decode b_TR_appendNode 12 = .ok (.iconst (-1), 1) := by decide +kernel
theorem d_TR_appendNode_13 : decode b_TR_appendNode 13 = .ok (.iastore, 1) := by decide +kernel
theorem d_TR_appendNode_14 : decode b_TR_appendNode 14 = .ok (.aload_n 0, 1) := by decide +kernel
theorem d_TR_appendNode_15 : decode b_TR_appendNode 15 = .ok (.getfield 11, 3) := by decide +kernel
theorem d_TR_appendNode_18 : decode b_TR_appendNode 18 = .ok (.iconst 1, 1) := by decide +kernel
theorem d_TR_appendNode_19 : decode b_TR_appendNode 19 = .ok (.aaload, 1) := by decide +kernel
theorem d_TR_appendNode_20 : decode b_TR_appendNode 20 = .ok (.iload_n 2, 1) := by decide +kernel
theorem d_TR_appendNode_21 : decode b_TR_appendNode 21 = .ok (.iconst (-1), 1) := by decide +kernel
theorem d_TR_appendNode_22 : decode b_TR_appendNode 22 = .ok (.iastore, 1) := by decide +kernel
theorem d_TR_appendNode_23 : decode b_TR_appendNode 23 = .ok (.aload_n 0, 1) := by decide +kernel
theorem d_TR_appendNode_24 : decode b_TR_appendNode 24 = .ok (.getfield 11, 3) := by decide +kernel
theorem d_TR_appendNode_27 : decode b_TR_appendNode 27 = .ok (.iconst 2, 1) := by decide +kernel
theorem d_TR_appendNode_28 : decode b_TR_appendNode 28 = .ok (.aaload, 1) := by decide +kernel
theorem d_TR_appendNode_29 : decode b_TR_appendNode 29 = .ok (.iload_n 2, 1) := by decide +kernel
theorem d_TR_appendNode_30 : decode b_TR_appendNode 30 = .ok (.iconst (-1), 1) := by decide +kernel
theorem d_TR_appendNode_31 : decode b_TR_appendNode 31 = .ok (.iastore, 1) := by decide +kernel
theorem d_TR_appendNode_32 : decode b_TR_appendNode 32 = .ok (.aload_n 0, 1) := by decide +kernel
theorem d_TR_appendNode_33 : decode b_TR_appendNode 33 = .ok (.getfield 11, 3) := by decide +kernel
theorem d_TR_appendNode_36 : decode b_TR_appendNode 36 = .ok (.iconst 3, 1) := by decide +kernel
theorem d_TR_appendNode_37 : decode b_TR_appendNode 37 = .ok (.aaload, 1) := by decide +kernel
theorem d_TR_appendNode_38 : decode b_TR_appendNode 38 = .ok (.iload_n 2, 1) := by decide +kernel
theorem d_TR_appendNode_39 : decode b_TR_appendNode 39 = .ok (.iconst (-1), 1) := by decide +kernel
theorem d_TR_appendNode_40 : decode b_TR_appendNode 40 = .ok (.iastore, 1) := by decide +kernel
theorem d_TR_appendNode_41 : decode b_TR_appendNode 41 = .ok (.aload_n 0, 1) := by decide +kernel
theorem d_TR_appendNode_42 : decode b_TR_appendNode 42 = .ok (.getfield 11, 3) := by decide +kernel
theorem d_TR_appendNode_45 : decode b_TR_appendNode 45 = .ok (.bipush 6, 2) := by decide +kernel
theorem d_TR_appendNode_47 : decode b_TR_appendNode 47 = .ok (.aaload, 1) := by decide +kernel
theorem d_TR_appendNode_48 : decode b_TR_appendNode 48 = .ok (.iload_n 2, 1) := by decide +kernel
theorem d_TR_appendNode_49 : decode b_TR_appendNode 49 = .ok (.iload_n 1, 1) := by decide +kernel
theorem d_TR_appendNode_50 : decode b_TR_appendNode 50 = .ok (.iastore, 1) := by decide +kernel
theorem d_TR_appendNode_51 : decode b_TR_appendNode 51 = .ok (.aload_n 0, 1) := by decide +kernel
theorem d_TR_appendNode_52 : decode b_TR_appendNode 52 = .ok (.getfield 18, 3) := by decide +kernel
theorem d_TR_appendNode_55 : decode b_TR_appendNode 55 = .ok (.iconst 2, 1) := by decide +kernel
theorem d_TR_appendNode_56 : decode b_TR_appendNode 56 = .ok (.aaload, 1) := by decide +kernel
theorem d_TR_appendNode_57 : decode b_TR_appendNode 57 = .ok (.iload_n 2, 1) := by decide +kernel
theorem d_TR_appendNode_58 : decode b_TR_appendNode 58 = .ok (.lconst 0, 1) := by decide +kernel
theorem d_TR_appendNode_59 : decode b_TR_appendNode 59 = .ok (.lastore, 1) := by decide +kernel
theorem d_TR_appendNode_60 : decode b_TR_appendNode 60 = .ok (.aload_n 0, 1) := by decide +kernel
theorem d_TR_appendNode_61 : decode b_TR_appendNode 61 = .ok (.iload_n 2, 1) := by decide +kernel
theorem d_TR_appendNode_62 : decode b_TR_appendNode 62 = .ok (.iconst 1, 1) := by decide +kernel
theorem d_TR_appendNode_63 : decode b_TR_appendNode 63 = .ok (.iadd, 1) := by decide +kernel
theorem d_TR_appendNode_64 : decode b_TR_appendNode 64 = .ok (.putfield 21, 3) := by decide +kernel
theorem d_TR_appendNode_67 : decode b_TR_appendNode 67 = .ok (.return_, 1) := by decide +kernel
theorem d_TR_keepSums_0 : decode b_TR_keepSums 0 = .ok (.aload_n 0, 1) := by decide +kernel
theorem d_TR_keepSums_1 : decode b_TR_keepSums 1 = .ok (.getfield 11, 3) := by decide +kernel
theorem d_TR_keepSums_4 : decode b_TR_keepSums 4 = .ok (.iconst 4, 1) := by decide +kernel
theorem d_TR_keepSums_5 : decode b_TR_keepSums 5 = .ok (.aaload, 1) := by decide +kernel
theorem d_TR_keepSums_6 : decode b_TR_keepSums 6 = .ok (.iload_n 1, 1) := by decide +kernel
theorem d_TR_keepSums_7 : decode b_TR_keepSums 7 = .ok (.aload_n 2, 1) := by decide +kernel
theorem d_TR_keepSums_8 : decode b_TR_keepSums 8 = .ok (.getfield 25, 3) := by decide +kernel
theorem d_TR_keepSums_11 : decode b_TR_keepSums 11 = .ok (.iastore, 1) := by decide +kernel
theorem d_TR_keepSums_12 : decode b_TR_keepSums 12 = .ok (.aload_n 0, 1) := by decide +kernel
theorem d_TR_keepSums_13 : decode b_TR_keepSums 13 = .ok (.getfield 11, 3) := by decide +kernel
theorem d_TR_keepSums_16 : decode b_TR_keepSums 16 = .ok (.iconst 5, 1) := by decide +kernel
theorem d_TR_keepSums_17 : decode b_TR_keepSums 17 = .ok (.aaload, 1) := by decide +kernel
theorem d_TR_keepSums_18 : decode b_TR_keepSums 18 = .ok (.iload_n 1, 1) := by decide +kernel
theorem d_TR_keepSums_19 : decode b_TR_keepSums 19 = .ok (.aload_n 2, 1) := by decide +kernel
theorem d_TR_keepSums_20 : decode b_TR_keepSums 20 = .ok (.getfield 30, 3) := by decide +kernel
theorem d_TR_keepSums_23 : decode b_TR_keepSums 23 = .ok (.iastore, 1) := by decide +kernel
theorem d_TR_keepSums_24 : decode b_TR_keepSums 24 = .ok (.aload_n 0, 1) := by decide +kernel
theorem d_TR_keepSums_25 : decode b_TR_keepSums 25 = .ok (.getfield 18, 3) := by decide +kernel
theorem d_TR_keepSums_28 : decode b_TR_keepSums 28 = .ok (.iconst 0, 1) := by decide +kernel
theorem d_TR_keepSums_29 : decode b_TR_keepSums 29 = .ok (.aaload, 1) := by decide +kernel
theorem d_TR_keepSums_30 : decode b_TR_keepSums 30 = .ok (.iload_n 1, 1) := by decide +kernel
theorem d_TR_keepSums_31 : decode b_TR_keepSums 31 = .ok (.aload_n 2, 1) := by decide +kernel
theorem d_TR_keepSums_32 : decode b_TR_keepSums 32 = .ok (.getfield 33, 3) := by decide +kernel
theorem d_TR_keepSums_35 : decode b_TR_keepSums 35 = .ok (.lastore, 1) := by decide +kernel
theorem d_TR_keepSums_36 : decode b_TR_keepSums 36 = .ok (.aload_n 0, 1) := by decide +kernel
theorem d_TR_keepSums_37 : decode b_TR_keepSums 37 = .ok (.getfield 18, 3) := by decide +kernel
theorem d_TR_keepSums_40 : decode b_TR_keepSums 40 = .ok (.iconst 1, 1) := by decide +kernel
theorem d_TR_keepSums_41 : decode b_TR_keepSums 41 = .ok (.aaload, 1) := by decide +kernel
theorem d_TR_keepSums_42 : decode b_TR_keepSums 42 = .ok (.iload_n 1, 1) := by decide +kernel
theorem d_TR_keepSums_43 : decode b_TR_keepSums 43 = .ok (.aload_n 2, 1) := by decide +kernel
theorem d_TR_keepSums_44 : decode b_TR_keepSums 44 = .ok (.iload_n 3, 1) := by decide +kernel
theorem d_TR_keepSums_45 : decode b_TR_keepSums 45 = .ok (.invokevirtual 37, 3) := by decide +kernel
theorem d_TR_keepSums_48 : decode b_TR_keepSums 48 = .ok (.lastore, 1) := by decide +kernel
theorem d_TR_keepSums_49 : decode b_TR_keepSums 49 = .ok (.return_, 1) := by decide +kernel
theorem d_TR_mayDivide_0 : decode b_TR_mayDivide 0 = .ok (.aload_n 0, 1) := by decide +kernel
theorem d_TR_mayDivide_1 : decode b_TR_mayDivide 1 = .ok (.getfield 11, 3) := by decide +kernel
theorem d_TR_mayDivide_4 : decode b_TR_mayDivide 4 = .ok (.bipush 6, 2) := by decide +kernel
theorem d_TR_mayDivide_6 : decode b_TR_mayDivide 6 = .ok (.aaload, 1) := by decide +kernel
theorem d_TR_mayDivide_7 : decode b_TR_mayDivide 7 = .ok (.iload_n 1, 1) := by decide +kernel
theorem d_TR_mayDivide_8 : decode b_TR_mayDivide 8 = .ok (.iaload, 1) := by decide +kernel
theorem d_TR_mayDivide_9 : decode b_TR_mayDivide 9 = .ok (.iload_n 2, 1) := by decide +kernel
theorem d_TR_mayDivide_10 : decode b_TR_mayDivide 10 = .ok (.if_icmp .ge 18, 3) := by decide +kernel
theorem d_TR_mayDivide_13 : decode b_TR_mayDivide 13 = .ok (.aload_n 0, 1) := by decide +kernel
theorem d_TR_mayDivide_14 : decode b_TR_mayDivide 14 = .ok (.getfield 21, 3) := by decide +kernel
theorem d_TR_mayDivide_17 : decode b_TR_mayDivide 17 = .ok (.iconst 2, 1) := by decide +kernel
theorem d_TR_mayDivide_18 : decode b_TR_mayDivide 18 = .ok (.iadd, 1) := by decide +kernel
theorem d_TR_mayDivide_19 : decode b_TR_mayDivide 19 = .ok (.bipush 31, 2) := by decide +kernel
theorem d_TR_mayDivide_21 : decode b_TR_mayDivide 21 = .ok (.if_icmp .gt 7, 3) := by decide +kernel
theorem d_TR_mayDivide_24 : decode b_TR_mayDivide 24 = .ok (.iconst 1, 1) := by decide +kernel
theorem d_TR_mayDivide_25 : decode b_TR_mayDivide 25 = .ok (.goto 4, 3) := by decide +kernel
theorem d_TR_mayDivide_28 : decode b_TR_mayDivide 28 = .ok (.iconst 0, 1) := by decide +kernel
theorem d_TR_mayDivide_29 : decode b_TR_mayDivide 29 = .ok (.ireturn, 1) := by decide +kernel
theorem d_TR_divide_0 : decode b_TR_divide 0 = .ok (.aload_n 0, 1) := by decide +kernel
theorem d_TR_divide_1 : decode b_TR_divide 1 = .ok (.getfield 11, 3) := by decide +kernel
theorem d_TR_divide_4 : decode b_TR_divide 4 = .ok (.iconst 0, 1) := by decide +kernel
theorem d_TR_divide_5 : decode b_TR_divide 5 = .ok (.aaload, 1) := by decide +kernel
theorem d_TR_divide_6 : decode b_TR_divide 6 = .ok (.iload_n 1, 1) := by decide +kernel
theorem d_TR_divide_7 : decode b_TR_divide 7 = .ok (.aload_n 2, 1) := by decide +kernel
theorem d_TR_divide_8 : decode b_TR_divide 8 = .ok (.getfield 41, 3) := by decide +kernel
theorem d_TR_divide_11 : decode b_TR_divide 11 = .ok (.iastore, 1) := by decide +kernel
theorem d_TR_divide_12 : decode b_TR_divide 12 = .ok (.aload_n 0, 1) := by decide +kernel
theorem d_TR_divide_13 : decode b_TR_divide 13 = .ok (.getfield 11, 3) := by decide +kernel
theorem d_TR_divide_16 : decode b_TR_divide 16 = .ok (.iconst 1, 1) := by decide +kernel
theorem d_TR_divide_17 : decode b_TR_divide 17 = .ok (.aaload, 1) := by decide +kernel
theorem d_TR_divide_18 : decode b_TR_divide 18 = .ok (.iload_n 1, 1) := by decide +kernel
theorem d_TR_divide_19 : decode b_TR_divide 19 = .ok (.aload_n 2, 1) := by decide +kernel
theorem d_TR_divide_20 : decode b_TR_divide 20 = .ok (.getfield 46, 3) := by decide +kernel
theorem d_TR_divide_23 : decode b_TR_divide 23 = .ok (.iastore, 1) := by decide +kernel
theorem d_TR_divide_24 : decode b_TR_divide 24 = .ok (.aload_n 0, 1) := by decide +kernel
theorem d_TR_divide_25 : decode b_TR_divide 25 = .ok (.getfield 11, 3) := by decide +kernel
theorem d_TR_divide_28 : decode b_TR_divide 28 = .ok (.iconst 2, 1) := by decide +kernel
theorem d_TR_divide_29 : decode b_TR_divide 29 = .ok (.aaload, 1) := by decide +kernel
theorem d_TR_divide_30 : decode b_TR_divide 30 = .ok (.iload_n 1, 1) := by decide +kernel
theorem d_TR_divide_31 : decode b_TR_divide 31 = .ok (.aload_n 2, 1) := by decide +kernel
theorem d_TR_divide_32 : decode b_TR_divide 32 = .ok (.getfield 49, 3) := by decide +kernel
theorem d_TR_divide_35 : decode b_TR_divide 35 = .ok (.iastore, 1) := by decide +kernel
theorem d_TR_divide_36 : decode b_TR_divide 36 = .ok (.aload_n 0, 1) := by decide +kernel
theorem d_TR_divide_37 : decode b_TR_divide 37 = .ok (.getfield 11, 3) := by decide +kernel
theorem d_TR_divide_40 : decode b_TR_divide 40 = .ok (.iconst 3, 1) := by decide +kernel
theorem d_TR_divide_41 : decode b_TR_divide 41 = .ok (.aaload, 1) := by decide +kernel
theorem d_TR_divide_42 : decode b_TR_divide 42 = .ok (.iload_n 1, 1) := by decide +kernel
theorem d_TR_divide_43 : decode b_TR_divide 43 = .ok (.aload_n 0, 1) := by decide +kernel
theorem d_TR_divide_44 : decode b_TR_divide 44 = .ok (.getfield 21, 3) := by decide +kernel
theorem d_TR_divide_47 : decode b_TR_divide 47 = .ok (.iastore, 1) := by decide +kernel
theorem d_TR_divide_48 : decode b_TR_divide 48 = .ok (.aload_n 0, 1) := by decide +kernel
theorem d_TR_divide_49 : decode b_TR_divide 49 = .ok (.getfield 18, 3) := by decide +kernel
theorem d_TR_divide_52 : decode b_TR_divide 52 = .ok (.iconst 2, 1) := by decide +kernel
theorem d_TR_divide_53 : decode b_TR_divide 53 = .ok (.aaload, 1) := by decide +kernel
theorem d_TR_divide_54 : decode b_TR_divide 54 = .ok (.iload_n 1, 1) := by decide +kernel
theorem d_TR_divide_55 : decode b_TR_divide 55 = .ok (.aload_n 2, 1) := by decide +kernel
theorem d_TR_divide_56 : decode b_TR_divide 56 = .ok (.getfield 52, 3) := by decide +kernel
theorem d_TR_divide_59 : decode b_TR_divide 59 = .ok (.lastore, 1) := by decide +kernel
theorem d_TR_divide_60 : decode b_TR_divide 60 = .ok (.aload_n 0, 1) := by decide +kernel
theorem d_TR_divide_61 : decode b_TR_divide 61 = .ok (.aload_n 0, 1) := by decide +kernel
theorem d_TR_divide_62 : decode b_TR_divide 62 = .ok (.getfield 11, 3) := by decide +kernel
theorem d_TR_divide_65 : decode b_TR_divide 65 = .ok (.bipush 6, 2) := by decide +kernel
theorem d_TR_divide_67 : decode b_TR_divide 67 = .ok (.aaload, 1) := by decide +kernel
theorem d_TR_divide_68 : decode b_TR_divide 68 = .ok (.iload_n 1, 1) := by decide +kernel
theorem d_TR_divide_69 : decode b_TR_divide 69 = .ok (.iaload, 1) := by decide +kernel
theorem d_TR_divide_70 : decode b_TR_divide 70 = .ok (.iconst 1, 1) := by decide +kernel
theorem d_TR_divide_71 : decode b_TR_divide 71 = .ok (.iadd, 1) := by decide +kernel
theorem d_TR_divide_72 : decode b_TR_divide 72 = .ok (.invokevirtual 55, 3) := by decide +kernel
theorem d_TR_divide_75 : decode b_TR_divide 75 = .ok (.aload_n 0, 1) := by decide +kernel
theorem d_TR_divide_76 : decode b_TR_divide 76 = .ok (.aload_n 0, 1) := by decide +kernel
theorem d_TR_divide_77 : decode b_TR_divide 77 = .ok (.getfield 11, 3) := by decide +kernel
theorem d_TR_divide_80 : decode b_TR_divide 80 = .ok (.bipush 6, 2) := by decide +kernel
theorem d_TR_divide_82 : decode b_TR_divide 82 = .ok (.aaload, 1) := by decide +kernel
theorem d_TR_divide_83 : decode b_TR_divide 83 = .ok (.iload_n 1, 1) := by decide +kernel
theorem d_TR_divide_84 : decode b_TR_divide 84 = .ok (.iaload, 1) := by decide +kernel
theorem d_TR_divide_85 : decode b_TR_divide 85 = .ok (.iconst 1, 1) := by decide +kernel
theorem d_TR_divide_86 : decode b_TR_divide 86 = .ok (.iadd, 1) := by decide +kernel
theorem d_TR_divide_87 : decode b_TR_divide 87 = .ok (.invokevirtual 55, 3) := by decide +kernel
theorem d_TR_divide_90 : decode b_TR_divide 90 = .ok (.return_, 1) := by decide +kernel
theorem d_TR_stepFrom_0 : decode b_TR_stepFrom 0 = .ok (.aload_n 0, 1) := by decide +kernel
theorem d_TR_stepFrom_1 : decode b_TR_stepFrom 1 = .ok (.getfield 11, 3) := by decide +kernel
theorem d_TR_stepFrom_4 : decode b_TR_stepFrom 4 = .ok (.iconst 0, 1) := by decide +kernel
theorem d_TR_stepFrom_5 : decode b_TR_stepFrom 5 = .ok (.aaload, 1) := by decide +kernel
theorem d_TR_stepFrom_6 : decode b_TR_stepFrom 6 = .ok (.iload_n 1, 1) := by decide +kernel
theorem d_TR_stepFrom_7 : decode b_TR_stepFrom 7 = .ok (.iaload, 1) := by decide +kernel
theorem d_TR_stepFrom_8 : decode b_TR_stepFrom 8 = .ok (.istore_n 3, 1) := by decide +kernel
theorem d_TR_stepFrom_9 : decode b_TR_stepFrom 9 = .ok (.iload_n 3, 1) := by decide +kernel
theorem d_TR_stepFrom_10 : decode b_TR_stepFrom 10 = .ok (.iconst (-1), 1) := by decide +kernel
theorem d_TR_stepFrom_11 : decode b_TR_stepFrom 11 = .ok (.if_icmp .ne 5, 3) := by decide +kernel
theorem d_TR_stepFrom_14 : decode b_TR_stepFrom 14 = .ok (.iload_n 1, 1) := by decide +kernel
theorem d_TR_stepFrom_15 : decode b_TR_stepFrom 15 = .ok (.ireturn, 1) := by decide +kernel
theorem d_TR_stepFrom_16 : decode b_TR_stepFrom 16 = .ok (.aload_n 2, 1) := by decide +kernel
theorem d_TR_stepFrom_17 : decode b_TR_stepFrom 17 = .ok (.iload_n 3, 1) := by decide +kernel
theorem d_TR_stepFrom_18 : decode b_TR_stepFrom 18 = .ok (.iaload, 1) := by decide +kernel
theorem d_TR_stepFrom_19 : decode b_TR_stepFrom 19 = .ok (.istore 4, 2) := by decide +kernel
theorem d_TR_stepFrom_21 : decode b_TR_stepFrom 21 = .ok (.iload 4, 2) := by decide +kernel
theorem d_TR_stepFrom_23 : decode b_TR_stepFrom 23 = .ok (.iconst (-1), 1) := by decide +kernel
theorem d_TR_stepFrom_24 : decode b_TR_stepFrom 24 = .ok (.if_icmp .ne 23, 3) := by decide +kernel
theorem d_TR_stepFrom_27 : decode b_TR_stepFrom 27 = .ok (.aload_n 0, 1) := by decide +kernel
theorem d_TR_stepFrom_28 : decode b_TR_stepFrom 28 = .ok (.getfield 11, 3) := by decide +kernel
theorem d_TR_stepFrom_31 : decode b_TR_stepFrom 31 = .ok (.iconst 2, 1) := by decide +kernel
theorem d_TR_stepFrom_32 : decode b_TR_stepFrom 32 = .ok (.aaload, 1) := by decide +kernel
theorem d_TR_stepFrom_33 : decode b_TR_stepFrom 33 = .ok (.iload_n 1, 1) := by decide +kernel
theorem d_TR_stepFrom_34 : decode b_TR_stepFrom 34 = .ok (.iaload, 1) := by decide +kernel
theorem d_TR_stepFrom_35 : decode b_TR_stepFrom 35 = .ok (.iconst 1, 1) := by decide +kernel
theorem d_TR_stepFrom_36 : decode b_TR_stepFrom 36 = .ok (.if_icmp .ne 7, 3) := by decide +kernel
theorem d_TR_stepFrom_39 : decode b_TR_stepFrom 39 = .ok (.iconst 1, 1) := by decide +kernel
theorem d_TR_stepFrom_40 : decode b_TR_stepFrom 40 = .ok (.goto 25, 3) := by decide +kernel
theorem d_TR_stepFrom_43 : decode b_TR_stepFrom 43 = .ok (.iconst 0, 1) := by decide +kernel
theorem d_TR_stepFrom_44 : decode b_TR_stepFrom 44 = .ok (.goto 21, 3) := by decide +kernel
theorem d_TR_stepFrom_47 : decode b_TR_stepFrom 47 = .ok (.iload 4, 2) := by decide +kernel
theorem d_TR_stepFrom_49 : decode b_TR_stepFrom 49 = .ok (.aload_n 0, 1) := by decide +kernel
theorem d_TR_stepFrom_50 : decode b_TR_stepFrom 50 = .ok (.getfield 11, 3) := by decide +kernel
theorem d_TR_stepFrom_53 : decode b_TR_stepFrom 53 = .ok (.iconst 1, 1) := by decide +kernel
theorem d_TR_stepFrom_54 : decode b_TR_stepFrom 54 = .ok (.aaload, 1) := by decide +kernel
theorem d_TR_stepFrom_55 : decode b_TR_stepFrom 55 = .ok (.iload_n 1, 1) := by decide +kernel
theorem d_TR_stepFrom_56 : decode b_TR_stepFrom 56 = .ok (.iaload, 1) := by decide +kernel
theorem d_TR_stepFrom_57 : decode b_TR_stepFrom 57 = .ok (.if_icmp .le 7, 3) := by decide +kernel
theorem d_TR_stepFrom_60 : decode b_TR_stepFrom 60 = .ok (.iconst 1, 1) := by decide +kernel
theorem d_TR_stepFrom_61 : decode b_TR_stepFrom 61 = .ok (.goto 4, 3) := by decide +kernel
theorem d_TR_stepFrom_64 : decode b_TR_stepFrom 64 = .ok (.iconst 0, 1) := by decide +kernel
theorem d_TR_stepFrom_65 : decode b_TR_stepFrom 65 = .ok (.istore 5, 2) := by decide +kernel
theorem d_TR_stepFrom_67 : decode b_TR_stepFrom 67 = .ok (.aload_n 0, 1) := by decide +kernel
theorem d_TR_stepFrom_68 : decode b_TR_stepFrom 68 = .ok (.getfield 11, 3) := by decide +kernel
theorem d_TR_stepFrom_71 : decode b_TR_stepFrom 71 = .ok (.iconst 3, 1) := by decide +kernel
theorem d_TR_stepFrom_72 : decode b_TR_stepFrom 72 = .ok (.aaload, 1) := by decide +kernel
theorem d_TR_stepFrom_73 : decode b_TR_stepFrom 73 = .ok (.iload_n 1, 1) := by decide +kernel
theorem d_TR_stepFrom_74 : decode b_TR_stepFrom 74 = .ok (.iaload, 1) := by decide +kernel
theorem d_TR_stepFrom_75 : decode b_TR_stepFrom 75 = .ok (.iload 5, 2) := by decide +kernel
theorem d_TR_stepFrom_77 : decode b_TR_stepFrom 77 = .ok (.ifCond .eq 7, 3) := by decide +kernel
theorem d_TR_stepFrom_80 : decode b_TR_stepFrom 80 = .ok (.iconst 1, 1) := by decide +kernel
theorem d_TR_stepFrom_81 : decode b_TR_stepFrom 81 = .ok (.goto 4, 3) := by decide +kernel
theorem d_TR_stepFrom_84 : decode b_TR_stepFrom 84 = .ok (.iconst 0, 1) := by decide +kernel
theorem d_TR_stepFrom_85 : decode b_TR_stepFrom 85 = .ok (.iadd, 1) := by decide +kernel
theorem d_TR_stepFrom_86 : decode b_TR_stepFrom 86 = .ok (.ireturn, 1) := by decide +kernel
theorem d_TR_leafOf_0 : decode b_TR_leafOf 0 = .ok (.iconst 0, 1) := by decide +kernel
theorem d_TR_leafOf_1 : decode b_TR_leafOf 1 = .ok (.istore_n 2, 1) := by decide +kernel
theorem d_TR_leafOf_2 : decode b_TR_leafOf 2 = .ok (.iconst 0, 1) := by decide +kernel
theorem d_TR_leafOf_3 : decode b_TR_leafOf 3 = .ok (.istore_n 3, 1) := by decide +kernel
theorem d_TR_leafOf_4 : decode b_TR_leafOf 4 = .ok (.iload_n 3, 1) := by decide +kernel
theorem d_TR_leafOf_5 : decode b_TR_leafOf 5 = .ok (.iconst 4, 1) := by decide +kernel
theorem d_TR_leafOf_6 : decode b_TR_leafOf 6 = .ok (.if_icmp .ge 16, 3) := by decide +kernel
theorem d_TR_leafOf_9 : decode b_TR_leafOf 9 = .ok (.aload_n 0, 1) := by decide +kernel
theorem d_TR_leafOf_10 : decode b_TR_leafOf 10 = .ok (.iload_n 2, 1) := by decide +kernel
theorem d_TR_leafOf_11 : decode b_TR_leafOf 11 = .ok (.aload_n 1, 1) := by decide +kernel
theorem d_TR_leafOf_12 : decode b_TR_leafOf 12 = .ok (.invokevirtual 59, 3) := by decide +kernel
theorem d_TR_leafOf_15 : decode b_TR_leafOf 15 = .ok (.istore_n 2, 1) := by decide +kernel
theorem d_TR_leafOf_16 : decode b_TR_leafOf 16 = .ok (.iinc 3 1, 3) := by decide +kernel
theorem d_TR_leafOf_19 : decode b_TR_leafOf 19 = .ok (.goto (-15), 3) := by decide +kernel
theorem d_TR_leafOf_22 : decode b_TR_leafOf 22 = .ok (.iload_n 2, 1) := by decide +kernel
theorem d_TR_leafOf_23 : decode b_TR_leafOf 23 = .ok (.ireturn, 1) := by decide +kernel
end
section
theorem d_MD_init_0 : decode b_MD_init 0 = .ok (.aload_n 0, 1) := by decide +kernel
theorem d_MD_init_1 : decode b_MD_init 1 = .ok (.invokespecial 1, 3) := by decide +kernel
theorem d_MD_init_4 : decode b_MD_init 4 = .ok (.aload_n 0, 1) := by decide +kernel
theorem d_MD_init_5 : decode b_MD_init 5 = .ok (.sipush 160, 3) := by decide +kernel
theorem d_MD_init_8 : decode b_MD_init 8 = .ok (.newarray .int, 2) := by decide +kernel
theorem d_MD_init_10 : decode b_MD_init 10 = .ok (.putfield 7, 3) := by decide +kernel
theorem d_MD_init_13 : decode b_MD_init 13 = .ok (.aload_n 0, 1) := by decide +kernel
theorem d_MD_init_14 : decode b_MD_init 14 = .ok (.bipush 40, 2) := by decide +kernel
theorem d_MD_init_16 : decode b_MD_init 16 = .ok (.newarray .int, 2) := by decide +kernel
theorem d_MD_init_18 : decode b_MD_init 18 = .ok (.putfield 13, 3) := by decide +kernel
theorem d_MD_init_21 : decode b_MD_init 21 = .ok (.aload_n 0, 1) := by decide +kernel
theorem d_MD_init_22 : decode b_MD_init 22 = .ok (.bipush 40, 2) := by decide +kernel
theorem d_MD_init_24 : decode b_MD_init 24 = .ok (.newarray .int, 2) := by decide +kernel
theorem d_MD_init_26 : decode b_MD_init 26 = .ok (.putfield 16, 3) := by decide +kernel
theorem d_MD_init_29 : decode b_MD_init 29 = .ok (.aload_n 0, 1) := by decide +kernel
theorem d_MD_init_30 : decode b_MD_init 30 = .ok (.bipush 40, 2) := by decide +kernel
theorem d_MD_init_32 : decode b_MD_init 32 = .ok (.newarray .boolean, 2) := by decide +kernel
theorem d_MD_init_34 : decode b_MD_init 34 = .ok (.putfield 19, 3) := by decide +kernel
theorem d_MD_init_37 : decode b_MD_init 37 = .ok (.aload_n 0, 1) := by decide +kernel
theorem d_MD_init_38 : decode b_MD_init 38 = .ok (.bipush 15, 2) := by decide +kernel
theorem d_MD_init_40 : decode b_MD_init 40 = .ok (.newarray .int, 2) := by decide +kernel
theorem d_MD_init_42 : decode b_MD_init 42 = .ok (.putfield 23, 3) := by decide +kernel
theorem d_MD_init_45 : decode b_MD_init 45 = .ok (.aload_n 0, 1) := by decide +kernel
theorem d_MD_init_46 : decode b_MD_init 46 = .ok (.sipush 160, 3) := by decide +kernel
theorem d_MD_init_49 : decode b_MD_init 49 = .ok (.newarray .int, 2) := by decide +kernel
theorem d_MD_init_51 : decode b_MD_init 51 = .ok (.putfield 26, 3) := by decide +kernel
theorem d_MD_init_54 : decode b_MD_init 54 = .ok (.aload_n 0, 1) := by decide +kernel
theorem d_MD_init_55 : decode b_MD_init 55 = .ok (.bipush 40, 2) := by decide +kernel
theorem d_MD_init_57 : decode b_MD_init 57 = .ok (.newarray .int, 2) := by decide +kernel
theorem d_MD_init_59 : decode b_MD_init 59 = .ok (.putfield 29, 3) := by decide +kernel
theorem d_MD_init_62 : decode b_MD_init 62 = .ok (.aload_n 0, 1) := by decide +kernel
theorem d_MD_init_63 : decode b_MD_init 63 = .ok (.bipush 40, 2) := by decide +kernel
theorem d_MD_init_65 : decode b_MD_init 65 = .ok (.newarray .int, 2) := by decide +kernel
theorem d_MD_init_67 : decode b_MD_init 67 = .ok (.putfield 32, 3) := by decide +kernel
theorem d_MD_init_70 : decode b_MD_init 70 = .ok (.aload_n 0, 1) := by decide +kernel
theorem d_MD_init_71 : decode b_MD_init 71 = .ok (.bipush 40, 2) := by decide +kernel
theorem d_MD_init_73 : decode b_MD_init 73 = .ok (.newarray .boolean, 2) := by decide +kernel
theorem d_MD_init_75 : decode b_MD_init 75 = .ok (.putfield 35, 3) := by decide +kernel
theorem d_MD_init_78 : decode b_MD_init 78 = .ok (.aload_n 0, 1) := by decide +kernel
theorem d_MD_init_79 : decode b_MD_init 79 = .ok (.bipush 15, 2) := by decide +kernel
theorem d_MD_init_81 : decode b_MD_init 81 = .ok (.newarray .int, 2) := by decide +kernel
theorem d_MD_init_83 : decode b_MD_init 83 = .ok (.putfield 38, 3) := by decide +kernel
theorem d_MD_init_86 : decode b_MD_init 86 = .ok (.aload_n 0, 1) := by decide +kernel
theorem d_MD_init_87 : decode b_MD_init 87 = .ok (.bipush 40, 2) := by decide +kernel
theorem d_MD_init_89 : decode b_MD_init 89 = .ok (.newarray .long, 2) := by decide +kernel
theorem d_MD_init_91 : decode b_MD_init 91 = .ok (.putfield 41, 3) := by decide +kernel
theorem d_MD_init_94 : decode b_MD_init 94 = .ok (.aload_n 0, 1) := by decide +kernel
theorem d_MD_init_95 : decode b_MD_init 95 = .ok (.bipush 26, 2) := by decide +kernel
theorem d_MD_init_97 : decode b_MD_init 97 = .ok (.newarray .long, 2) := by decide +kernel
theorem d_MD_init_99 : decode b_MD_init 99 = .ok (.putfield 45, 3) := by decide +kernel
theorem d_MD_init_102 : decode b_MD_init 102 = .ok (.aload_n 0, 1) := by decide +kernel
theorem d_MD_init_103 : decode b_MD_init 103 = .ok (.sipush 480, 3) := by decide +kernel
theorem d_MD_init_106 : decode b_MD_init 106 = .ok (.newarray .boolean, 2) := by decide +kernel
theorem d_MD_init_108 : decode b_MD_init 108 = .ok (.putfield 48, 3) := by decide +kernel
theorem d_MD_init_111 : decode b_MD_init 111 = .ok (.aload_n 0, 1) := by decide +kernel
theorem d_MD_init_112 : decode b_MD_init 112 = .ok (.bipush 12, 2) := by decide +kernel
theorem d_MD_init_114 : decode b_MD_init 114 = .ok (.newarray .int, 2) := by decide +kernel
theorem d_MD_init_116 : decode b_MD_init 116 = .ok (.putfield 51, 3) := by decide +kernel
theorem d_MD_init_119 : decode b_MD_init 119 = .ok (.aload_n 0, 1) := by decide +kernel
theorem d_MD_init_120 : decode b_MD_init 120 = .ok (.sipush 384, 3) := by decide +kernel
theorem d_MD_init_123 : decode b_MD_init 123 = .ok (.newarray .int, 2) := by decide +kernel
theorem d_MD_init_125 : decode b_MD_init 125 = .ok (.putfield 54, 3) := by decide +kernel
theorem d_MD_init_128 : decode b_MD_init 128 = .ok (.aload_n 0, 1) := by decide +kernel
theorem d_MD_init_129 : decode b_MD_init 129 = .ok (.sipush 384, 3) := by decide +kernel
theorem d_MD_init_132 : decode b_MD_init 132 = .ok (.newarray .int, 2) := by decide +kernel
theorem d_MD_init_134 : decode b_MD_init 134 = .ok (.putfield 57, 3) := by decide +kernel
theorem d_MD_init_137 : decode b_MD_init 137 = .ok (.aload_n 0, 1) := by decide +kernel
theorem d_MD_init_138 : decode b_MD_init 138 = .ok (.sipush 384, 3) := by decide +kernel
theorem d_MD_init_141 : decode b_MD_init 141 = .ok (.newarray .int, 2) := by decide +kernel
theorem d_MD_init_143 : decode b_MD_init 143 = .ok (.putfield 60, 3) := by decide +kernel
theorem d_MD_init_146 : decode b_MD_init 146 = .ok (.aload_n 0, 1) := by decide +kernel
theorem d_MD_init_147 : decode b_MD_init 147 = .ok (.sipush 384, 3) := by decide +kernel
theorem d_MD_init_150 : decode b_MD_init 150 = .ok (.newarray .int, 2) := by decide +kernel
theorem d_MD_init_152 : decode b_MD_init 152 = .ok (.putfield 63, 3) := by decide +kernel
theorem d_MD_init_155 : decode b_MD_init 155 = .ok (.aload_n 0, 1) := by decide +kernel
theorem d_MD_init_156 : decode b_MD_init 156 = .ok (.sipush 384, 3) := by decide +kernel
theorem d_MD_init_159 : decode b_MD_init 159 = .ok (.newarray .int, 2) := by decide +kernel
theorem d_MD_init_161 : decode b_MD_init 161 = .ok (.putfield 66, 3) := by decide +kernel
theorem d_MD_init_164 : decode b_MD_init 164 = .ok (.aload_n 0, 1) := by decide +kernel
theorem d_MD_init_165 : decode b_MD_init 165 = .ok (.sipush 384, 3) := by decide +kernel
theorem d_MD_init_168 : decode b_MD_init 168 = .ok (.newarray .int, 2) := by decide +kernel
theorem d_MD_init_170 : decode b_MD_init 170 = .ok (.putfield 69, 3) := by decide +kernel
theorem d_MD_init_173 : decode b_MD_init 173 = .ok (.aload_n 0, 1) := by decide +kernel
theorem d_MD_init_174 : decode b_MD_init 174 = .ok (.sipush 384, 3) := by decide +kernel
theorem d_MD_init_177 : decode b_MD_init 177 = .ok (.newarray .int, 2) := by decide +kernel
theorem d_MD_init_179 : decode b_MD_init 179 = .ok (.putfield 72, 3) := by decide +kernel
theorem d_MD_init_182 : decode b_MD_init 182 = .ok (.aload_n 0, 1) := by decide +kernel
theorem d_MD_init_183 : decode b_MD_init 183 = .ok (.sipush 384, 3) := by decide +kernel
theorem d_MD_init_186 : decode b_MD_init 186 = .ok (.newarray .long, 2) := by decide +kernel
theorem d_MD_init_188 : decode b_MD_init 188 = .ok (.putfield 75, 3) := by decide +kernel
theorem d_MD_init_191 : decode b_MD_init 191 = .ok (.aload_n 0, 1) := by decide +kernel
theorem d_MD_init_192 : decode b_MD_init 192 = .ok (.sipush 384, 3) := by decide +kernel
theorem d_MD_init_195 : decode b_MD_init 195 = .ok (.newarray .long, 2) := by decide +kernel
theorem d_MD_init_197 : decode b_MD_init 197 = .ok (.putfield 78, 3) := by decide +kernel
theorem d_MD_init_200 : decode b_MD_init 200 = .ok (.aload_n 0, 1) := by decide +kernel
theorem d_MD_init_201 : decode b_MD_init 201 = .ok (.bipush 40, 2) := by decide +kernel
theorem d_MD_init_203 : decode b_MD_init 203 = .ok (.newarray .int, 2) := by decide +kernel
theorem d_MD_init_205 : decode b_MD_init 205 = .ok (.putfield 81, 3) := by decide +kernel
theorem d_MD_init_208 : decode b_MD_init 208 = .ok (.aload_n 0, 1) := by decide +kernel
theorem d_MD_init_209 : decode b_MD_init 209 = .ok (.bipush 32, 2) := by decide +kernel
theorem d_MD_init_211 : decode b_MD_init 211 = .ok (.newarray .long, 2) := by decide +kernel
theorem d_MD_init_213 : decode b_MD_init 213 = .ok (.putfield 84, 3) := by decide +kernel
theorem d_MD_init_216 : decode b_MD_init 216 = .ok (.aload_n 0, 1) := by decide +kernel
theorem d_MD_init_217 : decode b_MD_init 217 = .ok (.getfield 23, 3) := by decide +kernel
theorem d_MD_init_220 : decode b_MD_init 220 = .ok (.iconst 0, 1) := by decide +kernel
theorem d_MD_init_221 : decode b_MD_init 221 = .ok (.iconst 3, 1) := by decide +kernel
theorem d_MD_init_222 : decode b_MD_init 222 = .ok (.iastore, 1) := by decide +kernel
theorem d_MD_init_223 : decode b_MD_init 223 = .ok (.aload_n 0, 1) := by decide +kernel
theorem d_MD_init_224 : decode b_MD_init 224 = .ok (.getfield 23, 3) := by decide +kernel
theorem d_MD_init_227 : decode b_MD_init 227 = .ok (.iconst 1, 1) := by decide +kernel
theorem d_MD_init_228 : decode b_MD_init 228 = .ok (.iconst 1, 1) := by decide +kernel
theorem d_MD_init_229 : decode b_MD_init 229 = .ok (.iastore, 1) := by decide +kernel
theorem d_MD_init_230 : decode b_MD_init 230 = .ok (.aload_n 0, 1) := by decide +kernel
theorem d_MD_init_231 : decode b_MD_init 231 = .ok (.getfield 23, 3) := by decide +kernel
theorem d_MD_init_234 : decode b_MD_init 234 = .ok (.iconst 2, 1) := by decide +kernel
theorem d_MD_init_235 : decode b_MD_init 235 = .ok (.iconst 1, 1) := by decide +kernel
theorem d_MD_init_236 : decode b_MD_init 236 = .ok (.iastore, 1) := by decide +kernel
theorem d_MD_init_237 : decode b_MD_init 237 = .ok (.aload_n 0, 1) := by decide +kernel
theorem d_MD_init_238 : decode b_MD_init 238 = .ok (.getfield 23, 3) := by decide +kernel
theorem d_MD_init_241 : decode b_MD_init 241 = .ok (.iconst 3, 1) := by decide +kernel
theorem d_MD_init_242 : decode b_MD_init 242 = .ok (.sipush 256, 3) := by decide +kernel
theorem d_MD_init_245 : decode b_MD_init 245 = .ok (.iastore, 1) := by decide +kernel
theorem d_MD_init_246 : decode b_MD_init 246 = .ok (.aload_n 0, 1) := by decide +kernel
theorem d_MD_init_247 : decode b_MD_init 247 = .ok (.getfield 23, 3) := by decide +kernel
theorem d_MD_init_250 : decode b_MD_init 250 = .ok (.iconst 4, 1) := by decide +kernel
theorem d_MD_init_251 : decode b_MD_init 251 = .ok (.iconst 4, 1) := by decide +kernel
theorem d_MD_init_252 : decode b_MD_init 252 = .ok (.iastore, 1) := by decide +kernel
theorem d_MD_init_253 : decode b_MD_init 253 = .ok (.aload_n 0, 1) := by decide +kernel
theorem d_MD_init_254 : decode b_MD_init 254 = .ok (.getfield 23, 3) := by decide +kernel
theorem d_MD_init_257 : decode b_MD_init 257 = .ok (.bipush 6, 2) := by decide +kernel
theorem d_MD_init_259 : decode b_MD_init 259 = .ok (.sipush 256, 3) := by decide +kernel
theorem d_MD_init_262 : decode b_MD_init 262 = .ok (.iastore, 1) := by decide +kernel
theorem d_MD_init_263 : decode b_MD_init 263 = .ok (.aload_n 0, 1) := by decide +kernel
theorem d_MD_init_264 : decode b_MD_init 264 = .ok (.getfield 23, 3) := by decide +kernel
theorem d_MD_init_267 : decode b_MD_init 267 = .ok (.bipush 7, 2) := by decide +kernel
theorem d_MD_init_269 : decode b_MD_init 269 = .ok (.sipush 256, 3) := by decide +kernel
theorem d_MD_init_272 : decode b_MD_init 272 = .ok (.iastore, 1) := by decide +kernel
theorem d_MD_init_273 : decode b_MD_init 273 = .ok (.return_, 1) := by decide +kernel
theorem d_MD_isNumber_0 : decode b_MD_isNumber 0 = .ok (.iload_n 0, 1) := by decide +kernel
theorem d_MD_isNumber_1 : decode b_MD_isNumber 1 = .ok (.iconst (-1), 1) := by decide +kernel
theorem d_MD_isNumber_2 : decode b_MD_isNumber 2 = .ok (.if_icmp .lt 13, 3) := by decide +kernel
theorem d_MD_isNumber_5 : decode b_MD_isNumber 5 = .ok (.iload_n 0, 1) := by decide +kernel
theorem d_MD_isNumber_6 : decode b_MD_isNumber 6 = .ok (.bipush 32, 2) := by decide +kernel
theorem d_MD_isNumber_8 : decode b_MD_isNumber 8 = .ok (.if_icmp .ge 7, 3) := by decide +kernel
theorem d_MD_isNumber_11 : decode b_MD_isNumber 11 = .ok (.iconst 1, 1) := by decide +kernel
theorem d_MD_isNumber_12 : decode b_MD_isNumber 12 = .ok (.goto 4, 3) := by decide +kernel
theorem d_MD_isNumber_15 : decode b_MD_isNumber 15 = .ok (.iconst 0, 1) := by decide +kernel
theorem d_MD_isNumber_16 : decode b_MD_isNumber 16 = .ok (.ireturn, 1) := by decide +kernel
theorem d_MD_areNumbers_0 : decode b_MD_areNumbers 0 = .ok (.iload_n 0, 1) := by decide +kernel
theorem d_MD_areNumbers_1 : decode b_MD_areNumbers 1 = .ok (.invokestatic 87, 3) := by decide +kernel
theorem d_MD_areNumbers_4 : decode b_MD_areNumbers 4 = .ok (.ifCond .eq 28, 3) := by decide +kernel
theorem d_MD_areNumbers_7 : decode b_MD_areNumbers 7 = .ok (.iload_n 1, 1) := by decide +kernel
theorem d_MD_areNumbers_8 : decode b_MD_areNumbers 8 = .ok (.invokestatic 87, 3) := by decide +kernel
theorem d_MD_areNumbers_11 : decode b_MD_areNumbers 11 = .ok (.ifCond .eq 21, 3) := by decide +kernel
theorem d_MD_areNumbers_14 : decode b_MD_areNumbers 14 = .ok (.iload_n 2, 1) := by decide +kernel
theorem d_MD_areNumbers_15 : decode b_MD_areNumbers 15 = .ok (.invokestatic 87, 3) := by decide +kernel
theorem d_MD_areNumbers_18 : decode b_MD_areNumbers 18 = .ok (.ifCond .eq 14, 3) := by decide +kernel
theorem d_MD_areNumbers_21 : decode b_MD_areNumbers 21 = .ok (.iload_n 3, 1) := by decide +kernel
theorem d_MD_areNumbers_22 : decode b_MD_areNumbers 22 = .ok (.invokestatic 87, 3) := by decide +kernel
theorem d_MD_areNumbers_25 : decode b_MD_areNumbers 25 = .ok (.ifCond .eq 7, 3) := by decide +kernel
theorem d_MD_areNumbers_28 : decode b_MD_areNumbers 28 = .ok (.iconst 1, 1) := by decide +kernel
theorem d_MD_areNumbers_29 : decode b_MD_areNumbers 29 = .ok (.goto 4, 3) := by decide +kernel
theorem d_MD_areNumbers_32 : decode b_MD_areNumbers 32 = .ok (.iconst 0, 1) := by decide +kernel
theorem d_MD_areNumbers_33 : decode b_MD_areNumbers 33 = .ok (.ireturn, 1) := by decide +kernel
theorem d_MD_number_0 : decode b_MD_number 0 = .ok (.iload_n 0, 1) := by decide +kernel
theorem d_MD_number_1 : decode b_MD_number 1 = .ok (.ifCond .ne 7, 3) := by decide +kernel
theorem d_MD_number_4 : decode b_MD_number 4 = .ok (.iload_n 1, 1) := by decide +kernel
theorem d_MD_number_5 : decode b_MD_number 5 = .ok (.goto 23, 3) := by decide +kernel
theorem d_MD_number_8 : decode b_MD_number 8 = .ok (.iload_n 0, 1) := by decide +kernel
theorem d_MD_number_9 : decode b_MD_number 9 = .ok (.iconst 1, 1) := by decide +kernel
theorem d_MD_number_10 : decode b_MD_number 10 = .ok (.if_icmp .ne 7, 3) := by decide +kernel
theorem d_MD_number_13 : decode b_MD_number 13 = .ok (.iload_n 2, 1) := by decide +kernel
theorem d_MD_number_14 : decode b_MD_number 14 = .ok (.goto 14, 3) := by decide +kernel
theorem d_MD_number_17 : decode b_MD_number 17 = .ok (.iload_n 0, 1) := by decide +kernel
theorem d_MD_number_18 : decode b_MD_number 18 = .ok (.iconst 2, 1) := by decide +kernel
theorem d_MD_number_19 : decode b_MD_number 19 = .ok (.if_icmp .ne 7, 3) := by decide +kernel
theorem d_MD_number_22 : decode b_MD_number 22 = .ok (.iload_n 3, 1) := by decide +kernel
theorem d_MD_number_23 : decode b_MD_number 23 = .ok (.goto 5, 3) := by decide +kernel
theorem d_MD_number_26 : decode b_MD_number 26 = .ok (.iload 4, 2) := by decide +kernel
theorem d_MD_number_28 : decode b_MD_number 28 = .ok (.ireturn, 1) := by decide +kernel
theorem d_MD_row_0 : decode b_MD_row 0 = .ok (.iload_n 1, 1) := by decide +kernel
theorem d_MD_row_1 : decode b_MD_row 1 = .ok (.iload_n 2, 1) := by decide +kernel
theorem d_MD_row_2 : decode b_MD_row 2 = .ok (.iload_n 3, 1) := by decide +kernel
theorem d_MD_row_3 : decode b_MD_row 3 = .ok (.iload 4, 2) := by decide +kernel
theorem d_MD_row_5 : decode b_MD_row 5 = .ok (.invokestatic 91, 3) := by decide +kernel
theorem d_MD_row_8 : decode b_MD_row 8 = .ok (.ifCond .eq 39, 3) := by decide +kernel
theorem d_MD_row_11 : decode b_MD_row 11 = .ok (.iload 5, 2) := by decide +kernel
theorem d_MD_row_13 : decode b_MD_row 13 = .ok (.bipush (-100), 2) := by decide +kernel
theorem d_MD_row_15 : decode b_MD_row 15 = .ok (.if_icmp .lt 32, 3) := by decide +kernel
theorem d_MD_row_18 : decode b_MD_row 18 = .ok (.iload 5, 2) := by decide +kernel
theorem d_MD_row_20 : decode b_MD_row 20 = .ok (.bipush 100, 2) := by decide +kernel
theorem d_MD_row_22 : decode b_MD_row 22 = .ok (.if_icmp .gt 25, 3) := by decide +kernel
theorem d_MD_row_25 : decode b_MD_row 25 = .ok (.iload 6, 2) := by decide +kernel
theorem d_MD_row_27 : decode b_MD_row 27 = .ok (.iconst 1, 1) := by decide +kernel
theorem d_MD_row_28 : decode b_MD_row 28 = .ok (.if_icmp .lt 19, 3) := by decide +kernel
theorem d_MD_row_31 : decode b_MD_row 31 = .ok (.iload 6, 2) := by decide +kernel
theorem d_MD_row_33 : decode b_MD_row 33 = .ok (.bipush 8, 2) := by decide +kernel
theorem d_MD_row_35 : decode b_MD_row 35 = .ok (.if_icmp .gt 12, 3) := by decide +kernel
theorem d_MD_row_38 : decode b_MD_row 38 = .ok (.aload_n 0, 1) := by decide +kernel
theorem d_MD_row_39 : decode b_MD_row 39 = .ok (.getfield 95, 3) := by decide +kernel
theorem d_MD_row_42 : decode b_MD_row 42 = .ok (.bipush 40, 2) := by decide +kernel
theorem d_MD_row_44 : decode b_MD_row 44 = .ok (.if_icmp .ne 6, 3) := by decide +kernel
theorem d_MD_row_47 : decode b_MD_row 47 = .ok (.bipush (-2), 2) := by decide +kernel
theorem d_MD_row_49 : decode b_MD_row 49 = .ok (.ireturn, 1) := by decide +kernel
theorem d_MD_row_50 : decode b_MD_row 50 = .ok (.iconst 0, 1) := by decide +kernel
theorem d_MD_row_51 : decode b_MD_row 51 = .ok (.istore 7, 2) := by decide +kernel
theorem d_MD_row_53 : decode b_MD_row 53 = .ok (.iload 7, 2) := by decide +kernel
theorem d_MD_row_55 : decode b_MD_row 55 = .ok (.iconst 4, 1) := by decide +kernel
theorem d_MD_row_56 : decode b_MD_row 56 = .ok (.if_icmp .ge 33, 3) := by decide +kernel
theorem d_MD_row_59 : decode b_MD_row 59 = .ok (.aload_n 0, 1) := by decide +kernel
theorem d_MD_row_60 : decode b_MD_row 60 = .ok (.getfield 7, 3) := by decide +kernel
theorem d_MD_row_63 : decode b_MD_row 63 = .ok (.iconst 4, 1) := by decide +kernel
theorem d_MD_row_64 : decode b_MD_row 64 = .ok (.aload_n 0, 1) := by decide +kernel
theorem d_MD_row_65 : decode b_MD_row 65 = .ok (.getfield 95, 3) := by decide +kernel
theorem d_MD_row_68 : decode b_MD_row 68 = .ok (.imul, 1) := by decide +kernel
theorem d_MD_row_69 : decode b_MD_row 69 = .ok (.iload 7, 2) := by decide +kernel
theorem d_MD_row_71 : decode b_MD_row 71 = .ok (.iadd, 1) := by decide +kernel
theorem d_MD_row_72 : decode b_MD_row 72 = .ok (.iload 7, 2) := by decide +kernel
theorem d_MD_row_74 : decode b_MD_row 74 = .ok (.iload_n 1, 1) := by decide +kernel
theorem d_MD_row_75 : decode b_MD_row 75 = .ok (.iload_n 2, 1) := by decide +kernel
theorem d_MD_row_76 : decode b_MD_row 76 = .ok (.iload_n 3, 1) := by decide +kernel
theorem d_MD_row_77 : decode b_MD_row 77 = .ok (.iload 4, 2) := by decide +kernel
theorem d_MD_row_79 : decode b_MD_row 79 = .ok (.invokestatic 99, 3) := by decide +kernel
theorem d_MD_row_82 : decode b_MD_row 82 = .ok (.iastore, 1) := by decide +kernel
theorem d_MD_row_83 : decode b_MD_row 83 = .ok (.iinc 7 1, 3) := by decide +kernel
theorem d_MD_row_86 : decode b_MD_row 86 = .ok (.goto (-33), 3) := by decide +kernel
theorem d_MD_row_89 : decode b_MD_row 89 = .ok (.aload_n 0, 1) := by decide +kernel
theorem d_MD_row_90 : decode b_MD_row 90 = .ok (.getfield 13, 3) := by decide +kernel
theorem d_MD_row_93 : decode b_MD_row 93 = .ok (.aload_n 0, 1) := by decide +kernel
theorem d_MD_row_94 : decode b_MD_row 94 = .ok (.getfield 95, 3) := by decide +kernel
theorem d_MD_row_97 : decode b_MD_row 97 = .ok (.iload 5, 2) := by decide +kernel
theorem d_MD_row_99 : decode b_MD_row 99 = .ok (.iastore, 1) := by decide +kernel
theorem d_MD_row_100 : decode b_MD_row 100 = .ok (.aload_n 0, 1) := by decide +kernel
theorem d_MD_row_101 : decode b_MD_row 101 = .ok (.getfield 16, 3) := by decide +kernel
theorem d_MD_row_104 : decode b_MD_row 104 = .ok (.aload_n 0, 1) := by decide +kernel
theorem d_MD_row_105 : decode b_MD_row 105 = .ok (.getfield 95, 3) := by decide +kernel
theorem d_MD_row_108 : decode b_MD_row 108 = .ok (.iload 6, 2) := by decide +kernel
theorem d_MD_row_110 : decode b_MD_row 110 = .ok (.iastore, 1) := by decide +kernel
theorem d_MD_row_111 : decode b_MD_row 111 = .ok (.aload_n 0, 1) := by decide +kernel
theorem d_MD_row_112 : decode b_MD_row 112 = .ok (.getfield 19, 3) := by decide +kernel
theorem d_MD_row_115 : decode b_MD_row 115 = .ok (.aload_n 0, 1) := by decide +kernel
theorem d_MD_row_116 : decode b_MD_row 116 = .ok (.getfield 95, 3) := by decide +kernel
theorem d_MD_row_119 : decode b_MD_row 119 = .ok (.iconst 0, 1) := by decide +kernel
theorem d_MD_row_120 : decode b_MD_row 120 = .ok (.bastore, 1) := by decide +kernel
theorem d_MD_row_121 : decode b_MD_row 121 = .ok (.aload_n 0, 1) := by decide +kernel
theorem d_MD_row_122 : decode b_MD_row 122 = .ok (.dup, 1) := by decide +kernel
theorem d_MD_row_123 : decode b_MD_row 123 = .ok (.getfield 95, 3) := by decide +kernel
theorem d_MD_row_126 : decode b_MD_row 126 = .ok (.iconst 1, 1) := by decide +kernel
theorem d_MD_row_127 : decode b_MD_row 127 = .ok (.iadd, 1) := by decide +kernel
theorem d_MD_row_128 : decode b_MD_row 128 = .ok (.putfield 95, 3) := by decide +kernel
theorem d_MD_row_131 : decode b_MD_row 131 = .ok (.aload_n 0, 1) := by decide +kernel
theorem d_MD_row_132 : decode b_MD_row 132 = .ok (.getfield 95, 3) := by decide +kernel
theorem d_MD_row_135 : decode b_MD_row 135 = .ok (.iconst 1, 1) := by decide +kernel
theorem d_MD_row_136 : decode b_MD_row 136 = .ok (.isub, 1) := by decide +kernel
theorem d_MD_row_137 : decode b_MD_row 137 = .ok (.ireturn, 1) := by decide +kernel
theorem d_MD_hold_0 : decode b_MD_hold 0 = .ok (.iload_n 1, 1) := by decide +kernel
theorem d_MD_hold_1 : decode b_MD_hold 1 = .ok (.ifCond .lt 20, 3) := by decide +kernel
theorem d_MD_hold_4 : decode b_MD_hold 4 = .ok (.iload_n 1, 1) := by decide +kernel
theorem d_MD_hold_5 : decode b_MD_hold 5 = .ok (.aload_n 0, 1) := by decide +kernel
theorem d_MD_hold_6 : decode b_MD_hold 6 = .ok (.getfield 95, 3) := by decide +kernel
theorem d_MD_hold_9 : decode b_MD_hold 9 = .ok (.if_icmp .ge 12, 3) := by decide +kernel
theorem d_MD_hold_12 : decode b_MD_hold 12 = .ok (.iload_n 2, 1) := by decide +kernel
theorem d_MD_hold_13 : decode b_MD_hold 13 = .ok (.ifCond .lt 8, 3) := by decide +kernel
theorem d_MD_hold_16 : decode b_MD_hold 16 = .ok (.iload_n 2, 1) := by decide +kernel
theorem d_MD_hold_17 : decode b_MD_hold 17 = .ok (.iconst 1, 1) := by decide +kernel
theorem d_MD_hold_18 : decode b_MD_hold 18 = .ok (.if_icmp .le 6, 3) := by decide +kernel
theorem d_MD_hold_21 : decode b_MD_hold 21 = .ok (.bipush (-2), 2) := by decide +kernel
theorem d_MD_hold_23 : decode b_MD_hold 23 = .ok (.ireturn, 1) := by decide +kernel
theorem d_MD_hold_24 : decode b_MD_hold 24 = .ok (.aload_n 0, 1) := by decide +kernel
theorem d_MD_hold_25 : decode b_MD_hold 25 = .ok (.getfield 19, 3) := by decide +kernel
theorem d_MD_hold_28 : decode b_MD_hold 28 = .ok (.iload_n 1, 1) := by decide +kernel
theorem d_MD_hold_29 : decode b_MD_hold 29 = .ok (.baload, 1) := by decide +kernel
theorem d_MD_hold_30 : decode b_MD_hold 30 = .ok (.ifCond .eq 7, 3) := by decide +kernel
theorem d_MD_hold_33 : decode b_MD_hold 33 = .ok (.iconst 1, 1) := by decide +kernel
theorem d_MD_hold_34 : decode b_MD_hold 34 = .ok (.goto 4, 3) := by decide +kernel
theorem d_MD_hold_37 : decode b_MD_hold 37 = .ok (.iconst 0, 1) := by decide +kernel
theorem d_MD_hold_38 : decode b_MD_hold 38 = .ok (.istore_n 3, 1) := by decide +kernel
theorem d_MD_hold_39 : decode b_MD_hold 39 = .ok (.aload_n 0, 1) := by decide +kernel
theorem d_MD_hold_40 : decode b_MD_hold 40 = .ok (.getfield 19, 3) := by decide +kernel
theorem d_MD_hold_43 : decode b_MD_hold 43 = .ok (.iload_n 1, 1) := by decide +kernel
theorem d_MD_hold_44 : decode b_MD_hold 44 = .ok (.iload_n 2, 1) := by decide +kernel
theorem d_MD_hold_45 : decode b_MD_hold 45 = .ok (.iconst 1, 1) := by decide +kernel
theorem d_MD_hold_46 : decode b_MD_hold 46 = .ok (.if_icmp .ne 7, 3) := by decide +kernel
theorem d_MD_hold_49 : decode b_MD_hold 49 = .ok (.iconst 1, 1) := by decide +kernel
theorem d_MD_hold_50 : decode b_MD_hold 50 = .ok (.goto 4, 3) := by decide +kernel
theorem d_MD_hold_53 : decode b_MD_hold 53 = .ok (.iconst 0, 1) := by decide +kernel
theorem d_MD_hold_54 : decode b_MD_hold 54 = .ok (.bastore, 1) := by decide +kernel
theorem d_MD_hold_55 : decode b_MD_hold 55 = .ok (.iload_n 3, 1) := by decide +kernel
theorem d_MD_hold_56 : decode b_MD_hold 56 = .ok (.ireturn, 1) := by decide +kernel
theorem d_MD_isSetting_0 : decode b_MD_isSetting 0 = .ok (.iload_n 0, 1) := by decide +kernel
theorem d_MD_isSetting_1 : decode b_MD_isSetting 1 = .ok (.tableswitch 179 0 10 #[59, 75, 92, 109, 127, 143, 109, 109, 127, 159, 177], 59) := by decide +kernel
theorem d_MD_isSetting_60 : decode b_MD_isSetting 60 = .ok (.iload_n 1, 1) := by decide +kernel
theorem d_MD_isSetting_61 : decode b_MD_isSetting 61 = .ok (.iconst 1, 1) := by decide +kernel
theorem d_MD_isSetting_62 : decode b_MD_isSetting 62 = .ok (.if_icmp .lt 12, 3) := by decide +kernel
theorem d_MD_isSetting_65 : decode b_MD_isSetting 65 = .ok (.iload_n 1, 1) := by decide +kernel
theorem d_MD_isSetting_66 : decode b_MD_isSetting 66 = .ok (.iconst 4, 1) := by decide +kernel
theorem d_MD_isSetting_67 : decode b_MD_isSetting 67 = .ok (.if_icmp .gt 7, 3) := by decide +kernel
theorem d_MD_isSetting_70 : decode b_MD_isSetting 70 = .ok (.iconst 1, 1) := by decide +kernel
theorem d_MD_isSetting_71 : decode b_MD_isSetting 71 = .ok (.goto 4, 3) := by decide +kernel
theorem d_MD_isSetting_74 : decode b_MD_isSetting 74 = .ok (.iconst 0, 1) := by decide +kernel
theorem d_MD_isSetting_75 : decode b_MD_isSetting 75 = .ok (.ireturn, 1) := by decide +kernel
theorem d_MD_isSetting_76 : decode b_MD_isSetting 76 = .ok (.iload_n 1, 1) := by decide +kernel
theorem d_MD_isSetting_77 : decode b_MD_isSetting 77 = .ok (.iconst 1, 1) := by decide +kernel
theorem d_MD_isSetting_78 : decode b_MD_isSetting 78 = .ok (.if_icmp .lt 13, 3) := by decide +kernel
theorem d_MD_isSetting_81 : decode b_MD_isSetting 81 = .ok (.iload_n 1, 1) := by decide +kernel
theorem d_MD_isSetting_82 : decode b_MD_isSetting 82 = .ok (.bipush 20, 2) := by decide +kernel
theorem d_MD_isSetting_84 : decode b_MD_isSetting 84 = .ok (.if_icmp .gt 7, 3) := by decide +kernel
theorem d_MD_isSetting_87 : decode b_MD_isSetting 87 = .ok (.iconst 1, 1) := by decide +kernel
theorem d_MD_isSetting_88 : decode b_MD_isSetting 88 = .ok (.goto 4, 3) := by decide +kernel
theorem d_MD_isSetting_91 : decode b_MD_isSetting 91 = .ok (.iconst 0, 1) := by decide +kernel
theorem d_MD_isSetting_92 : decode b_MD_isSetting 92 = .ok (.ireturn, 1) := by decide +kernel
theorem d_MD_isSetting_93 : decode b_MD_isSetting 93 = .ok (.iload_n 1, 1) := by decide +kernel
theorem d_MD_isSetting_94 : decode b_MD_isSetting 94 = .ok (.ifCond .lt 14, 3) := by decide +kernel
theorem d_MD_isSetting_97 : decode b_MD_isSetting 97 = .ok (.iload_n 1, 1) := by decide +kernel
theorem d_MD_isSetting_98 : decode b_MD_isSetting 98 = .ok (.sipush 1000, 3) := by decide +kernel
theorem d_MD_isSetting_101 : decode b_MD_isSetting 101 = .ok (.if_icmp .gt 7, 3) := by decide +kernel
theorem d_MD_isSetting_104 : decode b_MD_isSetting 104 = .ok (.iconst 1, 1) := by decide +kernel
theorem d_MD_isSetting_105 : decode b_MD_isSetting 105 = .ok (.goto 4, 3) := by decide +kernel
theorem d_MD_isSetting_108 : decode b_MD_isSetting 108 = .ok (.iconst 0, 1) := by decide +kernel
theorem d_MD_isSetting_109 : decode b_MD_isSetting 109 = .ok (.ireturn, 1) := by decide +kernel
theorem d_MD_isSetting_110 : decode b_MD_isSetting 110 = .ok (.iload_n 1, 1) := by decide +kernel
theorem d_MD_isSetting_111 : decode b_MD_isSetting 111 = .ok (.iconst 1, 1) := by decide +kernel
theorem d_MD_isSetting_112 : decode b_MD_isSetting 112 = .ok (.if_icmp .lt 14, 3) := by decide +kernel
theorem d_MD_isSetting_115 : decode b_MD_isSetting 115 = .ok (.iload_n 1, 1) := by decide +kernel
theorem d_MD_isSetting_116 : decode b_MD_isSetting 116 = .ok (.sipush 256, 3) := by decide +kernel
theorem d_MD_isSetting_119 : decode b_MD_isSetting 119 = .ok (.if_icmp .gt 7, 3) := by decide +kernel
theorem d_MD_isSetting_122 : decode b_MD_isSetting 122 = .ok (.iconst 1, 1) := by decide +kernel
theorem d_MD_isSetting_123 : decode b_MD_isSetting 123 = .ok (.goto 4, 3) := by decide +kernel
theorem d_MD_isSetting_126 : decode b_MD_isSetting 126 = .ok (.iconst 0, 1) := by decide +kernel
theorem d_MD_isSetting_127 : decode b_MD_isSetting 127 = .ok (.ireturn, 1) := by decide +kernel
theorem d_MD_isSetting_128 : decode b_MD_isSetting 128 = .ok (.iload_n 1, 1) := by decide +kernel
theorem d_MD_isSetting_129 : decode b_MD_isSetting 129 = .ok (.ifCond .lt 13, 3) := by decide +kernel
theorem d_MD_isSetting_132 : decode b_MD_isSetting 132 = .ok (.iload_n 1, 1) := by decide +kernel
theorem d_MD_isSetting_133 : decode b_MD_isSetting 133 = .ok (.bipush 12, 2) := by decide +kernel
theorem d_MD_isSetting_135 : decode b_MD_isSetting 135 = .ok (.if_icmp .gt 7, 3) := by decide +kernel
theorem d_MD_isSetting_138 : decode b_MD_isSetting 138 = .ok (.iconst 1, 1) := by decide +kernel
theorem d_MD_isSetting_139 : decode b_MD_isSetting 139 = .ok (.goto 4, 3) := by decide +kernel
theorem d_MD_isSetting_142 : decode b_MD_isSetting 142 = .ok (.iconst 0, 1) := by decide +kernel
theorem d_MD_isSetting_143 : decode b_MD_isSetting 143 = .ok (.ireturn, 1) := by decide +kernel
theorem d_MD_isSetting_144 : decode b_MD_isSetting 144 = .ok (.iload_n 1, 1) := by decide +kernel
theorem d_MD_isSetting_145 : decode b_MD_isSetting 145 = .ok (.ifCond .lt 13, 3) := by decide +kernel
theorem d_MD_isSetting_148 : decode b_MD_isSetting 148 = .ok (.iload_n 1, 1) := by decide +kernel
theorem d_MD_isSetting_149 : decode b_MD_isSetting 149 = .ok (.ldc 103, 2) := by decide +kernel
theorem d_MD_isSetting_151 : decode b_MD_isSetting 151 = .ok (.if_icmp .gt 7, 3) := by decide +kernel
theorem d_MD_isSetting_154 : decode b_MD_isSetting 154 = .ok (.iconst 1, 1) := by decide +kernel
theorem d_MD_isSetting_155 : decode b_MD_isSetting 155 = .ok (.goto 4, 3) := by decide +kernel
theorem d_MD_isSetting_158 : decode b_MD_isSetting 158 = .ok (.iconst 0, 1) := by decide +kernel
theorem d_MD_isSetting_159 : decode b_MD_isSetting 159 = .ok (.ireturn, 1) := by decide +kernel
theorem d_MD_isSetting_160 : decode b_MD_isSetting 160 = .ok (.iload_n 1, 1) := by decide +kernel
theorem d_MD_isSetting_161 : decode b_MD_isSetting 161 = .ok (.bipush (-100), 2) := by decide +kernel
theorem d_MD_isSetting_163 : decode b_MD_isSetting 163 = .ok (.if_icmp .lt 13, 3) := by decide +kernel
theorem d_MD_isSetting_166 : decode b_MD_isSetting 166 = .ok (.iload_n 1, 1) := by decide +kernel
theorem d_MD_isSetting_167 : decode b_MD_isSetting 167 = .ok (.bipush 100, 2) := by decide +kernel
theorem d_MD_isSetting_169 : decode b_MD_isSetting 169 = .ok (.if_icmp .gt 7, 3) := by decide +kernel
theorem d_MD_isSetting_172 : decode b_MD_isSetting 172 = .ok (.iconst 1, 1) := by decide +kernel
theorem d_MD_isSetting_173 : decode b_MD_isSetting 173 = .ok (.goto 4, 3) := by decide +kernel
theorem d_MD_isSetting_176 : decode b_MD_isSetting 176 = .ok (.iconst 0, 1) := by decide +kernel
theorem d_MD_isSetting_177 : decode b_MD_isSetting 177 = .ok (.ireturn, 1) := by decide +kernel
theorem d_MD_isSetting_178 : decode b_MD_isSetting 178 = .ok (.iconst 1, 1) := by decide +kernel
theorem d_MD_isSetting_179 : decode b_MD_isSetting 179 = .ok (.ireturn, 1) := by decide +kernel
theorem d_MD_isSetting_180 : decode b_MD_isSetting 180 = .ok (.iload_n 0, 1) := by decide +kernel
theorem d_MD_isSetting_181 : decode b_MD_isSetting 181 = .ok (.bipush 11, 2) := by decide +kernel
theorem d_MD_isSetting_183 : decode b_MD_isSetting 183 = .ok (.if_icmp .lt 23, 3) := by decide +kernel
theorem d_MD_isSetting_186 : decode b_MD_isSetting 186 = .ok (.iload_n 0, 1) := by decide +kernel
theorem d_MD_isSetting_187 : decode b_MD_isSetting 187 = .ok (.bipush 15, 2) := by decide +kernel
theorem d_MD_isSetting_189 : decode b_MD_isSetting 189 = .ok (.if_icmp .ge 17, 3) := by decide +kernel
theorem d_MD_isSetting_192 : decode b_MD_isSetting 192 = .ok (.iload_n 1, 1) := by decide +kernel
theorem d_MD_isSetting_193 : decode b_MD_isSetting 193 = .ok (.iconst (-1), 1) := by decide +kernel
theorem d_MD_isSetting_194 : decode b_MD_isSetting 194 = .ok (.if_icmp .lt 12, 3) := by decide +kernel
theorem d_MD_isSetting_197 : decode b_MD_isSetting 197 = .ok (.iload_n 1, 1) := by decide +kernel
theorem d_MD_isSetting_198 : decode b_MD_isSetting 198 = .ok (.iconst 1, 1) := by decide +kernel
theorem d_MD_isSetting_199 : decode b_MD_isSetting 199 = .ok (.if_icmp .gt 7, 3) := by decide +kernel
theorem d_MD_isSetting_202 : decode b_MD_isSetting 202 = .ok (.iconst 1, 1) := by decide +kernel
theorem d_MD_isSetting_203 : decode b_MD_isSetting 203 = .ok (.goto 4, 3) := by decide +kernel
theorem d_MD_isSetting_206 : decode b_MD_isSetting 206 = .ok (.iconst 0, 1) := by decide +kernel
theorem d_MD_isSetting_207 : decode b_MD_isSetting 207 = .ok (.ireturn, 1) := by decide +kernel
theorem d_MD_set_0 : decode b_MD_set 0 = .ok (.iload_n 1, 1) := by decide +kernel
theorem d_MD_set_1 : decode b_MD_set 1 = .ok (.iload_n 2, 1) := by decide +kernel
theorem d_MD_set_2 : decode b_MD_set 2 = .ok (.invokestatic 104, 3) := by decide +kernel
theorem d_MD_set_5 : decode b_MD_set 5 = .ok (.ifCond .ne 6, 3) := by decide +kernel
theorem d_MD_set_8 : decode b_MD_set 8 = .ok (.bipush (-2), 2) := by decide +kernel
theorem d_MD_set_10 : decode b_MD_set 10 = .ok (.ireturn, 1) := by decide +kernel
theorem d_MD_set_11 : decode b_MD_set 11 = .ok (.aload_n 0, 1) := by decide +kernel
theorem d_MD_set_12 : decode b_MD_set 12 = .ok (.getfield 23, 3) := by decide +kernel
theorem d_MD_set_15 : decode b_MD_set 15 = .ok (.iload_n 1, 1) := by decide +kernel
theorem d_MD_set_16 : decode b_MD_set 16 = .ok (.iaload, 1) := by decide +kernel
theorem d_MD_set_17 : decode b_MD_set 17 = .ok (.istore_n 3, 1) := by decide +kernel
theorem d_MD_set_18 : decode b_MD_set 18 = .ok (.aload_n 0, 1) := by decide +kernel
theorem d_MD_set_19 : decode b_MD_set 19 = .ok (.getfield 23, 3) := by decide +kernel
theorem d_MD_set_22 : decode b_MD_set 22 = .ok (.iload_n 1, 1) := by decide +kernel
theorem d_MD_set_23 : decode b_MD_set 23 = .ok (.iload_n 2, 1) := by decide +kernel
theorem d_MD_set_24 : decode b_MD_set 24 = .ok (.iastore, 1) := by decide +kernel
theorem d_MD_set_25 : decode b_MD_set 25 = .ok (.iload_n 3, 1) := by decide +kernel
theorem d_MD_set_26 : decode b_MD_set 26 = .ok (.ireturn, 1) := by decide +kernel
theorem d_MD_clear_0 : decode b_MD_clear 0 = .ok (.aload_n 0, 1) := by decide +kernel
theorem d_MD_clear_1 : decode b_MD_clear 1 = .ok (.getfield 95, 3) := by decide +kernel
theorem d_MD_clear_4 : decode b_MD_clear 4 = .ok (.istore_n 1, 1) := by decide +kernel
theorem d_MD_clear_5 : decode b_MD_clear 5 = .ok (.aload_n 0, 1) := by decide +kernel
theorem d_MD_clear_6 : decode b_MD_clear 6 = .ok (.iconst 0, 1) := by decide +kernel
theorem d_MD_clear_7 : decode b_MD_clear 7 = .ok (.putfield 95, 3) := by decide +kernel
theorem d_MD_clear_10 : decode b_MD_clear 10 = .ok (.iload_n 1, 1) := by decide +kernel
theorem d_MD_clear_11 : decode b_MD_clear 11 = .ok (.ireturn, 1) := by decide +kernel
theorem d_MD_drawn_0 : decode b_MD_drawn 0 = .ok (.aload_n 0, 1) := by decide +kernel
theorem d_MD_drawn_1 : decode b_MD_drawn 1 = .ok (.getfield 38, 3) := by decide +kernel
theorem d_MD_drawn_4 : decode b_MD_drawn 4 = .ok (.bipush 10, 2) := by decide +kernel
theorem d_MD_drawn_6 : decode b_MD_drawn 6 = .ok (.iaload, 1) := by decide +kernel
theorem d_MD_drawn_7 : decode b_MD_drawn 7 = .ok (.ldc 108, 2) := by decide +kernel
theorem d_MD_drawn_9 : decode b_MD_drawn 9 = .ok (.iload_n 1, 1) := by decide +kernel
theorem d_MD_drawn_10 : decode b_MD_drawn 10 = .ok (.imul, 1) := by decide +kernel
theorem d_MD_drawn_11 : decode b_MD_drawn 11 = .ok (.iadd, 1) := by decide +kernel
theorem d_MD_drawn_12 : decode b_MD_drawn 12 = .ok (.istore_n 2, 1) := by decide +kernel
theorem d_MD_drawn_13 : decode b_MD_drawn 13 = .ok (.iload_n 2, 1) := by decide +kernel
theorem d_MD_drawn_14 : decode b_MD_drawn 14 = .ok (.iload_n 2, 1) := by decide +kernel
theorem d_MD_drawn_15 : decode b_MD_drawn 15 = .ok (.bipush 15, 2) := by decide +kernel
theorem d_MD_drawn_17 : decode b_MD_drawn 17 = .ok (.iushr, 1) := by decide +kernel
theorem d_MD_drawn_18 : decode b_MD_drawn 18 = .ok (.ixor, 1) := by decide +kernel
theorem d_MD_drawn_19 : decode b_MD_drawn 19 = .ok (.ldc 109, 2) := by decide +kernel
theorem d_MD_drawn_21 : decode b_MD_drawn 21 = .ok (.imul, 1) := by decide +kernel
theorem d_MD_drawn_22 : decode b_MD_drawn 22 = .ok (.istore_n 2, 1) := by decide +kernel
theorem d_MD_drawn_23 : decode b_MD_drawn 23 = .ok (.iload_n 2, 1) := by decide +kernel
theorem d_MD_drawn_24 : decode b_MD_drawn 24 = .ok (.iload_n 2, 1) := by decide +kernel
theorem d_MD_drawn_25 : decode b_MD_drawn 25 = .ok (.bipush 12, 2) := by decide +kernel
theorem d_MD_drawn_27 : decode b_MD_drawn 27 = .ok (.iushr, 1) := by decide +kernel
theorem d_MD_drawn_28 : decode b_MD_drawn 28 = .ok (.ixor, 1) := by decide +kernel
theorem d_MD_drawn_29 : decode b_MD_drawn 29 = .ok (.ldc 110, 2) := by decide +kernel
theorem d_MD_drawn_31 : decode b_MD_drawn 31 = .ok (.imul, 1) := by decide +kernel
theorem d_MD_drawn_32 : decode b_MD_drawn 32 = .ok (.istore_n 2, 1) := by decide +kernel
theorem d_MD_drawn_33 : decode b_MD_drawn 33 = .ok (.iload_n 2, 1) := by decide +kernel
theorem d_MD_drawn_34 : decode b_MD_drawn 34 = .ok (.bipush 24, 2) := by decide +kernel
theorem d_MD_drawn_36 : decode b_MD_drawn 36 = .ok (.iushr, 1) := by decide +kernel
theorem d_MD_drawn_37 : decode b_MD_drawn 37 = .ok (.ireturn, 1) := by decide +kernel
theorem d_MD_train_0 : decode b_MD_train 0 = .ok (.iconst 0, 1) := by decide +kernel
theorem d_MD_train_1 : decode b_MD_train 1 = .ok (.istore_n 1, 1) := by decide +kernel
theorem d_MD_train_2 : decode b_MD_train 2 = .ok (.iconst 0, 1) := by decide +kernel
theorem d_MD_train_3 : decode b_MD_train 3 = .ok (.istore_n 2, 1) := by decide +kernel
theorem d_MD_train_4 : decode b_MD_train 4 = .ok (.iload_n 2, 1) := by decide +kernel
theorem d_MD_train_5 : decode b_MD_train 5 = .ok (.aload_n 0, 1) := by decide +kernel
theorem d_MD_train_6 : decode b_MD_train 6 = .ok (.getfield 95, 3) := by decide +kernel
theorem d_MD_train_9 : decode b_MD_train 9 = .ok (.if_icmp .ge 28, 3) := by decide +kernel
theorem d_MD_train_12 : decode b_MD_train 12 = .ok (.iload_n 1, 1) := by decide +kernel
theorem d_MD_train_13 : decode b_MD_train 13 = .ok (.ifCond .ne 12, 3) := by decide +kernel
theorem d_MD_train_16 : decode b_MD_train 16 = .ok (.aload_n 0, 1) := by decide +kernel
theorem d_MD_train_17 : decode b_MD_train 17 = .ok (.getfield 19, 3) := by decide +kernel
theorem d_MD_train_20 : decode b_MD_train 20 = .ok (.iload_n 2, 1) := by decide +kernel
theorem d_MD_train_21 : decode b_MD_train 21 = .ok (.baload, 1) := by decide +kernel
theorem d_MD_train_22 : decode b_MD_train 22 = .ok (.ifCond .ne 7, 3) := by decide +kernel
theorem d_MD_train_25 : decode b_MD_train 25 = .ok (.iconst 1, 1) := by decide +kernel
theorem d_MD_train_26 : decode b_MD_train 26 = .ok (.goto 4, 3) := by decide +kernel
theorem d_MD_train_29 : decode b_MD_train 29 = .ok (.iconst 0, 1) := by decide +kernel
theorem d_MD_train_30 : decode b_MD_train 30 = .ok (.istore_n 1, 1) := by decide +kernel
theorem d_MD_train_31 : decode b_MD_train 31 = .ok (.iinc 2 1, 3) := by decide +kernel
theorem d_MD_train_34 : decode b_MD_train 34 = .ok (.goto (-30), 3) := by decide +kernel
theorem d_MD_train_37 : decode b_MD_train 37 = .ok (.iload_n 1, 1) := by decide +kernel
theorem d_MD_train_38 : decode b_MD_train 38 = .ok (.ifCond .ne 6, 3) := by decide +kernel
theorem d_MD_train_41 : decode b_MD_train 41 = .ok (.bipush (-2), 2) := by decide +kernel
theorem d_MD_train_43 : decode b_MD_train 43 = .ok (.ireturn, 1) := by decide +kernel
theorem d_MD_train_44 : decode b_MD_train 44 = .ok (.aload_n 0, 1) := by decide +kernel
theorem d_MD_train_45 : decode b_MD_train 45 = .ok (.iconst 1, 1) := by decide +kernel
theorem d_MD_train_46 : decode b_MD_train 46 = .ok (.putfield 111, 3) := by decide +kernel
theorem d_MD_train_49 : decode b_MD_train 49 = .ok (.aload_n 0, 1) := by decide +kernel
theorem d_MD_train_50 : decode b_MD_train 50 = .ok (.aload_n 0, 1) := by decide +kernel
theorem d_MD_train_51 : decode b_MD_train 51 = .ok (.getfield 95, 3) := by decide +kernel
theorem d_MD_train_54 : decode b_MD_train 54 = .ok (.putfield 115, 3) := by decide +kernel
theorem d_MD_train_57 : decode b_MD_train 57 = .ok (.iconst 0, 1) := by decide +kernel
theorem d_MD_train_58 : decode b_MD_train 58 = .ok (.istore_n 2, 1) := by decide +kernel
theorem d_MD_train_59 : decode b_MD_train 59 = .ok (.iload_n 2, 1) := by decide +kernel
theorem d_MD_train_60 : decode b_MD_train 60 = .ok (.bipush 15, 2) := by decide +kernel
theorem d_MD_train_62 : decode b_MD_train 62 = .ok (.if_icmp .ge 21, 3) := by decide +kernel
theorem d_MD_train_65 : decode b_MD_train 65 = .ok (.aload_n 0, 1) := by decide +kernel
theorem d_MD_train_66 : decode b_MD_train 66 = .ok (.getfield 38, 3) := by decide +kernel
theorem d_MD_train_69 : decode b_MD_train 69 = .ok (.iload_n 2, 1) := by decide +kernel
theorem d_MD_train_70 : decode b_MD_train 70 = .ok (.aload_n 0, 1) := by decide +kernel
theorem d_MD_train_71 : decode b_MD_train 71 = .ok (.getfield 23, 3) := by decide +kernel
theorem d_MD_train_74 : decode b_MD_train 74 = .ok (.iload_n 2, 1) := by decide +kernel
theorem d_MD_train_75 : decode b_MD_train 75 = .ok (.iaload, 1) := by decide +kernel
theorem d_MD_train_76 : decode b_MD_train 76 = .ok (.iastore, 1) := by decide +kernel
theorem d_MD_train_77 : decode b_MD_train 77 = .ok (.iinc 2 1, 3) := by decide +kernel
theorem d_MD_train_80 : decode b_MD_train 80 = .ok (.goto (-21), 3) := by decide +kernel
theorem d_MD_train_83 : decode b_MD_train 83 = .ok (.iconst 0, 1) := by decide +kernel
theorem d_MD_train_84 : decode b_MD_train 84 = .ok (.istore_n 2, 1) := by decide +kernel
theorem d_MD_train_85 : decode b_MD_train 85 = .ok (.iconst 0, 1) := by decide +kernel
theorem d_MD_train_86 : decode b_MD_train 86 = .ok (.istore_n 3, 1) := by decide +kernel
theorem d_MD_train_87 : decode b_MD_train 87 = .ok (.iload_n 3, 1) := by decide +kernel
theorem d_MD_train_88 : decode b_MD_train 88 = .ok (.aload_n 0, 1) := by decide +kernel
theorem d_MD_train_89 : decode b_MD_train 89 = .ok (.getfield 95, 3) := by decide +kernel
theorem d_MD_train_92 : decode b_MD_train 92 = .ok (.if_icmp .ge 119, 3) := by decide +kernel
theorem d_MD_train_95 : decode b_MD_train 95 = .ok (.iconst 0, 1) := by decide +kernel
theorem d_MD_train_96 : decode b_MD_train 96 = .ok (.istore 4, 2) := by decide +kernel
theorem d_MD_train_98 : decode b_MD_train 98 = .ok (.iload 4, 2) := by decide +kernel
theorem d_MD_train_100 : decode b_MD_train 100 = .ok (.iconst 4, 1) := by decide +kernel
theorem d_MD_train_101 : decode b_MD_train 101 = .ok (.if_icmp .ge 31, 3) := by decide +kernel
theorem d_MD_train_104 : decode b_MD_train 104 = .ok (.aload_n 0, 1) := by decide +kernel
theorem d_MD_train_105 : decode b_MD_train 105 = .ok (.getfield 26, 3) := by decide +kernel
theorem d_MD_train_108 : decode b_MD_train 108 = .ok (.iconst 4, 1) := by decide +kernel
theorem d_MD_train_109 : decode b_MD_train 109 = .ok (.iload_n 3, 1) := by decide +kernel
theorem d_MD_train_110 : decode b_MD_train 110 = .ok (.imul, 1) := by decide +kernel
theorem d_MD_train_111 : decode b_MD_train 111 = .ok (.iload 4, 2) := by decide +kernel
theorem d_MD_train_113 : decode b_MD_train 113 = .ok (.iadd, 1) := by decide +kernel
theorem d_MD_train_114 : decode b_MD_train 114 = .ok (.aload_n 0, 1) := by decide +kernel
theorem d_MD_train_115 : decode b_MD_train 115 = .ok (.getfield 7, 3) := by decide +kernel
theorem d_MD_train_118 : decode b_MD_train 118 = .ok (.iconst 4, 1) := by decide +kernel
theorem d_MD_train_119 : decode b_MD_train 119 = .ok (.iload_n 3, 1) := by decide +kernel
theorem d_MD_train_120 : decode b_MD_train 120 = .ok (.imul, 1) := by decide +kernel
theorem d_MD_train_121 : decode b_MD_train 121 = .ok (.iload 4, 2) := by decide +kernel
theorem d_MD_train_123 : decode b_MD_train 123 = .ok (.iadd, 1) := by decide +kernel
theorem d_MD_train_124 : decode b_MD_train 124 = .ok (.iaload, 1) := by decide +kernel
theorem d_MD_train_125 : decode b_MD_train 125 = .ok (.iastore, 1) := by decide +kernel
theorem d_MD_train_126 : decode b_MD_train 126 = .ok (.iinc 4 1, 3) := by decide +kernel
theorem d_MD_train_129 : decode b_MD_train 129 = .ok (.goto (-31), 3) := by decide +kernel
theorem d_MD_train_132 : decode b_MD_train 132 = .ok (.aload_n 0, 1) := by decide +kernel
theorem d_MD_train_133 : decode b_MD_train 133 = .ok (.getfield 29, 3) := by decide +kernel
theorem d_MD_train_136 : decode b_MD_train 136 = .ok (.iload_n 3, 1) := by decide +kernel
theorem d_MD_train_137 : decode b_MD_train 137 = .ok (.aload_n 0, 1) := by decide +kernel
theorem d_MD_train_138 : decode b_MD_train 138 = .ok (.getfield 13, 3) := by decide +kernel
theorem d_MD_train_141 : decode b_MD_train 141 = .ok (.iload_n 3, 1) := by decide +kernel
theorem d_MD_train_142 : decode b_MD_train 142 = .ok (.iaload, 1) := by decide +kernel
theorem d_MD_train_143 : decode b_MD_train 143 = .ok (.iastore, 1) := by decide +kernel
theorem d_MD_train_144 : decode b_MD_train 144 = .ok (.aload_n 0, 1) := by decide +kernel
theorem d_MD_train_145 : decode b_MD_train 145 = .ok (.getfield 32, 3) := by decide +kernel
theorem d_MD_train_148 : decode b_MD_train 148 = .ok (.iload_n 3, 1) := by decide +kernel
theorem d_MD_train_149 : decode b_MD_train 149 = .ok (.aload_n 0, 1) := by decide +kernel
theorem d_MD_train_150 : decode b_MD_train 150 = .ok (.getfield 16, 3) := by decide +kernel
theorem d_MD_train_153 : decode b_MD_train 153 = .ok (.iload_n 3, 1) := by decide +kernel
theorem d_MD_train_154 : decode b_MD_train 154 = .ok (.iaload, 1) := by decide +kernel
theorem d_MD_train_155 : decode b_MD_train 155 = .ok (.iastore, 1) := by decide +kernel
theorem d_MD_train_156 : decode b_MD_train 156 = .ok (.aload_n 0, 1) := by decide +kernel
theorem d_MD_train_157 : decode b_MD_train 157 = .ok (.getfield 35, 3) := by decide +kernel
theorem d_MD_train_160 : decode b_MD_train 160 = .ok (.iload_n 3, 1) := by decide +kernel
theorem d_MD_train_161 : decode b_MD_train 161 = .ok (.aload_n 0, 1) := by decide +kernel
theorem d_MD_train_162 : decode b_MD_train 162 = .ok (.getfield 19, 3) := by decide +kernel
theorem d_MD_train_165 : decode b_MD_train 165 = .ok (.iload_n 3, 1) := by decide +kernel
theorem d_MD_train_166 : decode b_MD_train 166 = .ok (.baload, 1) := by decide +kernel
theorem d_MD_train_167 : decode b_MD_train 167 = .ok (.bastore, 1) := by decide +kernel
theorem d_MD_train_168 : decode b_MD_train 168 = .ok (.iload_n 2, 1) := by decide +kernel
theorem d_MD_train_169 : decode b_MD_train 169 = .ok (.ifCond .ne 12, 3) := by decide +kernel
theorem d_MD_train_172 : decode b_MD_train 172 = .ok (.aload_n 0, 1) := by decide +kernel
theorem d_MD_train_173 : decode b_MD_train 173 = .ok (.getfield 19, 3) := by decide +kernel
theorem d_MD_train_176 : decode b_MD_train 176 = .ok (.iload_n 3, 1) := by decide +kernel
theorem d_MD_train_177 : decode b_MD_train 177 = .ok (.baload, 1) := by decide +kernel
theorem d_MD_train_178 : decode b_MD_train 178 = .ok (.ifCond .eq 7, 3) := by decide +kernel
theorem d_MD_train_181 : decode b_MD_train 181 = .ok (.iconst 1, 1) := by decide +kernel
theorem d_MD_train_182 : decode b_MD_train 182 = .ok (.goto 4, 3) := by decide +kernel
theorem d_MD_train_185 : decode b_MD_train 185 = .ok (.iconst 0, 1) := by decide +kernel
theorem d_MD_train_186 : decode b_MD_train 186 = .ok (.istore_n 2, 1) := by decide +kernel
theorem d_MD_train_187 : decode b_MD_train 187 = .ok (.aload_n 0, 1) := by decide +kernel
theorem d_MD_train_188 : decode b_MD_train 188 = .ok (.getfield 41, 3) := by decide +kernel
theorem d_MD_train_191 : decode b_MD_train 191 = .ok (.iload_n 3, 1) := by decide +kernel
theorem d_MD_train_192 : decode b_MD_train 192 = .ok (.ldc2_w 118, 3) := by decide +kernel
theorem d_MD_train_195 : decode b_MD_train 195 = .ok (.aload_n 0, 1) := by decide +kernel
theorem d_MD_train_196 : decode b_MD_train 196 = .ok (.getfield 38, 3) := by decide +kernel
theorem d_MD_train_199 : decode b_MD_train 199 = .ok (.bipush 9, 2) := by decide +kernel
theorem d_MD_train_201 : decode b_MD_train 201 = .ok (.iaload, 1) := by decide +kernel
theorem d_MD_train_202 : decode b_MD_train 202 = .ok (.i2l, 1) := by decide +kernel
theorem d_MD_train_203 : decode b_MD_train 203 = .ok (.lmul, 1) := by decide +kernel
theorem d_MD_train_204 : decode b_MD_train 204 = .ok (.lastore, 1) := by decide +kernel
theorem d_MD_train_205 : decode b_MD_train 205 = .ok (.iinc 3 1, 3) := by decide +kernel
theorem d_MD_train_208 : decode b_MD_train 208 = .ok (.goto (-121), 3) := by decide +kernel
theorem d_MD_train_211 : decode b_MD_train 211 = .ok (.aload_n 0, 1) := by decide +kernel
theorem d_MD_train_212 : decode b_MD_train 212 = .ok (.iconst 0, 1) := by decide +kernel
theorem d_MD_train_213 : decode b_MD_train 213 = .ok (.putfield 120, 3) := by decide +kernel
theorem d_MD_train_216 : decode b_MD_train 216 = .ok (.aload_n 0, 1) := by decide +kernel
theorem d_MD_train_217 : decode b_MD_train 217 = .ok (.invokevirtual 123, 3) := by decide +kernel
theorem d_MD_train_220 : decode b_MD_train 220 = .ok (.aload_n 0, 1) := by decide +kernel
theorem d_MD_train_221 : decode b_MD_train 221 = .ok (.getfield 45, 3) := by decide +kernel
theorem d_MD_train_224 : decode b_MD_train 224 = .ok (.bipush 13, 2) := by decide +kernel
theorem d_MD_train_226 : decode b_MD_train 226 = .ok (.laload, 1) := by decide +kernel
theorem d_MD_train_227 : decode b_MD_train 227 = .ok (.lstore_n 3, 1) := by decide +kernel
theorem d_MD_train_228 : decode b_MD_train 228 = .ok (.iconst 0, 1) := by decide +kernel
theorem d_MD_train_229 : decode b_MD_train 229 = .ok (.istore 5, 2) := by decide +kernel
theorem d_MD_train_231 : decode b_MD_train 231 = .ok (.iconst 0, 1) := by decide +kernel
theorem d_MD_train_232 : decode b_MD_train 232 = .ok (.istore 6, 2) := by decide +kernel
theorem d_MD_train_234 : decode b_MD_train 234 = .ok (.aload_n 0, 1) := by decide +kernel
theorem d_MD_train_235 : decode b_MD_train 235 = .ok (.getfield 120, 3) := by decide +kernel
theorem d_MD_train_238 : decode b_MD_train 238 = .ok (.aload_n 0, 1) := by decide +kernel
theorem d_MD_train_239 : decode b_MD_train 239 = .ok (.getfield 38, 3) := by decide +kernel
theorem d_MD_train_242 : decode b_MD_train 242 = .ok (.iconst 4, 1) := by decide +kernel
theorem d_MD_train_243 : decode b_MD_train 243 = .ok (.iaload, 1) := by decide +kernel
theorem d_MD_train_244 : decode b_MD_train 244 = .ok (.if_icmp .ge 213, 3) := by decide +kernel
theorem d_MD_train_247 : decode b_MD_train 247 = .ok (.iload 6, 2) := by decide +kernel
theorem d_MD_train_249 : decode b_MD_train 249 = .ok (.ifCond .ne 208, 3) := by decide +kernel
theorem d_MD_train_252 : decode b_MD_train 252 = .ok (.aload_n 0, 1) := by decide +kernel
theorem d_MD_train_253 : decode b_MD_train 253 = .ok (.aload_n 0, 1) := by decide +kernel
theorem d_MD_train_254 : decode b_MD_train 254 = .ok (.getfield 120, 3) := by decide +kernel
theorem d_MD_train_257 : decode b_MD_train 257 = .ok (.invokevirtual 126, 3) := by decide +kernel
theorem d_MD_train_260 : decode b_MD_train 260 = .ok (.iconst 0, 1) := by decide +kernel
theorem d_MD_train_261 : decode b_MD_train 261 = .ok (.istore 7, 2) := by decide +kernel
theorem d_MD_train_263 : decode b_MD_train 263 = .ok (.iload 7, 2) := by decide +kernel
theorem d_MD_train_265 : decode b_MD_train 265 = .ok (.aload_n 0, 1) := by decide +kernel
theorem d_MD_train_266 : decode b_MD_train 266 = .ok (.getfield 115, 3) := by decide +kernel
theorem d_MD_train_269 : decode b_MD_train 269 = .ok (.if_icmp .ge 77, 3) := by decide +kernel
theorem d_MD_train_272 : decode b_MD_train 272 = .ok (.aload_n 0, 1) := by decide +kernel
theorem d_MD_train_273 : decode b_MD_train 273 = .ok (.getfield 41, 3) := by decide +kernel
theorem d_MD_train_276 : decode b_MD_train 276 = .ok (.iload 7, 2) := by decide +kernel
theorem d_MD_train_278 : decode b_MD_train 278 = .ok (.dup2, 1) := by decide +kernel
theorem d_MD_train_279 : decode b_MD_train 279 = .ok (.laload, 1) := by decide +kernel
theorem d_MD_train_280 : decode b_MD_train 280 = .ok (.aload_n 0, 1) := by decide +kernel
theorem d_MD_train_281 : decode b_MD_train 281 = .ok (.aload_n 0, 1) := by decide +kernel
theorem d_MD_train_282 : decode b_MD_train 282 = .ok (.getfield 120, 3) := by decide +kernel
theorem d_MD_train_285 : decode b_MD_train 285 = .ok (.aload_n 0, 1) := by decide +kernel
theorem d_MD_train_286 : decode b_MD_train 286 = .ok (.aload_n 0, 1) := by decide +kernel
theorem d_MD_train_287 : decode b_MD_train 287 = .ok (.getfield 120, 3) := by decide +kernel
theorem d_MD_train_290 : decode b_MD_train 290 = .ok (.aload_n 0, 1) := by decide +kernel
theorem d_MD_train_291 : decode b_MD_train 291 = .ok (.getfield 26, 3) := by decide +kernel
theorem d_MD_train_294 : decode b_MD_train 294 = .ok (.iconst 4, 1) := by decide +kernel
theorem d_MD_train_295 : decode b_MD_train 295 = .ok (.iload 7, 2) := by decide +kernel
theorem d_MD_train_297 : decode b_MD_train 297 = .ok (.imul, 1) := by decide +kernel
theorem d_MD_train_298 : decode b_MD_train 298 = .ok (.iaload, 1) := by decide +kernel
theorem d_MD_train_299 : decode b_MD_train 299 = .ok (.aload_n 0, 1) := by decide +kernel
theorem d_MD_train_300 : decode b_MD_train 300 = .ok (.getfield 26, 3) := by decide +kernel
theorem d_MD_train_303 : decode b_MD_train 303 = .ok (.iconst 4, 1) := by decide +kernel
theorem d_MD_train_304 : decode b_MD_train 304 = .ok (.iload 7, 2) := by decide +kernel
theorem d_MD_train_306 : decode b_MD_train 306 = .ok (.imul, 1) := by decide +kernel
theorem d_MD_train_307 : decode b_MD_train 307 = .ok (.iconst 1, 1) := by decide +kernel
theorem d_MD_train_308 : decode b_MD_train 308 = .ok (.iadd, 1) := by decide +kernel
theorem d_MD_train_309 : decode b_MD_train 309 = .ok (.iaload, 1) := by decide +kernel
theorem d_MD_train_310 : decode b_MD_train 310 = .ok (.aload_n 0, 1) := by decide +kernel
theorem d_MD_train_311 : decode b_MD_train 311 = .ok (.getfield 26, 3) := by decide +kernel
theorem d_MD_train_314 : decode b_MD_train 314 = .ok (.iconst 4, 1) := by decide +kernel
theorem d_MD_train_315 : decode b_MD_train 315 = .ok (.iload 7, 2) := by decide +kernel
theorem d_MD_train_317 : decode b_MD_train 317 = .ok (.imul, 1) := by decide +kernel
theorem d_MD_train_318 : decode b_MD_train 318 = .ok (.iconst 2, 1) := by decide +kernel
theorem d_MD_train_319 : decode b_MD_train 319 = .ok (.iadd, 1) := by decide +kernel
theorem d_MD_train_320 : decode b_MD_train 320 = .ok (.iaload, 1) := by decide +kernel
theorem d_MD_train_321 : decode b_MD_train 321 = .ok (.aload_n 0, 1) := by decide +kernel
theorem d_MD_train_322 : decode b_MD_train 322 = .ok (.getfield 26, 3) := by decide +kernel
theorem d_MD_train_325 : decode b_MD_train 325 = .ok (.iconst 4, 1) := by decide +kernel
theorem d_MD_train_326 : decode b_MD_train 326 = .ok (.iload 7, 2) := by decide +kernel
theorem d_MD_train_328 : decode b_MD_train 328 = .ok (.imul, 1) := by decide +kernel
theorem d_MD_train_329 : decode b_MD_train 329 = .ok (.iconst 3, 1) := by decide +kernel
theorem d_MD_train_330 : decode b_MD_train 330 = .ok (.iadd, 1) := by decide +kernel
theorem d_MD_train_331 : decode b_MD_train 331 = .ok (.iaload, 1) := by decide +kernel
theorem d_MD_train_332 : decode b_MD_train 332 = .ok (.invokevirtual 130, 3) := by decide +kernel
theorem d_MD_train_335 : decode b_MD_train 335 = .ok (.invokevirtual 133, 3) := by decide +kernel
theorem d_MD_train_338 : decode b_MD_train 338 = .ok (.ladd, 1) := by decide +kernel
theorem d_MD_train_339 : decode b_MD_train 339 = .ok (.lastore, 1) := by decide +kernel
theorem d_MD_train_340 : decode b_MD_train 340 = .ok (.iinc 7 1, 3) := by decide +kernel
theorem d_MD_train_343 : decode b_MD_train 343 = .ok (.goto (-80), 3) := by decide +kernel
theorem d_MD_train_346 : decode b_MD_train 346 = .ok (.aload_n 0, 1) := by decide +kernel
theorem d_MD_train_347 : decode b_MD_train 347 = .ok (.dup, 1) := by decide +kernel
theorem d_MD_train_348 : decode b_MD_train 348 = .ok (.getfield 120, 3) := by decide +kernel
theorem d_MD_train_351 : decode b_MD_train 351 = .ok (.iconst 1, 1) := by decide +kernel
theorem d_MD_train_352 : decode b_MD_train 352 = .ok (.iadd, 1) := by decide +kernel
theorem d_MD_train_353 : decode b_MD_train 353 = .ok (.putfield 120, 3) := by decide +kernel
theorem d_MD_train_356 : decode b_MD_train 356 = .ok (.aload_n 0, 1) := by decide +kernel
theorem d_MD_train_357 : decode b_MD_train 357 = .ok (.invokevirtual 123, 3) := by decide +kernel
theorem d_MD_train_360 : decode b_MD_train 360 = .ok (.aload_n 0, 1) := by decide +kernel
theorem d_MD_train_361 : decode b_MD_train 361 = .ok (.getfield 45, 3) := by decide +kernel
theorem d_MD_train_364 : decode b_MD_train 364 = .ok (.bipush 13, 2) := by decide +kernel
theorem d_MD_train_366 : decode b_MD_train 366 = .ok (.aload_n 0, 1) := by decide +kernel
theorem d_MD_train_367 : decode b_MD_train 367 = .ok (.getfield 120, 3) := by decide +kernel
theorem d_MD_train_370 : decode b_MD_train 370 = .ok (.iadd, 1) := by decide +kernel
theorem d_MD_train_371 : decode b_MD_train 371 = .ok (.laload, 1) := by decide +kernel
theorem d_MD_train_372 : decode b_MD_train 372 = .ok (.lload_n 3, 1) := by decide +kernel
theorem d_MD_train_373 : decode b_MD_train 373 = .ok (.lcmp, 1) := by decide +kernel
theorem d_MD_train_374 : decode b_MD_train 374 = .ok (.ifCond .ge 7, 3) := by decide +kernel
theorem d_MD_train_377 : decode b_MD_train 377 = .ok (.iconst 1, 1) := by decide +kernel
theorem d_MD_train_378 : decode b_MD_train 378 = .ok (.goto 4, 3) := by decide +kernel
theorem d_MD_train_381 : decode b_MD_train 381 = .ok (.iconst 0, 1) := by decide +kernel
theorem d_MD_train_382 : decode b_MD_train 382 = .ok (.istore 7, 2) := by decide +kernel
theorem d_MD_train_384 : decode b_MD_train 384 = .ok (.iload 7, 2) := by decide +kernel
theorem d_MD_train_386 : decode b_MD_train 386 = .ok (.ifCond .eq 18, 3) := by decide +kernel
theorem d_MD_train_389 : decode b_MD_train 389 = .ok (.aload_n 0, 1) := by decide +kernel
theorem d_MD_train_390 : decode b_MD_train 390 = .ok (.getfield 45, 3) := by decide +kernel
theorem d_MD_train_393 : decode b_MD_train 393 = .ok (.bipush 13, 2) := by decide +kernel
theorem d_MD_train_395 : decode b_MD_train 395 = .ok (.aload_n 0, 1) := by decide +kernel
theorem d_MD_train_396 : decode b_MD_train 396 = .ok (.getfield 120, 3) := by decide +kernel
theorem d_MD_train_399 : decode b_MD_train 399 = .ok (.iadd, 1) := by decide +kernel
theorem d_MD_train_400 : decode b_MD_train 400 = .ok (.laload, 1) := by decide +kernel
theorem d_MD_train_401 : decode b_MD_train 401 = .ok (.goto 4, 3) := by decide +kernel
theorem d_MD_train_404 : decode b_MD_train 404 = .ok (.lload_n 3, 1) := by decide +kernel
theorem d_MD_train_405 : decode b_MD_train 405 = .ok (.lstore_n 3, 1) := by decide +kernel
theorem d_MD_train_406 : decode b_MD_train 406 = .ok (.iload 7, 2) := by decide +kernel
theorem d_MD_train_408 : decode b_MD_train 408 = .ok (.ifCond .eq 7, 3) := by decide +kernel
theorem d_MD_train_411 : decode b_MD_train 411 = .ok (.iconst 0, 1) := by decide +kernel
theorem d_MD_train_412 : decode b_MD_train 412 = .ok (.goto 7, 3) := by decide +kernel
theorem d_MD_train_415 : decode b_MD_train 415 = .ok (.iload 5, 2) := by decide +kernel
theorem d_MD_train_417 : decode b_MD_train 417 = .ok (.iconst 1, 1) := by decide +kernel
theorem d_MD_train_418 : decode b_MD_train 418 = .ok (.iadd, 1) := by decide +kernel
theorem d_MD_train_419 : decode b_MD_train 419 = .ok (.istore 5, 2) := by decide +kernel
theorem d_MD_train_421 : decode b_MD_train 421 = .ok (.aload_n 0, 1) := by decide +kernel
theorem d_MD_train_422 : decode b_MD_train 422 = .ok (.getfield 38, 3) := by decide +kernel
theorem d_MD_train_425 : decode b_MD_train 425 = .ok (.bipush 8, 2) := by decide +kernel
theorem d_MD_train_427 : decode b_MD_train 427 = .ok (.iaload, 1) := by decide +kernel
theorem d_MD_train_428 : decode b_MD_train 428 = .ok (.ifCond .le 23, 3) := by decide +kernel
theorem d_MD_train_431 : decode b_MD_train 431 = .ok (.iload_n 2, 1) := by decide +kernel
theorem d_MD_train_432 : decode b_MD_train 432 = .ok (.ifCond .eq 19, 3) := by decide +kernel
theorem d_MD_train_435 : decode b_MD_train 435 = .ok (.iload 5, 2) := by decide +kernel
theorem d_MD_train_437 : decode b_MD_train 437 = .ok (.aload_n 0, 1) := by decide +kernel
theorem d_MD_train_438 : decode b_MD_train 438 = .ok (.getfield 38, 3) := by decide +kernel
theorem d_MD_train_441 : decode b_MD_train 441 = .ok (.bipush 8, 2) := by decide +kernel
theorem d_MD_train_443 : decode b_MD_train 443 = .ok (.iaload, 1) := by decide +kernel
theorem d_MD_train_444 : decode b_MD_train 444 = .ok (.if_icmp .lt 7, 3) := by decide +kernel
theorem d_MD_train_447 : decode b_MD_train 447 = .ok (.iconst 1, 1) := by decide +kernel
theorem d_MD_train_448 : decode b_MD_train 448 = .ok (.goto 4, 3) := by decide +kernel
theorem d_MD_train_451 : decode b_MD_train 451 = .ok (.iconst 0, 1) := by decide +kernel
theorem d_MD_train_452 : decode b_MD_train 452 = .ok (.istore 6, 2) := by decide +kernel
theorem d_MD_train_454 : decode b_MD_train 454 = .ok (.goto (-220), 3) := by decide +kernel
theorem d_MD_train_457 : decode b_MD_train 457 = .ok (.aload_n 0, 1) := by decide +kernel
theorem d_MD_train_458 : decode b_MD_train 458 = .ok (.getfield 120, 3) := by decide +kernel
theorem d_MD_train_461 : decode b_MD_train 461 = .ok (.ireturn, 1) := by decide +kernel
theorem d_MD_keepLosses_0 : decode b_MD_keepLosses 0 = .ok (.aload_n 0, 1) := by decide +kernel
theorem d_MD_keepLosses_1 : decode b_MD_keepLosses 1 = .ok (.getfield 45, 3) := by decide +kernel
theorem d_MD_keepLosses_4 : decode b_MD_keepLosses 4 = .ok (.aload_n 0, 1) := by decide +kernel
theorem d_MD_keepLosses_5 : decode b_MD_keepLosses 5 = .ok (.getfield 120, 3) := by decide +kernel
theorem d_MD_keepLosses_8 : decode b_MD_keepLosses 8 = .ok (.lconst 0, 1) := by decide +kernel
theorem d_MD_keepLosses_9 : decode b_MD_keepLosses 9 = .ok (.lastore, 1) := by decide +kernel
theorem d_MD_keepLosses_10 : decode b_MD_keepLosses 10 = .ok (.aload_n 0, 1) := by decide +kernel
theorem d_MD_keepLosses_11 : decode b_MD_keepLosses 11 = .ok (.getfield 45, 3) := by decide +kernel
theorem d_MD_keepLosses_14 : decode b_MD_keepLosses 14 = .ok (.bipush 13, 2) := by decide +kernel
theorem d_MD_keepLosses_16 : decode b_MD_keepLosses 16 = .ok (.aload_n 0, 1) := by decide +kernel
theorem d_MD_keepLosses_17 : decode b_MD_keepLosses 17 = .ok (.getfield 120, 3) := by decide +kernel
theorem d_MD_keepLosses_20 : decode b_MD_keepLosses 20 = .ok (.iadd, 1) := by decide +kernel
theorem d_MD_keepLosses_21 : decode b_MD_keepLosses 21 = .ok (.lconst 0, 1) := by decide +kernel
theorem d_MD_keepLosses_22 : decode b_MD_keepLosses 22 = .ok (.lastore, 1) := by decide +kernel
theorem d_MD_keepLosses_23 : decode b_MD_keepLosses 23 = .ok (.iconst 0, 1) := by decide +kernel
theorem d_MD_keepLosses_24 : decode b_MD_keepLosses 24 = .ok (.istore_n 1, 1) := by decide +kernel
theorem d_MD_keepLosses_25 : decode b_MD_keepLosses 25 = .ok (.iload_n 1, 1) := by decide +kernel
theorem d_MD_keepLosses_26 : decode b_MD_keepLosses 26 = .ok (.aload_n 0, 1) := by decide +kernel
theorem d_MD_keepLosses_27 : decode b_MD_keepLosses 27 = .ok (.getfield 115, 3) := by decide +kernel
theorem d_MD_keepLosses_30 : decode b_MD_keepLosses 30 = .ok (.if_icmp .ge 74, 3) := by decide +kernel
theorem d_MD_keepLosses_33 : decode b_MD_keepLosses 33 = .ok (.aload_n 0, 1) := by decide +kernel
theorem d_MD_keepLosses_34 : decode b_MD_keepLosses 34 = .ok (.getfield 41, 3) := by decide +kernel
theorem d_MD_keepLosses_37 : decode b_MD_keepLosses 37 = .ok (.iload_n 1, 1) := by decide +kernel
theorem d_MD_keepLosses_38 : decode b_MD_keepLosses 38 = .ok (.laload, 1) := by decide +kernel
theorem d_MD_keepLosses_39 : decode b_MD_keepLosses 39 = .ok (.ldc2_w 118, 3) := by decide +kernel
theorem d_MD_keepLosses_42 : decode b_MD_keepLosses 42 = .ok (.aload_n 0, 1) := by decide +kernel
theorem d_MD_keepLosses_43 : decode b_MD_keepLosses 43 = .ok (.getfield 29, 3) := by decide +kernel
theorem d_MD_keepLosses_46 : decode b_MD_keepLosses 46 = .ok (.iload_n 1, 1) := by decide +kernel
theorem d_MD_keepLosses_47 : decode b_MD_keepLosses 47 = .ok (.iaload, 1) := by decide +kernel
theorem d_MD_keepLosses_48 : decode b_MD_keepLosses 48 = .ok (.i2l, 1) := by decide +kernel
theorem d_MD_keepLosses_49 : decode b_MD_keepLosses 49 = .ok (.lmul, 1) := by decide +kernel
theorem d_MD_keepLosses_50 : decode b_MD_keepLosses 50 = .ok (.lsub, 1) := by decide +kernel
theorem d_MD_keepLosses_51 : decode b_MD_keepLosses 51 = .ok (.lstore_n 2, 1) := by decide +kernel
theorem d_MD_keepLosses_52 : decode b_MD_keepLosses 52 = .ok (.aload_n 0, 1) := by decide +kernel
theorem d_MD_keepLosses_53 : decode b_MD_keepLosses 53 = .ok (.getfield 35, 3) := by decide +kernel
theorem d_MD_keepLosses_56 : decode b_MD_keepLosses 56 = .ok (.iload_n 1, 1) := by decide +kernel
theorem d_MD_keepLosses_57 : decode b_MD_keepLosses 57 = .ok (.baload, 1) := by decide +kernel
theorem d_MD_keepLosses_58 : decode b_MD_keepLosses 58 = .ok (.ifCond .eq 13, 3) := by decide +kernel
theorem d_MD_keepLosses_61 : decode b_MD_keepLosses 61 = .ok (.bipush 13, 2) := by decide +kernel
theorem d_MD_keepLosses_63 : decode b_MD_keepLosses 63 = .ok (.aload_n 0, 1) := by decide +kernel
theorem d_MD_keepLosses_64 : decode b_MD_keepLosses 64 = .ok (.getfield 120, 3) := by decide +kernel
theorem d_MD_keepLosses_67 : decode b_MD_keepLosses 67 = .ok (.iadd, 1) := by decide +kernel
theorem d_MD_keepLosses_68 : decode b_MD_keepLosses 68 = .ok (.goto 7, 3) := by decide +kernel
theorem d_MD_keepLosses_71 : decode b_MD_keepLosses 71 = .ok (.aload_n 0, 1) := by decide +kernel
theorem d_MD_keepLosses_72 : decode b_MD_keepLosses 72 = .ok (.getfield 120, 3) := by decide +kernel
theorem d_MD_keepLosses_75 : decode b_MD_keepLosses 75 = .ok (.istore 4, 2) := by decide +kernel
theorem d_MD_keepLosses_77 : decode b_MD_keepLosses 77 = .ok (.aload_n 0, 1) := by decide +kernel
theorem d_MD_keepLosses_78 : decode b_MD_keepLosses 78 = .ok (.getfield 45, 3) := by decide +kernel
theorem d_MD_keepLosses_81 : decode b_MD_keepLosses 81 = .ok (.iload 4, 2) := by decide +kernel
theorem d_MD_keepLosses_83 : decode b_MD_keepLosses 83 = .ok (.dup2, 1) := by decide +kernel
theorem d_MD_keepLosses_84 : decode b_MD_keepLosses 84 = .ok (.laload, 1) := by decide +kernel
theorem d_MD_keepLosses_85 : decode b_MD_keepLosses 85 = .ok (.aload_n 0, 1) := by decide +kernel
theorem d_MD_keepLosses_86 : decode b_MD_keepLosses 86 = .ok (.getfield 32, 3) := by decide +kernel
theorem d_MD_keepLosses_89 : decode b_MD_keepLosses 89 = .ok (.iload_n 1, 1) := by decide +kernel
theorem d_MD_keepLosses_90 : decode b_MD_keepLosses 90 = .ok (.iaload, 1) := by decide +kernel
theorem d_MD_keepLosses_91 : decode b_MD_keepLosses 91 = .ok (.i2l, 1) := by decide +kernel
theorem d_MD_keepLosses_92 : decode b_MD_keepLosses 92 = .ok (.lload_n 2, 1) := by decide +kernel
theorem d_MD_keepLosses_93 : decode b_MD_keepLosses 93 = .ok (.lmul, 1) := by decide +kernel
theorem d_MD_keepLosses_94 : decode b_MD_keepLosses 94 = .ok (.lload_n 2, 1) := by decide +kernel
theorem d_MD_keepLosses_95 : decode b_MD_keepLosses 95 = .ok (.lmul, 1) := by decide +kernel
theorem d_MD_keepLosses_96 : decode b_MD_keepLosses 96 = .ok (.ladd, 1) := by decide +kernel
theorem d_MD_keepLosses_97 : decode b_MD_keepLosses 97 = .ok (.lastore, 1) := by decide +kernel
theorem d_MD_keepLosses_98 : decode b_MD_keepLosses 98 = .ok (.iinc 1 1, 3) := by decide +kernel
theorem d_MD_keepLosses_101 : decode b_MD_keepLosses 101 = .ok (.goto (-76), 3) := by decide +kernel
theorem d_MD_keepLosses_104 : decode b_MD_keepLosses 104 = .ok (.return_, 1) := by decide +kernel
theorem d_MD_valueOf_0 : decode b_MD_valueOf 0 = .ok (.iload_n 3, 1) := by decide +kernel
theorem d_MD_valueOf_1 : decode b_MD_valueOf 1 = .ok (.ifCond .ne 7, 3) := by decide +kernel
theorem d_MD_valueOf_4 : decode b_MD_valueOf 4 = .ok (.lconst 0, 1) := by decide +kernel
theorem d_MD_valueOf_5 : decode b_MD_valueOf 5 = .ok (.goto 15, 3) := by decide +kernel
theorem d_MD_valueOf_8 : decode b_MD_valueOf 8 = .ok (.lload_n 1, 1) := by decide +kernel
theorem d_MD_valueOf_9 : decode b_MD_valueOf 9 = .ok (.lneg, 1) := by decide +kernel
theorem d_MD_valueOf_10 : decode b_MD_valueOf 10 = .ok (.iload_n 3, 1) := by decide +kernel
theorem d_MD_valueOf_11 : decode b_MD_valueOf 11 = .ok (.aload_n 0, 1) := by decide +kernel
theorem d_MD_valueOf_12 : decode b_MD_valueOf 12 = .ok (.getfield 38, 3) := by decide +kernel
theorem d_MD_valueOf_15 : decode b_MD_valueOf 15 = .ok (.iconst 2, 1) := by decide +kernel
theorem d_MD_valueOf_16 : decode b_MD_valueOf 16 = .ok (.iaload, 1) := by decide +kernel
theorem d_MD_valueOf_17 : decode b_MD_valueOf 17 = .ok (.iadd, 1) := by decide +kernel
theorem d_MD_valueOf_18 : decode b_MD_valueOf 18 = .ok (.i2l, 1) := by decide +kernel
theorem d_MD_valueOf_19 : decode b_MD_valueOf 19 = .ok (.ldiv, 1) := by decide +kernel
theorem d_MD_valueOf_20 : decode b_MD_valueOf 20 = .ok (.lreturn, 1) := by decide +kernel
theorem d_MD_worthOf_0 : decode b_MD_worthOf 0 = .ok (.iload_n 3, 1) := by decide +kernel
theorem d_MD_worthOf_1 : decode b_MD_worthOf 1 = .ok (.ifCond .ne 7, 3) := by decide +kernel
theorem d_MD_worthOf_4 : decode b_MD_worthOf 4 = .ok (.lconst 0, 1) := by decide +kernel
theorem d_MD_worthOf_5 : decode b_MD_worthOf 5 = .ok (.goto 16, 3) := by decide +kernel
theorem d_MD_worthOf_8 : decode b_MD_worthOf 8 = .ok (.lload_n 1, 1) := by decide +kernel
theorem d_MD_worthOf_9 : decode b_MD_worthOf 9 = .ok (.lload_n 1, 1) := by decide +kernel
theorem d_MD_worthOf_10 : decode b_MD_worthOf 10 = .ok (.lmul, 1) := by decide +kernel
theorem d_MD_worthOf_11 : decode b_MD_worthOf 11 = .ok (.iload_n 3, 1) := by decide +kernel
theorem d_MD_worthOf_12 : decode b_MD_worthOf 12 = .ok (.aload_n 0, 1) := by decide +kernel
theorem d_MD_worthOf_13 : decode b_MD_worthOf 13 = .ok (.getfield 38, 3) := by decide +kernel
theorem d_MD_worthOf_16 : decode b_MD_worthOf 16 = .ok (.iconst 2, 1) := by decide +kernel
theorem d_MD_worthOf_17 : decode b_MD_worthOf 17 = .ok (.iaload, 1) := by decide +kernel
theorem d_MD_worthOf_18 : decode b_MD_worthOf 18 = .ok (.iadd, 1) := by decide +kernel
theorem d_MD_worthOf_19 : decode b_MD_worthOf 19 = .ok (.i2l, 1) := by decide +kernel
theorem d_MD_worthOf_20 : decode b_MD_worthOf 20 = .ok (.ldiv, 1) := by decide +kernel
theorem d_MD_worthOf_21 : decode b_MD_worthOf 21 = .ok (.lreturn, 1) := by decide +kernel
theorem d_MD_goesLeft_0 : decode b_MD_goesLeft 0 = .ok (.iload_n 0, 1) := by decide +kernel
theorem d_MD_goesLeft_1 : decode b_MD_goesLeft 1 = .ok (.ifCond .ge 15, 3) := by decide +kernel
theorem d_MD_goesLeft_4 : decode b_MD_goesLeft 4 = .ok (.iload_n 2, 1) := by decide +kernel
theorem d_MD_goesLeft_5 : decode b_MD_goesLeft 5 = .ok (.ifCond .ne 7, 3) := by decide +kernel
theorem d_MD_goesLeft_8 : decode b_MD_goesLeft 8 = .ok (.iconst 1, 1) := by decide +kernel
theorem d_MD_goesLeft_9 : decode b_MD_goesLeft 9 = .ok (.goto 17, 3) := by decide +kernel
theorem d_MD_goesLeft_12 : decode b_MD_goesLeft 12 = .ok (.iconst 0, 1) := by decide +kernel
theorem d_MD_goesLeft_13 : decode b_MD_goesLeft 13 = .ok (.goto 13, 3) := by decide +kernel
theorem d_MD_goesLeft_16 : decode b_MD_goesLeft 16 = .ok (.iload_n 0, 1) := by decide +kernel
theorem d_MD_goesLeft_17 : decode b_MD_goesLeft 17 = .ok (.iload_n 1, 1) := by decide +kernel
theorem d_MD_goesLeft_18 : decode b_MD_goesLeft 18 = .ok (.if_icmp .gt 7, 3) := by decide +kernel
theorem d_MD_goesLeft_21 : decode b_MD_goesLeft 21 = .ok (.iconst 1, 1) := by decide +kernel
theorem d_MD_goesLeft_22 : decode b_MD_goesLeft 22 = .ok (.goto 4, 3) := by decide +kernel
theorem d_MD_goesLeft_25 : decode b_MD_goesLeft 25 = .ok (.iconst 0, 1) := by decide +kernel
theorem d_MD_goesLeft_26 : decode b_MD_goesLeft 26 = .ok (.ireturn, 1) := by decide +kernel
theorem d_MD_sumUp_0 : decode b_MD_sumUp 0 = .ok (.aload_n 0, 1) := by decide +kernel
theorem d_MD_sumUp_1 : decode b_MD_sumUp 1 = .ok (.lconst 0, 1) := by decide +kernel
theorem d_MD_sumUp_2 : decode b_MD_sumUp 2 = .ok (.putfield 137, 3) := by decide +kernel
theorem d_MD_sumUp_5 : decode b_MD_sumUp 5 = .ok (.aload_n 0, 1) := by decide +kernel
theorem d_MD_sumUp_6 : decode b_MD_sumUp 6 = .ok (.iconst 0, 1) := by decide +kernel
theorem d_MD_sumUp_7 : decode b_MD_sumUp 7 = .ok (.putfield 141, 3) := by decide +kernel
theorem d_MD_sumUp_10 : decode b_MD_sumUp 10 = .ok (.aload_n 0, 1) := by decide +kernel
theorem d_MD_sumUp_11 : decode b_MD_sumUp 11 = .ok (.iconst 0, 1) := by decide +kernel
theorem d_MD_sumUp_12 : decode b_MD_sumUp 12 = .ok (.putfield 144, 3) := by decide +kernel
theorem d_MD_sumUp_15 : decode b_MD_sumUp 15 = .ok (.iconst 0, 1) := by decide +kernel
theorem d_MD_sumUp_16 : decode b_MD_sumUp 16 = .ok (.istore 6, 2) := by decide +kernel
theorem d_MD_sumUp_18 : decode b_MD_sumUp 18 = .ok (.iload 6, 2) := by decide +kernel
theorem d_MD_sumUp_20 : decode b_MD_sumUp 20 = .ok (.aload_n 0, 1) := by decide +kernel
theorem d_MD_sumUp_21 : decode b_MD_sumUp 21 = .ok (.getfield 115, 3) := by decide +kernel
theorem d_MD_sumUp_24 : decode b_MD_sumUp 24 = .ok (.if_icmp .ge 110, 3) := by decide +kernel
theorem d_MD_sumUp_27 : decode b_MD_sumUp 27 = .ok (.aload_n 0, 1) := by decide +kernel
theorem d_MD_sumUp_28 : decode b_MD_sumUp 28 = .ok (.getfield 81, 3) := by decide +kernel
theorem d_MD_sumUp_31 : decode b_MD_sumUp 31 = .ok (.iload 6, 2) := by decide +kernel
theorem d_MD_sumUp_33 : decode b_MD_sumUp 33 = .ok (.iaload, 1) := by decide +kernel
theorem d_MD_sumUp_34 : decode b_MD_sumUp 34 = .ok (.iload_n 1, 1) := by decide +kernel
theorem d_MD_sumUp_35 : decode b_MD_sumUp 35 = .ok (.if_icmp .ne 93, 3) := by decide +kernel
theorem d_MD_sumUp_38 : decode b_MD_sumUp 38 = .ok (.iload_n 2, 1) := by decide +kernel
theorem d_MD_sumUp_39 : decode b_MD_sumUp 39 = .ok (.ifCond .lt 25, 3) := by decide +kernel
theorem d_MD_sumUp_42 : decode b_MD_sumUp 42 = .ok (.aload_n 0, 1) := by decide +kernel
theorem d_MD_sumUp_43 : decode b_MD_sumUp 43 = .ok (.getfield 26, 3) := by decide +kernel
theorem d_MD_sumUp_46 : decode b_MD_sumUp 46 = .ok (.iconst 4, 1) := by decide +kernel
theorem d_MD_sumUp_47 : decode b_MD_sumUp 47 = .ok (.iload 6, 2) := by decide +kernel
theorem d_MD_sumUp_49 : decode b_MD_sumUp 49 = .ok (.imul, 1) := by decide +kernel
theorem d_MD_sumUp_50 : decode b_MD_sumUp 50 = .ok (.iload_n 2, 1) := by decide +kernel
theorem d_MD_sumUp_51 : decode b_MD_sumUp 51 = .ok (.iadd, 1) := by decide +kernel
theorem d_MD_sumUp_52 : decode b_MD_sumUp 52 = .ok (.iaload, 1) := by decide +kernel
theorem d_MD_sumUp_53 : decode b_MD_sumUp 53 = .ok (.iload_n 3, 1) := by decide +kernel
theorem d_MD_sumUp_54 : decode b_MD_sumUp 54 = .ok (.iload 4, 2) := by decide +kernel
theorem d_MD_sumUp_56 : decode b_MD_sumUp 56 = .ok (.invokestatic 147, 3) := by decide +kernel
theorem d_MD_sumUp_59 : decode b_MD_sumUp 59 = .ok (.iload 5, 2) := by decide +kernel
theorem d_MD_sumUp_61 : decode b_MD_sumUp 61 = .ok (.if_icmp .ne 67, 3) := by decide +kernel
theorem d_MD_sumUp_64 : decode b_MD_sumUp 64 = .ok (.aload_n 0, 1) := by decide +kernel
theorem d_MD_sumUp_65 : decode b_MD_sumUp 65 = .ok (.dup, 1) := by decide +kernel
theorem d_MD_sumUp_66 : decode b_MD_sumUp 66 = .ok (.getfield 137, 3) := by decide +kernel
theorem d_MD_sumUp_69 : decode b_MD_sumUp 69 = .ok (.aload_n 0, 1) := by decide +kernel
theorem d_MD_sumUp_70 : decode b_MD_sumUp 70 = .ok (.getfield 32, 3) := by decide +kernel
theorem d_MD_sumUp_73 : decode b_MD_sumUp 73 = .ok (.iload 6, 2) := by decide +kernel
theorem d_MD_sumUp_75 : decode b_MD_sumUp 75 = .ok (.iaload, 1) := by decide +kernel
theorem d_MD_sumUp_76 : decode b_MD_sumUp 76 = .ok (.i2l, 1) := by decide +kernel
theorem d_MD_sumUp_77 : decode b_MD_sumUp 77 = .ok (.aload_n 0, 1) := by decide +kernel
theorem d_MD_sumUp_78 : decode b_MD_sumUp 78 = .ok (.getfield 41, 3) := by decide +kernel
theorem d_MD_sumUp_81 : decode b_MD_sumUp 81 = .ok (.iload 6, 2) := by decide +kernel
theorem d_MD_sumUp_83 : decode b_MD_sumUp 83 = .ok (.laload, 1) := by decide +kernel
theorem d_MD_sumUp_84 : decode b_MD_sumUp 84 = .ok (.ldc2_w 118, 3) := by decide +kernel
theorem d_MD_sumUp_87 : decode b_MD_sumUp 87 = .ok (.aload_n 0, 1) := by decide +kernel
theorem d_MD_sumUp_88 : decode b_MD_sumUp 88 = .ok (.getfield 29, 3) := by decide +kernel
theorem d_MD_sumUp_91 : decode b_MD_sumUp 91 = .ok (.iload 6, 2) := by decide +kernel
theorem d_MD_sumUp_93 : decode b_MD_sumUp 93 = .ok (.iaload, 1) := by decide +kernel
theorem d_MD_sumUp_94 : decode b_MD_sumUp 94 = .ok (.i2l, 1) := by decide +kernel
theorem d_MD_sumUp_95 : decode b_MD_sumUp 95 = .ok (.lmul, 1) := by decide +kernel
theorem d_MD_sumUp_96 : decode b_MD_sumUp 96 = .ok (.lsub, 1) := by decide +kernel
theorem d_MD_sumUp_97 : decode b_MD_sumUp 97 = .ok (.lmul, 1) := by decide +kernel
theorem d_MD_sumUp_98 : decode b_MD_sumUp 98 = .ok (.ladd, 1) := by decide +kernel
theorem d_MD_sumUp_99 : decode b_MD_sumUp 99 = .ok (.putfield 137, 3) := by decide +kernel
theorem d_MD_sumUp_102 : decode b_MD_sumUp 102 = .ok (.aload_n 0, 1) := by decide +kernel
theorem d_MD_sumUp_103 : decode b_MD_sumUp 103 = .ok (.dup, 1) := by decide +kernel
theorem d_MD_sumUp_104 : decode b_MD_sumUp 104 = .ok (.getfield 141, 3) := by decide +kernel
theorem d_MD_sumUp_107 : decode b_MD_sumUp 107 = .ok (.aload_n 0, 1) := by decide +kernel
theorem d_MD_sumUp_108 : decode b_MD_sumUp 108 = .ok (.getfield 32, 3) := by decide +kernel
theorem d_MD_sumUp_111 : decode b_MD_sumUp 111 = .ok (.iload 6, 2) := by decide +kernel
theorem d_MD_sumUp_113 : decode b_MD_sumUp 113 = .ok (.iaload, 1) := by decide +kernel
theorem d_MD_sumUp_114 : decode b_MD_sumUp 114 = .ok (.iadd, 1) := by decide +kernel
theorem d_MD_sumUp_115 : decode b_MD_sumUp 115 = .ok (.putfield 141, 3) := by decide +kernel
theorem d_MD_sumUp_118 : decode b_MD_sumUp 118 = .ok (.aload_n 0, 1) := by decide +kernel
theorem d_MD_sumUp_119 : decode b_MD_sumUp 119 = .ok (.dup, 1) := by decide +kernel
theorem d_MD_sumUp_120 : decode b_MD_sumUp 120 = .ok (.getfield 144, 3) := by decide +kernel
theorem d_MD_sumUp_123 : decode b_MD_sumUp 123 = .ok (.iconst 1, 1) := by decide +kernel
theorem d_MD_sumUp_124 : decode b_MD_sumUp 124 = .ok (.iadd, 1) := by decide +kernel
theorem d_MD_sumUp_125 : decode b_MD_sumUp 125 = .ok (.putfield 144, 3) := by decide +kernel
theorem d_MD_sumUp_128 : decode b_MD_sumUp 128 = .ok (.iinc 6 1, 3) := by decide +kernel
theorem d_MD_sumUp_131 : decode b_MD_sumUp 131 = .ok (.goto (-113), 3) := by decide +kernel
theorem d_MD_sumUp_134 : decode b_MD_sumUp 134 = .ok (.return_, 1) := by decide +kernel
theorem d_MD_makeTree_0 : decode b_MD_makeTree 0 = .ok (.iconst 0, 1) := by decide +kernel
theorem d_MD_makeTree_1 : decode b_MD_makeTree 1 = .ok (.istore_n 2, 1) := by decide +kernel
theorem d_MD_makeTree_2 : decode b_MD_makeTree 2 = .ok (.iload_n 2, 1) := by decide +kernel
theorem d_MD_makeTree_3 : decode b_MD_makeTree 3 = .ok (.aload_n 0, 1) := by decide +kernel
theorem d_MD_makeTree_4 : decode b_MD_makeTree 4 = .ok (.getfield 115, 3) := by decide +kernel
theorem d_MD_makeTree_7 : decode b_MD_makeTree 7 = .ok (.if_icmp .ge 71, 3) := by decide +kernel
theorem d_MD_makeTree_10 : decode b_MD_makeTree 10 = .ok (.aload_n 0, 1) := by decide +kernel
theorem d_MD_makeTree_11 : decode b_MD_makeTree 11 = .ok (.getfield 35, 3) := by decide +kernel
theorem d_MD_makeTree_14 : decode b_MD_makeTree 14 = .ok (.iload_n 2, 1) := by decide +kernel
theorem d_MD_makeTree_15 : decode b_MD_makeTree 15 = .ok (.baload, 1) := by decide +kernel
theorem d_MD_makeTree_16 : decode b_MD_makeTree 16 = .ok (.ifCond .ne 27, 3) := by decide +kernel
theorem d_MD_makeTree_19 : decode b_MD_makeTree 19 = .ok (.aload_n 0, 1) := by decide +kernel
theorem d_MD_makeTree_20 : decode b_MD_makeTree 20 = .ok (.bipush 64, 2) := by decide +kernel
theorem d_MD_makeTree_22 : decode b_MD_makeTree 22 = .ok (.iload_n 1, 1) := by decide +kernel
theorem d_MD_makeTree_23 : decode b_MD_makeTree 23 = .ok (.imul, 1) := by decide +kernel
theorem d_MD_makeTree_24 : decode b_MD_makeTree 24 = .ok (.iload_n 2, 1) := by decide +kernel
theorem d_MD_makeTree_25 : decode b_MD_makeTree 25 = .ok (.iadd, 1) := by decide +kernel
theorem d_MD_makeTree_26 : decode b_MD_makeTree 26 = .ok (.invokevirtual 151, 3) := by decide +kernel
theorem d_MD_makeTree_29 : decode b_MD_makeTree 29 = .ok (.aload_n 0, 1) := by decide +kernel
theorem d_MD_makeTree_30 : decode b_MD_makeTree 30 = .ok (.getfield 38, 3) := by decide +kernel
theorem d_MD_makeTree_33 : decode b_MD_makeTree 33 = .ok (.bipush 6, 2) := by decide +kernel
theorem d_MD_makeTree_35 : decode b_MD_makeTree 35 = .ok (.iaload, 1) := by decide +kernel
theorem d_MD_makeTree_36 : decode b_MD_makeTree 36 = .ok (.if_icmp .ge 7, 3) := by decide +kernel
theorem d_MD_makeTree_39 : decode b_MD_makeTree 39 = .ok (.iconst 1, 1) := by decide +kernel
theorem d_MD_makeTree_40 : decode b_MD_makeTree 40 = .ok (.goto 4, 3) := by decide +kernel
theorem d_MD_makeTree_43 : decode b_MD_makeTree 43 = .ok (.iconst 0, 1) := by decide +kernel
theorem d_MD_makeTree_44 : decode b_MD_makeTree 44 = .ok (.istore_n 3, 1) := by decide +kernel
theorem d_MD_makeTree_45 : decode b_MD_makeTree 45 = .ok (.aload_n 0, 1) := by decide +kernel
theorem d_MD_makeTree_46 : decode b_MD_makeTree 46 = .ok (.getfield 48, 3) := by decide +kernel
theorem d_MD_makeTree_49 : decode b_MD_makeTree 49 = .ok (.bipush 40, 2) := by decide +kernel
theorem d_MD_makeTree_51 : decode b_MD_makeTree 51 = .ok (.iload_n 1, 1) := by decide +kernel
theorem d_MD_makeTree_52 : decode b_MD_makeTree 52 = .ok (.imul, 1) := by decide +kernel
theorem d_MD_makeTree_53 : decode b_MD_makeTree 53 = .ok (.iload_n 2, 1) := by decide +kernel
theorem d_MD_makeTree_54 : decode b_MD_makeTree 54 = .ok (.iadd, 1) := by decide +kernel
theorem d_MD_makeTree_55 : decode b_MD_makeTree 55 = .ok (.iload_n 3, 1) := by decide +kernel
theorem d_MD_makeTree_56 : decode b_MD_makeTree 56 = .ok (.bastore, 1) := by decide +kernel
theorem d_MD_makeTree_57 : decode b_MD_makeTree 57 = .ok (.aload_n 0, 1) := by decide +kernel
theorem d_MD_makeTree_58 : decode b_MD_makeTree 58 = .ok (.getfield 81, 3) := by decide +kernel
theorem d_MD_makeTree_61 : decode b_MD_makeTree 61 = .ok (.iload_n 2, 1) := by decide +kernel
theorem d_MD_makeTree_62 : decode b_MD_makeTree 62 = .ok (.iload_n 3, 1) := by decide +kernel
theorem d_MD_makeTree_63 : decode b_MD_makeTree 63 = .ok (.ifCond .eq 7, 3) := by decide +kernel
theorem d_MD_makeTree_66 : decode b_MD_makeTree 66 = .ok (.iconst 0, 1) := by decide +kernel
theorem d_MD_makeTree_67 : decode b_MD_makeTree 67 = .ok (.goto 4, 3) := by decide +kernel
theorem d_MD_makeTree_70 : decode b_MD_makeTree 70 = .ok (.iconst (-1), 1) := by decide +kernel
theorem d_MD_makeTree_71 : decode b_MD_makeTree 71 = .ok (.iastore, 1) := by decide +kernel
theorem d_MD_makeTree_72 : decode b_MD_makeTree 72 = .ok (.iinc 2 1, 3) := by decide +kernel
theorem d_MD_makeTree_75 : decode b_MD_makeTree 75 = .ok (.goto (-73), 3) := by decide +kernel
theorem d_MD_makeTree_78 : decode b_MD_makeTree 78 = .ok (.aload_n 0, 1) := by decide +kernel
theorem d_MD_makeTree_79 : decode b_MD_makeTree 79 = .ok (.getfield 51, 3) := by decide +kernel
theorem d_MD_makeTree_82 : decode b_MD_makeTree 82 = .ok (.iload_n 1, 1) := by decide +kernel
theorem d_MD_makeTree_83 : decode b_MD_makeTree 83 = .ok (.iconst 1, 1) := by decide +kernel
theorem d_MD_makeTree_84 : decode b_MD_makeTree 84 = .ok (.iastore, 1) := by decide +kernel
theorem d_MD_makeTree_85 : decode b_MD_makeTree 85 = .ok (.aload_n 0, 1) := by decide +kernel
theorem d_MD_makeTree_86 : decode b_MD_makeTree 86 = .ok (.iload_n 1, 1) := by decide +kernel
theorem d_MD_makeTree_87 : decode b_MD_makeTree 87 = .ok (.iconst 0, 1) := by decide +kernel
theorem d_MD_makeTree_88 : decode b_MD_makeTree 88 = .ok (.iconst 0, 1) := by decide +kernel
theorem d_MD_makeTree_89 : decode b_MD_makeTree 89 = .ok (.invokevirtual 155, 3) := by decide +kernel
theorem d_MD_makeTree_92 : decode b_MD_makeTree 92 = .ok (.iconst 0, 1) := by decide +kernel
theorem d_MD_makeTree_93 : decode b_MD_makeTree 93 = .ok (.istore_n 2, 1) := by decide +kernel
theorem d_MD_makeTree_94 : decode b_MD_makeTree 94 = .ok (.iload_n 2, 1) := by decide +kernel
theorem d_MD_makeTree_95 : decode b_MD_makeTree 95 = .ok (.aload_n 0, 1) := by decide +kernel
theorem d_MD_makeTree_96 : decode b_MD_makeTree 96 = .ok (.getfield 51, 3) := by decide +kernel
theorem d_MD_makeTree_99 : decode b_MD_makeTree 99 = .ok (.iload_n 1, 1) := by decide +kernel
theorem d_MD_makeTree_100 : decode b_MD_makeTree 100 = .ok (.iaload, 1) := by decide +kernel
theorem d_MD_makeTree_101 : decode b_MD_makeTree 101 = .ok (.if_icmp .ge 15, 3) := by decide +kernel
theorem d_MD_makeTree_104 : decode b_MD_makeTree 104 = .ok (.aload_n 0, 1) := by decide +kernel
theorem d_MD_makeTree_105 : decode b_MD_makeTree 105 = .ok (.iload_n 1, 1) := by decide +kernel
theorem d_MD_makeTree_106 : decode b_MD_makeTree 106 = .ok (.iload_n 2, 1) := by decide +kernel
theorem d_MD_makeTree_107 : decode b_MD_makeTree 107 = .ok (.invokevirtual 159, 3) := by decide +kernel
theorem d_MD_makeTree_110 : decode b_MD_makeTree 110 = .ok (.iinc 2 1, 3) := by decide +kernel
theorem d_MD_makeTree_113 : decode b_MD_makeTree 113 = .ok (.goto (-19), 3) := by decide +kernel
theorem d_MD_makeTree_116 : decode b_MD_makeTree 116 = .ok (.return_, 1) := by decide +kernel
theorem d_MD_layNode_0 : decode b_MD_layNode 0 = .ok (.bipush 32, 2) := by decide +kernel
theorem d_MD_layNode_2 : decode b_MD_layNode 2 = .ok (.iload_n 1, 1) := by decide +kernel
theorem d_MD_layNode_3 : decode b_MD_layNode 3 = .ok (.imul, 1) := by decide +kernel
theorem d_MD_layNode_4 : decode b_MD_layNode 4 = .ok (.iload_n 2, 1) := by decide +kernel
theorem d_MD_layNode_5 : decode b_MD_layNode 5 = .ok (.iadd, 1) := by decide +kernel
theorem d_MD_layNode_6 : decode b_MD_layNode 6 = .ok (.istore 4, 2) := by decide +kernel
theorem d_MD_layNode_8 : decode b_MD_layNode 8 = .ok (.aload_n 0, 1) := by decide +kernel
theorem d_MD_layNode_9 : decode b_MD_layNode 9 = .ok (.iload_n 2, 1) := by decide +kernel
theorem d_MD_layNode_10 : decode b_MD_layNode 10 = .ok (.iconst (-1), 1) := by decide +kernel
theorem d_MD_layNode_11 : decode b_MD_layNode 11 = .ok (.iconst 0, 1) := by decide +kernel
theorem d_MD_layNode_12 : decode b_MD_layNode 12 = .ok (.iconst 0, 1) := by decide +kernel
theorem d_MD_layNode_13 : decode b_MD_layNode 13 = .ok (.iconst 1, 1) := by decide +kernel
theorem d_MD_layNode_14 : decode b_MD_layNode 14 = .ok (.invokevirtual 163, 3) := by decide +kernel
theorem d_MD_layNode_17 : decode b_MD_layNode 17 = .ok (.aload_n 0, 1) := by decide +kernel
theorem d_MD_layNode_18 : decode b_MD_layNode 18 = .ok (.getfield 75, 3) := by decide +kernel
theorem d_MD_layNode_21 : decode b_MD_layNode 21 = .ok (.iload 4, 2) := by decide +kernel
theorem d_MD_layNode_23 : decode b_MD_layNode 23 = .ok (.aload_n 0, 1) := by decide +kernel
theorem d_MD_layNode_24 : decode b_MD_layNode 24 = .ok (.getfield 137, 3) := by decide +kernel
theorem d_MD_layNode_27 : decode b_MD_layNode 27 = .ok (.lastore, 1) := by decide +kernel
theorem d_MD_layNode_28 : decode b_MD_layNode 28 = .ok (.aload_n 0, 1) := by decide +kernel
theorem d_MD_layNode_29 : decode b_MD_layNode 29 = .ok (.getfield 69, 3) := by decide +kernel
theorem d_MD_layNode_32 : decode b_MD_layNode 32 = .ok (.iload 4, 2) := by decide +kernel
theorem d_MD_layNode_34 : decode b_MD_layNode 34 = .ok (.aload_n 0, 1) := by decide +kernel
theorem d_MD_layNode_35 : decode b_MD_layNode 35 = .ok (.getfield 141, 3) := by decide +kernel
theorem d_MD_layNode_38 : decode b_MD_layNode 38 = .ok (.iastore, 1) := by decide +kernel
theorem d_MD_layNode_39 : decode b_MD_layNode 39 = .ok (.aload_n 0, 1) := by decide +kernel
theorem d_MD_layNode_40 : decode b_MD_layNode 40 = .ok (.getfield 66, 3) := by decide +kernel
theorem d_MD_layNode_43 : decode b_MD_layNode 43 = .ok (.iload 4, 2) := by decide +kernel
theorem d_MD_layNode_45 : decode b_MD_layNode 45 = .ok (.aload_n 0, 1) := by decide +kernel
theorem d_MD_layNode_46 : decode b_MD_layNode 46 = .ok (.getfield 144, 3) := by decide +kernel
theorem d_MD_layNode_49 : decode b_MD_layNode 49 = .ok (.iastore, 1) := by decide +kernel
theorem d_MD_layNode_50 : decode b_MD_layNode 50 = .ok (.aload_n 0, 1) := by decide +kernel
theorem d_MD_layNode_51 : decode b_MD_layNode 51 = .ok (.getfield 72, 3) := by decide +kernel
theorem d_MD_layNode_54 : decode b_MD_layNode 54 = .ok (.iload 4, 2) := by decide +kernel
theorem d_MD_layNode_56 : decode b_MD_layNode 56 = .ok (.iload_n 3, 1) := by decide +kernel
theorem d_MD_layNode_57 : decode b_MD_layNode 57 = .ok (.iastore, 1) := by decide +kernel
theorem d_MD_layNode_58 : decode b_MD_layNode 58 = .ok (.aload_n 0, 1) := by decide +kernel
theorem d_MD_layNode_59 : decode b_MD_layNode 59 = .ok (.getfield 54, 3) := by decide +kernel
theorem d_MD_layNode_62 : decode b_MD_layNode 62 = .ok (.iload 4, 2) := by decide +kernel
theorem d_MD_layNode_64 : decode b_MD_layNode 64 = .ok (.iconst (-1), 1) := by decide +kernel
theorem d_MD_layNode_65 : decode b_MD_layNode 65 = .ok (.iastore, 1) := by decide +kernel
theorem d_MD_layNode_66 : decode b_MD_layNode 66 = .ok (.aload_n 0, 1) := by decide +kernel
theorem d_MD_layNode_67 : decode b_MD_layNode 67 = .ok (.getfield 57, 3) := by decide +kernel
theorem d_MD_layNode_70 : decode b_MD_layNode 70 = .ok (.iload 4, 2) := by decide +kernel
theorem d_MD_layNode_72 : decode b_MD_layNode 72 = .ok (.iconst (-1), 1) := by decide +kernel
theorem d_MD_layNode_73 : decode b_MD_layNode 73 = .ok (.iastore, 1) := by decide +kernel
theorem d_MD_layNode_74 : decode b_MD_layNode 74 = .ok (.aload_n 0, 1) := by decide +kernel
theorem d_MD_layNode_75 : decode b_MD_layNode 75 = .ok (.getfield 60, 3) := by decide +kernel
theorem d_MD_layNode_78 : decode b_MD_layNode 78 = .ok (.iload 4, 2) := by decide +kernel
theorem d_MD_layNode_80 : decode b_MD_layNode 80 = .ok (.iconst (-1), 1) := by decide +kernel
theorem d_MD_layNode_81 : decode b_MD_layNode 81 = .ok (.iastore, 1) := by decide +kernel
theorem d_MD_layNode_82 : decode b_MD_layNode 82 = .ok (.aload_n 0, 1) := by decide +kernel
theorem d_MD_layNode_83 : decode b_MD_layNode 83 = .ok (.getfield 63, 3) := by decide +kernel
theorem d_MD_layNode_86 : decode b_MD_layNode 86 = .ok (.iload 4, 2) := by decide +kernel
theorem d_MD_layNode_88 : decode b_MD_layNode 88 = .ok (.iconst (-1), 1) := by decide +kernel
theorem d_MD_layNode_89 : decode b_MD_layNode 89 = .ok (.iastore, 1) := by decide +kernel
theorem d_MD_layNode_90 : decode b_MD_layNode 90 = .ok (.aload_n 0, 1) := by decide +kernel
theorem d_MD_layNode_91 : decode b_MD_layNode 91 = .ok (.getfield 78, 3) := by decide +kernel
theorem d_MD_layNode_94 : decode b_MD_layNode 94 = .ok (.iload 4, 2) := by decide +kernel
theorem d_MD_layNode_96 : decode b_MD_layNode 96 = .ok (.lconst 0, 1) := by decide +kernel
theorem d_MD_layNode_97 : decode b_MD_layNode 97 = .ok (.lastore, 1) := by decide +kernel
theorem d_MD_layNode_98 : decode b_MD_layNode 98 = .ok (.return_, 1) := by decide +kernel
theorem d_MD_isCut_0 : decode b_MD_isCut 0 = .ok (.iconst 0, 1) := by decide +kernel
theorem d_MD_isCut_1 : decode b_MD_isCut 1 = .ok (.istore 4, 2) := by decide +kernel
theorem d_MD_isCut_3 : decode b_MD_isCut 3 = .ok (.iconst 0, 1) := by decide +kernel
theorem d_MD_isCut_4 : decode b_MD_isCut 4 = .ok (.istore 5, 2) := by decide +kernel
theorem d_MD_isCut_6 : decode b_MD_isCut 6 = .ok (.iconst 0, 1) := by decide +kernel
theorem d_MD_isCut_7 : decode b_MD_isCut 7 = .ok (.istore 6, 2) := by decide +kernel
theorem d_MD_isCut_9 : decode b_MD_isCut 9 = .ok (.iload 6, 2) := by decide +kernel
theorem d_MD_isCut_11 : decode b_MD_isCut 11 = .ok (.aload_n 0, 1) := by decide +kernel
theorem d_MD_isCut_12 : decode b_MD_isCut 12 = .ok (.getfield 115, 3) := by decide +kernel
theorem d_MD_isCut_15 : decode b_MD_isCut 15 = .ok (.if_icmp .ge 69, 3) := by decide +kernel
theorem d_MD_isCut_18 : decode b_MD_isCut 18 = .ok (.aload_n 0, 1) := by decide +kernel
theorem d_MD_isCut_19 : decode b_MD_isCut 19 = .ok (.getfield 81, 3) := by decide +kernel
theorem d_MD_isCut_22 : decode b_MD_isCut 22 = .ok (.iload 6, 2) := by decide +kernel
theorem d_MD_isCut_24 : decode b_MD_isCut 24 = .ok (.iaload, 1) := by decide +kernel
theorem d_MD_isCut_25 : decode b_MD_isCut 25 = .ok (.iload_n 1, 1) := by decide +kernel
theorem d_MD_isCut_26 : decode b_MD_isCut 26 = .ok (.if_icmp .ne 52, 3) := by decide +kernel
theorem d_MD_isCut_29 : decode b_MD_isCut 29 = .ok (.aload_n 0, 1) := by decide +kernel
theorem d_MD_isCut_30 : decode b_MD_isCut 30 = .ok (.getfield 26, 3) := by decide +kernel
theorem d_MD_isCut_33 : decode b_MD_isCut 33 = .ok (.iconst 4, 1) := by decide +kernel
theorem d_MD_isCut_34 : decode b_MD_isCut 34 = .ok (.iload 6, 2) := by decide +kernel
theorem d_MD_isCut_36 : decode b_MD_isCut 36 = .ok (.imul, 1) := by decide +kernel
theorem d_MD_isCut_37 : decode b_MD_isCut 37 = .ok (.iload_n 2, 1) := by decide +kernel
theorem d_MD_isCut_38 : decode b_MD_isCut 38 = .ok (.iadd, 1) := by decide +kernel
theorem d_MD_isCut_39 : decode b_MD_isCut 39 = .ok (.iaload, 1) := by decide +kernel
theorem d_MD_isCut_40 : decode b_MD_isCut 40 = .ok (.istore 7, 2) := by decide +kernel
theorem d_MD_isCut_42 : decode b_MD_isCut 42 = .ok (.iload 4, 2) := by decide +kernel
theorem d_MD_isCut_44 : decode b_MD_isCut 44 = .ok (.ifCond .ne 9, 3) := by decide +kernel
theorem d_MD_isCut_47 : decode b_MD_isCut 47 = .ok (.iload 7, 2) := by decide +kernel
theorem d_MD_isCut_49 : decode b_MD_isCut 49 = .ok (.iload_n 3, 1) := by decide +kernel
theorem d_MD_isCut_50 : decode b_MD_isCut 50 = .ok (.if_icmp .ne 7, 3) := by decide +kernel
theorem d_MD_isCut_53 : decode b_MD_isCut 53 = .ok (.iconst 1, 1) := by decide +kernel
theorem d_MD_isCut_54 : decode b_MD_isCut 54 = .ok (.goto 4, 3) := by decide +kernel
theorem d_MD_isCut_57 : decode b_MD_isCut 57 = .ok (.iconst 0, 1) := by decide +kernel
theorem d_MD_isCut_58 : decode b_MD_isCut 58 = .ok (.istore 4, 2) := by decide +kernel
theorem d_MD_isCut_60 : decode b_MD_isCut 60 = .ok (.iload 5, 2) := by decide +kernel
theorem d_MD_isCut_62 : decode b_MD_isCut 62 = .ok (.ifCond .ne 9, 3) := by decide +kernel
theorem d_MD_isCut_65 : decode b_MD_isCut 65 = .ok (.iload 7, 2) := by decide +kernel
theorem d_MD_isCut_67 : decode b_MD_isCut 67 = .ok (.iload_n 3, 1) := by decide +kernel
theorem d_MD_isCut_68 : decode b_MD_isCut 68 = .ok (.if_icmp .le 7, 3) := by decide +kernel
theorem d_MD_isCut_71 : decode b_MD_isCut 71 = .ok (.iconst 1, 1) := by decide +kernel
theorem d_MD_isCut_72 : decode b_MD_isCut 72 = .ok (.goto 4, 3) := by decide +kernel
theorem d_MD_isCut_75 : decode b_MD_isCut 75 = .ok (.iconst 0, 1) := by decide +kernel
theorem d_MD_isCut_76 : decode b_MD_isCut 76 = .ok (.istore 5, 2) := by decide +kernel
theorem d_MD_isCut_78 : decode b_MD_isCut 78 = .ok (.iinc 6 1, 3) := by decide +kernel
theorem d_MD_isCut_81 : decode b_MD_isCut 81 = .ok (.goto (-72), 3) := by decide +kernel
theorem d_MD_isCut_84 : decode b_MD_isCut 84 = .ok (.iload 4, 2) := by decide +kernel
theorem d_MD_isCut_86 : decode b_MD_isCut 86 = .ok (.ifCond .eq 12, 3) := by decide +kernel
theorem d_MD_isCut_89 : decode b_MD_isCut 89 = .ok (.iload 5, 2) := by decide +kernel
theorem d_MD_isCut_91 : decode b_MD_isCut 91 = .ok (.ifCond .eq 7, 3) := by decide +kernel
theorem d_MD_isCut_94 : decode b_MD_isCut 94 = .ok (.iconst 1, 1) := by decide +kernel
theorem d_MD_isCut_95 : decode b_MD_isCut 95 = .ok (.goto 4, 3) := by decide +kernel
theorem d_MD_isCut_98 : decode b_MD_isCut 98 = .ok (.iconst 0, 1) := by decide +kernel
theorem d_MD_isCut_99 : decode b_MD_isCut 99 = .ok (.ireturn, 1) := by decide +kernel
theorem d_MD_split_0 : decode b_MD_split 0 = .ok (.bipush 32, 2) := by decide +kernel
theorem d_MD_split_2 : decode b_MD_split 2 = .ok (.iload_n 1, 1) := by decide +kernel
theorem d_MD_split_3 : decode b_MD_split 3 = .ok (.imul, 1) := by decide +kernel
theorem d_MD_split_4 : decode b_MD_split 4 = .ok (.iload_n 2, 1) := by decide +kernel
theorem d_MD_split_5 : decode b_MD_split 5 = .ok (.iadd, 1) := by decide +kernel
theorem d_MD_split_6 : decode b_MD_split 6 = .ok (.istore_n 3, 1) := by decide +kernel
theorem d_MD_split_7 : decode b_MD_split 7 = .ok (.aload_n 0, 1) := by decide +kernel
theorem d_MD_split_8 : decode b_MD_split 8 = .ok (.getfield 38, 3) := by decide +kernel
theorem d_MD_split_11 : decode b_MD_split 11 = .ok (.iconst 5, 1) := by decide +kernel
theorem d_MD_split_12 : decode b_MD_split 12 = .ok (.iaload, 1) := by decide +kernel
theorem d_MD_split_13 : decode b_MD_split 13 = .ok (.i2l, 1) := by decide +kernel
theorem d_MD_split_14 : decode b_MD_split 14 = .ok (.lstore 4, 2) := by decide +kernel
theorem d_MD_split_16 : decode b_MD_split 16 = .ok (.aload_n 0, 1) := by decide +kernel
theorem d_MD_split_17 : decode b_MD_split 17 = .ok (.getfield 72, 3) := by decide +kernel
theorem d_MD_split_20 : decode b_MD_split 20 = .ok (.iload_n 3, 1) := by decide +kernel
theorem d_MD_split_21 : decode b_MD_split 21 = .ok (.iaload, 1) := by decide +kernel
theorem d_MD_split_22 : decode b_MD_split 22 = .ok (.aload_n 0, 1) := by decide +kernel
theorem d_MD_split_23 : decode b_MD_split 23 = .ok (.getfield 38, 3) := by decide +kernel
theorem d_MD_split_26 : decode b_MD_split 26 = .ok (.iconst 0, 1) := by decide +kernel
theorem d_MD_split_27 : decode b_MD_split 27 = .ok (.iaload, 1) := by decide +kernel
theorem d_MD_split_28 : decode b_MD_split 28 = .ok (.if_icmp .ne 4, 3) := by decide +kernel
theorem d_MD_split_31 : decode b_MD_split 31 = .ok (.return_, 1) := by decide +kernel
theorem d_MD_split_32 : decode b_MD_split 32 = .ok (.iconst 0, 1) := by decide +kernel
theorem d_MD_split_33 : decode b_MD_split 33 = .ok (.istore 6, 2) := by decide +kernel
theorem d_MD_split_35 : decode b_MD_split 35 = .ok (.iload 6, 2) := by decide +kernel
theorem d_MD_split_37 : decode b_MD_split 37 = .ok (.iconst 4, 1) := by decide +kernel
theorem d_MD_split_38 : decode b_MD_split 38 = .ok (.if_icmp .ge 133, 3) := by decide +kernel
theorem d_MD_split_41 : decode b_MD_split 41 = .ok (.aload_n 0, 1) := by decide +kernel
theorem d_MD_split_42 : decode b_MD_split 42 = .ok (.ldc 167, 2) := by decide +kernel
theorem d_MD_split_44 : decode b_MD_split 44 = .ok (.iconst 4, 1) := by decide +kernel
theorem d_MD_split_45 : decode b_MD_split 45 = .ok (.iload_n 1, 1) := by decide +kernel
theorem d_MD_split_46 : decode b_MD_split 46 = .ok (.imul, 1) := by decide +kernel
theorem d_MD_split_47 : decode b_MD_split 47 = .ok (.iadd, 1) := by decide +kernel
theorem d_MD_split_48 : decode b_MD_split 48 = .ok (.iload 6, 2) := by decide +kernel
theorem d_MD_split_50 : decode b_MD_split 50 = .ok (.iadd, 1) := by decide +kernel
theorem d_MD_split_51 : decode b_MD_split 51 = .ok (.invokevirtual 151, 3) := by decide +kernel
theorem d_MD_split_54 : decode b_MD_split 54 = .ok (.aload_n 0, 1) := by decide +kernel
theorem d_MD_split_55 : decode b_MD_split 55 = .ok (.getfield 38, 3) := by decide +kernel
theorem d_MD_split_58 : decode b_MD_split 58 = .ok (.bipush 7, 2) := by decide +kernel
theorem d_MD_split_60 : decode b_MD_split 60 = .ok (.iaload, 1) := by decide +kernel
theorem d_MD_split_61 : decode b_MD_split 61 = .ok (.if_icmp .ge 104, 3) := by decide +kernel
theorem d_MD_split_64 : decode b_MD_split 64 = .ok (.iconst 0, 1) := by decide +kernel
theorem d_MD_split_65 : decode b_MD_split 65 = .ok (.istore 7, 2) := by decide +kernel
theorem d_MD_split_67 : decode b_MD_split 67 = .ok (.iload 7, 2) := by decide +kernel
theorem d_MD_split_69 : decode b_MD_split 69 = .ok (.bipush 32, 2) := by decide +kernel
theorem d_MD_split_71 : decode b_MD_split 71 = .ok (.if_icmp .ge 94, 3) := by decide +kernel
theorem d_MD_split_74 : decode b_MD_split 74 = .ok (.iconst 0, 1) := by decide +kernel
theorem d_MD_split_75 : decode b_MD_split 75 = .ok (.istore 8, 2) := by decide +kernel
theorem d_MD_split_77 : decode b_MD_split 77 = .ok (.iload 8, 2) := by decide +kernel
theorem d_MD_split_79 : decode b_MD_split 79 = .ok (.iconst 2, 1) := by decide +kernel
theorem d_MD_split_80 : decode b_MD_split 80 = .ok (.if_icmp .ge 79, 3) := by decide +kernel
theorem d_MD_split_83 : decode b_MD_split 83 = .ok (.aload_n 0, 1) := by decide +kernel
theorem d_MD_split_84 : decode b_MD_split 84 = .ok (.iload_n 2, 1) := by decide +kernel
theorem d_MD_split_85 : decode b_MD_split 85 = .ok (.iload 6, 2) := by decide +kernel
theorem d_MD_split_87 : decode b_MD_split 87 = .ok (.iload 7, 2) := by decide +kernel
theorem d_MD_split_89 : decode b_MD_split 89 = .ok (.invokevirtual 168, 3) := by decide +kernel
theorem d_MD_split_92 : decode b_MD_split 92 = .ok (.ifCond .eq 67, 3) := by decide +kernel
theorem d_MD_split_95 : decode b_MD_split 95 = .ok (.aload_n 0, 1) := by decide +kernel
theorem d_MD_split_96 : decode b_MD_split 96 = .ok (.iload_n 3, 1) := by decide +kernel
theorem d_MD_split_97 : decode b_MD_split 97 = .ok (.iload_n 2, 1) := by decide +kernel
theorem d_MD_split_98 : decode b_MD_split 98 = .ok (.iload 6, 2) := by decide +kernel
theorem d_MD_split_100 : decode b_MD_split 100 = .ok (.iload 7, 2) := by decide +kernel
theorem d_MD_split_102 : decode b_MD_split 102 = .ok (.iload 8, 2) := by decide +kernel
theorem d_MD_split_104 : decode b_MD_split 104 = .ok (.invokevirtual 171, 3) := by decide +kernel
theorem d_MD_split_107 : decode b_MD_split 107 = .ok (.lstore 9, 2) := by decide +kernel
theorem d_MD_split_109 : decode b_MD_split 109 = .ok (.lload 9, 2) := by decide +kernel
theorem d_MD_split_111 : decode b_MD_split 111 = .ok (.lload 4, 2) := by decide +kernel
theorem d_MD_split_113 : decode b_MD_split 113 = .ok (.lcmp, 1) := by decide +kernel
theorem d_MD_split_114 : decode b_MD_split 114 = .ok (.ifCond .le 39, 3) := by decide +kernel
theorem d_MD_split_117 : decode b_MD_split 117 = .ok (.lload 9, 2) := by decide +kernel
theorem d_MD_split_119 : decode b_MD_split 119 = .ok (.lstore 4, 2) := by decide +kernel
theorem d_MD_split_121 : decode b_MD_split 121 = .ok (.aload_n 0, 1) := by decide +kernel
theorem d_MD_split_122 : decode b_MD_split 122 = .ok (.getfield 54, 3) := by decide +kernel
theorem d_MD_split_125 : decode b_MD_split 125 = .ok (.iload_n 3, 1) := by decide +kernel
theorem d_MD_split_126 : decode b_MD_split 126 = .ok (.iload 6, 2) := by decide +kernel
theorem d_MD_split_128 : decode b_MD_split 128 = .ok (.iastore, 1) := by decide +kernel
theorem d_MD_split_129 : decode b_MD_split 129 = .ok (.aload_n 0, 1) := by decide +kernel
theorem d_MD_split_130 : decode b_MD_split 130 = .ok (.getfield 57, 3) := by decide +kernel
theorem d_MD_split_133 : decode b_MD_split 133 = .ok (.iload_n 3, 1) := by decide +kernel
theorem d_MD_split_134 : decode b_MD_split 134 = .ok (.iload 7, 2) := by decide +kernel
theorem d_MD_split_136 : decode b_MD_split 136 = .ok (.iastore, 1) := by decide +kernel
theorem d_MD_split_137 : decode b_MD_split 137 = .ok (.aload_n 0, 1) := by decide +kernel
theorem d_MD_split_138 : decode b_MD_split 138 = .ok (.getfield 60, 3) := by decide +kernel
theorem d_MD_split_141 : decode b_MD_split 141 = .ok (.iload_n 3, 1) := by decide +kernel
theorem d_MD_split_142 : decode b_MD_split 142 = .ok (.iload 8, 2) := by decide +kernel
theorem d_MD_split_144 : decode b_MD_split 144 = .ok (.iastore, 1) := by decide +kernel
theorem d_MD_split_145 : decode b_MD_split 145 = .ok (.aload_n 0, 1) := by decide +kernel
theorem d_MD_split_146 : decode b_MD_split 146 = .ok (.getfield 78, 3) := by decide +kernel
theorem d_MD_split_149 : decode b_MD_split 149 = .ok (.iload_n 3, 1) := by decide +kernel
theorem d_MD_split_150 : decode b_MD_split 150 = .ok (.lload 9, 2) := by decide +kernel
theorem d_MD_split_152 : decode b_MD_split 152 = .ok (.lastore, 1) := by decide +kernel
theorem d_MD_split_153 : decode b_MD_split 153 = .ok (.iinc 8 1, 3) := by decide +kernel
theorem d_MD_split_156 : decode b_MD_split 156 = .ok (.goto (-79), 3) := by decide +kernel
theorem d_MD_split_159 : decode b_MD_split 159 = .ok (.iinc 7 1, 3) := by decide +kernel
theorem d_MD_split_162 : decode b_MD_split 162 = .ok (.goto (-95), 3) := by decide +kernel
theorem d_MD_split_165 : decode b_MD_split 165 = .ok (.iinc 6 1, 3) := by decide +kernel
theorem d_MD_split_168 : decode b_MD_split 168 = .ok (.goto (-133), 3) := by decide +kernel
theorem d_MD_split_171 : decode b_MD_split 171 = .ok (.aload_n 0, 1) := by decide +kernel
theorem d_MD_split_172 : decode b_MD_split 172 = .ok (.getfield 54, 3) := by decide +kernel
theorem d_MD_split_175 : decode b_MD_split 175 = .ok (.iload_n 3, 1) := by decide +kernel
theorem d_MD_split_176 : decode b_MD_split 176 = .ok (.iaload, 1) := by decide +kernel
theorem d_MD_split_177 : decode b_MD_split 177 = .ok (.ifCond .ge 4, 3) := by decide +kernel
theorem d_MD_split_180 : decode b_MD_split 180 = .ok (.return_, 1) := by decide +kernel
theorem d_MD_split_181 : decode b_MD_split 181 = .ok (.aload_n 0, 1) := by decide +kernel
theorem d_MD_split_182 : decode b_MD_split 182 = .ok (.getfield 51, 3) := by decide +kernel
theorem d_MD_split_185 : decode b_MD_split 185 = .ok (.iload_n 1, 1) := by decide +kernel
theorem d_MD_split_186 : decode b_MD_split 186 = .ok (.iaload, 1) := by decide +kernel
theorem d_MD_split_187 : decode b_MD_split 187 = .ok (.istore 6, 2) := by decide +kernel
theorem d_MD_split_189 : decode b_MD_split 189 = .ok (.aload_n 0, 1) := by decide +kernel
theorem d_MD_split_190 : decode b_MD_split 190 = .ok (.getfield 63, 3) := by decide +kernel
theorem d_MD_split_193 : decode b_MD_split 193 = .ok (.iload_n 3, 1) := by decide +kernel
theorem d_MD_split_194 : decode b_MD_split 194 = .ok (.iload 6, 2) := by decide +kernel
theorem d_MD_split_196 : decode b_MD_split 196 = .ok (.iastore, 1) := by decide +kernel
theorem d_MD_split_197 : decode b_MD_split 197 = .ok (.aload_n 0, 1) := by decide +kernel
theorem d_MD_split_198 : decode b_MD_split 198 = .ok (.getfield 51, 3) := by decide +kernel
theorem d_MD_split_201 : decode b_MD_split 201 = .ok (.iload_n 1, 1) := by decide +kernel
theorem d_MD_split_202 : decode b_MD_split 202 = .ok (.dup2, 1) := by decide +kernel
theorem d_MD_split_203 : decode b_MD_split 203 = .ok (.iaload, 1) := by decide +kernel
theorem d_MD_split_204 : decode b_MD_split 204 = .ok (.iconst 2, 1) := by decide +kernel
theorem d_MD_split_205 : decode b_MD_split 205 = .ok (.iadd, 1) := by decide +kernel
theorem d_MD_split_206 : decode b_MD_split 206 = .ok (.iastore, 1) := by decide +kernel
theorem d_MD_split_207 : decode b_MD_split 207 = .ok (.iconst 0, 1) := by decide +kernel
theorem d_MD_split_208 : decode b_MD_split 208 = .ok (.istore 7, 2) := by decide +kernel
theorem d_MD_split_210 : decode b_MD_split 210 = .ok (.iload 7, 2) := by decide +kernel
theorem d_MD_split_212 : decode b_MD_split 212 = .ok (.aload_n 0, 1) := by decide +kernel
theorem d_MD_split_213 : decode b_MD_split 213 = .ok (.getfield 115, 3) := by decide +kernel
theorem d_MD_split_216 : decode b_MD_split 216 = .ok (.if_icmp .ge 70, 3) := by decide +kernel
theorem d_MD_split_219 : decode b_MD_split 219 = .ok (.aload_n 0, 1) := by decide +kernel
theorem d_MD_split_220 : decode b_MD_split 220 = .ok (.getfield 81, 3) := by decide +kernel
theorem d_MD_split_223 : decode b_MD_split 223 = .ok (.iload 7, 2) := by decide +kernel
theorem d_MD_split_225 : decode b_MD_split 225 = .ok (.iaload, 1) := by decide +kernel
theorem d_MD_split_226 : decode b_MD_split 226 = .ok (.iload_n 2, 1) := by decide +kernel
theorem d_MD_split_227 : decode b_MD_split 227 = .ok (.if_icmp .ne 53, 3) := by decide +kernel
theorem d_MD_split_230 : decode b_MD_split 230 = .ok (.aload_n 0, 1) := by decide +kernel
theorem d_MD_split_231 : decode b_MD_split 231 = .ok (.getfield 81, 3) := by decide +kernel
theorem d_MD_split_234 : decode b_MD_split 234 = .ok (.iload 7, 2) := by decide +kernel
theorem d_MD_split_236 : decode b_MD_split 236 = .ok (.aload_n 0, 1) := by decide +kernel
theorem d_MD_split_237 : decode b_MD_split 237 = .ok (.getfield 26, 3) := by decide +kernel
theorem d_MD_split_240 : decode b_MD_split 240 = .ok (.iconst 4, 1) := by decide +kernel
theorem d_MD_split_241 : decode b_MD_split 241 = .ok (.iload 7, 2) := by decide +kernel
theorem d_MD_split_243 : decode b_MD_split 243 = .ok (.imul, 1) := by decide +kernel
theorem d_MD_split_244 : decode b_MD_split 244 = .ok (.aload_n 0, 1) := by decide +kernel
theorem d_MD_split_245 : decode b_MD_split 245 = .ok (.getfield 54, 3) := by decide +kernel
theorem d_MD_split_248 : decode b_MD_split 248 = .ok (.iload_n 3, 1) := by decide +kernel
theorem d_MD_split_249 : decode b_MD_split 249 = .ok (.iaload, 1) := by decide +kernel
theorem d_MD_split_250 : decode b_MD_split 250 = .ok (.iadd, 1) := by decide +kernel
theorem d_MD_split_251 : decode b_MD_split 251 = .ok (.iaload, 1) := by decide +kernel
theorem d_MD_split_252 : decode b_MD_split 252 = .ok (.aload_n 0, 1) := by decide +kernel
theorem d_MD_split_253 : decode b_MD_split 253 = .ok (.getfield 57, 3) := by decide +kernel
theorem d_MD_split_256 : decode b_MD_split 256 = .ok (.iload_n 3, 1) := by decide +kernel
theorem d_MD_split_257 : decode b_MD_split 257 = .ok (.iaload, 1) := by decide +kernel
theorem d_MD_split_258 : decode b_MD_split 258 = .ok (.aload_n 0, 1) := by decide +kernel
theorem d_MD_split_259 : decode b_MD_split 259 = .ok (.getfield 60, 3) := by decide +kernel
theorem d_MD_split_262 : decode b_MD_split 262 = .ok (.iload_n 3, 1) := by decide +kernel
theorem d_MD_split_263 : decode b_MD_split 263 = .ok (.iaload, 1) := by decide +kernel
theorem d_MD_split_264 : decode b_MD_split 264 = .ok (.invokestatic 147, 3) := by decide +kernel
theorem d_MD_split_267 : decode b_MD_split 267 = .ok (.ifCond .eq 8, 3) := by decide +kernel
theorem d_MD_split_270 : decode b_MD_split 270 = .ok (.iload 6, 2) := by decide +kernel
theorem d_MD_split_272 : decode b_MD_split 272 = .ok (.goto 7, 3) := by decide +kernel
theorem d_MD_split_275 : decode b_MD_split 275 = .ok (.iload 6, 2) := by decide +kernel
theorem d_MD_split_277 : decode b_MD_split 277 = .ok (.iconst 1, 1) := by decide +kernel
theorem d_MD_split_278 : decode b_MD_split 278 = .ok (.iadd, 1) := by decide +kernel
theorem d_MD_split_279 : decode b_MD_split 279 = .ok (.iastore, 1) := by decide +kernel
theorem d_MD_split_280 : decode b_MD_split 280 = .ok (.iinc 7 1, 3) := by decide +kernel
theorem d_MD_split_283 : decode b_MD_split 283 = .ok (.goto (-73), 3) := by decide +kernel
theorem d_MD_split_286 : decode b_MD_split 286 = .ok (.aload_n 0, 1) := by decide +kernel
theorem d_MD_split_287 : decode b_MD_split 287 = .ok (.iload_n 1, 1) := by decide +kernel
theorem d_MD_split_288 : decode b_MD_split 288 = .ok (.iload 6, 2) := by decide +kernel
theorem d_MD_split_290 : decode b_MD_split 290 = .ok (.aload_n 0, 1) := by decide +kernel
theorem d_MD_split_291 : decode b_MD_split 291 = .ok (.getfield 72, 3) := by decide +kernel
theorem d_MD_split_294 : decode b_MD_split 294 = .ok (.iload_n 3, 1) := by decide +kernel
theorem d_MD_split_295 : decode b_MD_split 295 = .ok (.iaload, 1) := by decide +kernel
theorem d_MD_split_296 : decode b_MD_split 296 = .ok (.iconst 1, 1) := by decide +kernel
theorem d_MD_split_297 : decode b_MD_split 297 = .ok (.iadd, 1) := by decide +kernel
theorem d_MD_split_298 : decode b_MD_split 298 = .ok (.invokevirtual 155, 3) := by decide +kernel
theorem d_MD_split_301 : decode b_MD_split 301 = .ok (.aload_n 0, 1) := by decide +kernel
theorem d_MD_split_302 : decode b_MD_split 302 = .ok (.iload_n 1, 1) := by decide +kernel
theorem d_MD_split_303 : decode b_MD_split 303 = .ok (.iload 6, 2) := by decide +kernel
theorem d_MD_split_305 : decode b_MD_split 305 = .ok (.iconst 1, 1) := by decide +kernel
theorem d_MD_split_306 : decode b_MD_split 306 = .ok (.iadd, 1) := by decide +kernel
theorem d_MD_split_307 : decode b_MD_split 307 = .ok (.aload_n 0, 1) := by decide +kernel
theorem d_MD_split_308 : decode b_MD_split 308 = .ok (.getfield 72, 3) := by decide +kernel
theorem d_MD_split_311 : decode b_MD_split 311 = .ok (.iload_n 3, 1) := by decide +kernel
theorem d_MD_split_312 : decode b_MD_split 312 = .ok (.iaload, 1) := by decide +kernel
theorem d_MD_split_313 : decode b_MD_split 313 = .ok (.iconst 1, 1) := by decide +kernel
theorem d_MD_split_314 : decode b_MD_split 314 = .ok (.iadd, 1) := by decide +kernel
theorem d_MD_split_315 : decode b_MD_split 315 = .ok (.invokevirtual 155, 3) := by decide +kernel
theorem d_MD_split_318 : decode b_MD_split 318 = .ok (.return_, 1) := by decide +kernel
theorem d_MD_difference_0 : decode b_MD_difference 0 = .ok (.aload_n 0, 1) := by decide +kernel
theorem d_MD_difference_1 : decode b_MD_difference 1 = .ok (.iload_n 2, 1) := by decide +kernel
theorem d_MD_difference_2 : decode b_MD_difference 2 = .ok (.iload_n 3, 1) := by decide +kernel
theorem d_MD_difference_3 : decode b_MD_difference 3 = .ok (.iload 4, 2) := by decide +kernel
theorem d_MD_difference_5 : decode b_MD_difference 5 = .ok (.iload 5, 2) := by decide +kernel
theorem d_MD_difference_7 : decode b_MD_difference 7 = .ok (.iconst 1, 1) := by decide +kernel
theorem d_MD_difference_8 : decode b_MD_difference 8 = .ok (.invokevirtual 163, 3) := by decide +kernel
theorem d_MD_difference_11 : decode b_MD_difference 11 = .ok (.aload_n 0, 1) := by decide +kernel
theorem d_MD_difference_12 : decode b_MD_difference 12 = .ok (.getfield 137, 3) := by decide +kernel
theorem d_MD_difference_15 : decode b_MD_difference 15 = .ok (.lstore 6, 2) := by decide +kernel
theorem d_MD_difference_17 : decode b_MD_difference 17 = .ok (.aload_n 0, 1) := by decide +kernel
theorem d_MD_difference_18 : decode b_MD_difference 18 = .ok (.getfield 141, 3) := by decide +kernel
theorem d_MD_difference_21 : decode b_MD_difference 21 = .ok (.istore 8, 2) := by decide +kernel
theorem d_MD_difference_23 : decode b_MD_difference 23 = .ok (.aload_n 0, 1) := by decide +kernel
theorem d_MD_difference_24 : decode b_MD_difference 24 = .ok (.getfield 144, 3) := by decide +kernel
theorem d_MD_difference_27 : decode b_MD_difference 27 = .ok (.istore 9, 2) := by decide +kernel
theorem d_MD_difference_29 : decode b_MD_difference 29 = .ok (.aload_n 0, 1) := by decide +kernel
theorem d_MD_difference_30 : decode b_MD_difference 30 = .ok (.iload_n 2, 1) := by decide +kernel
theorem d_MD_difference_31 : decode b_MD_difference 31 = .ok (.iload_n 3, 1) := by decide +kernel
theorem d_MD_difference_32 : decode b_MD_difference 32 = .ok (.iload 4, 2) := by decide +kernel
theorem d_MD_difference_34 : decode b_MD_difference 34 = .ok (.iload 5, 2) := by decide +kernel
theorem d_MD_difference_36 : decode b_MD_difference 36 = .ok (.iconst 0, 1) := by decide +kernel
theorem d_MD_difference_37 : decode b_MD_difference 37 = .ok (.invokevirtual 163, 3) := by decide +kernel
theorem d_MD_difference_40 : decode b_MD_difference 40 = .ok (.iload 9, 2) := by decide +kernel
theorem d_MD_difference_42 : decode b_MD_difference 42 = .ok (.aload_n 0, 1) := by decide +kernel
theorem d_MD_difference_43 : decode b_MD_difference 43 = .ok (.getfield 38, 3) := by decide +kernel
theorem d_MD_difference_46 : decode b_MD_difference 46 = .ok (.iconst 1, 1) := by decide +kernel
theorem d_MD_difference_47 : decode b_MD_difference 47 = .ok (.iaload, 1) := by decide +kernel
theorem d_MD_difference_48 : decode b_MD_difference 48 = .ok (.if_icmp .lt 16, 3) := by decide +kernel
theorem d_MD_difference_51 : decode b_MD_difference 51 = .ok (.aload_n 0, 1) := by decide +kernel
theorem d_MD_difference_52 : decode b_MD_difference 52 = .ok (.getfield 144, 3) := by decide +kernel
theorem d_MD_difference_55 : decode b_MD_difference 55 = .ok (.aload_n 0, 1) := by decide +kernel
theorem d_MD_difference_56 : decode b_MD_difference 56 = .ok (.getfield 38, 3) := by decide +kernel
theorem d_MD_difference_59 : decode b_MD_difference 59 = .ok (.iconst 1, 1) := by decide +kernel
theorem d_MD_difference_60 : decode b_MD_difference 60 = .ok (.iaload, 1) := by decide +kernel
theorem d_MD_difference_61 : decode b_MD_difference 61 = .ok (.if_icmp .ge 7, 3) := by decide +kernel
theorem d_MD_difference_64 : decode b_MD_difference 64 = .ok (.ldc2_w 175, 3) := by decide +kernel
theorem d_MD_difference_67 : decode b_MD_difference 67 = .ok (.lreturn, 1) := by decide +kernel
theorem d_MD_difference_68 : decode b_MD_difference 68 = .ok (.aload_n 0, 1) := by decide +kernel
theorem d_MD_difference_69 : decode b_MD_difference 69 = .ok (.lload 6, 2) := by decide +kernel
theorem d_MD_difference_71 : decode b_MD_difference 71 = .ok (.iload 8, 2) := by decide +kernel
theorem d_MD_difference_73 : decode b_MD_difference 73 = .ok (.invokevirtual 177, 3) := by decide +kernel
theorem d_MD_difference_76 : decode b_MD_difference 76 = .ok (.lstore 10, 2) := by decide +kernel
theorem d_MD_difference_78 : decode b_MD_difference 78 = .ok (.aload_n 0, 1) := by decide +kernel
theorem d_MD_difference_79 : decode b_MD_difference 79 = .ok (.aload_n 0, 1) := by decide +kernel
theorem d_MD_difference_80 : decode b_MD_difference 80 = .ok (.getfield 137, 3) := by decide +kernel
theorem d_MD_difference_83 : decode b_MD_difference 83 = .ok (.aload_n 0, 1) := by decide +kernel
theorem d_MD_difference_84 : decode b_MD_difference 84 = .ok (.getfield 141, 3) := by decide +kernel
theorem d_MD_difference_87 : decode b_MD_difference 87 = .ok (.invokevirtual 177, 3) := by decide +kernel
theorem d_MD_difference_90 : decode b_MD_difference 90 = .ok (.lstore 12, 2) := by decide +kernel
theorem d_MD_difference_92 : decode b_MD_difference 92 = .ok (.aload_n 0, 1) := by decide +kernel
theorem d_MD_difference_93 : decode b_MD_difference 93 = .ok (.getfield 38, 3) := by decide +kernel
theorem d_MD_difference_96 : decode b_MD_difference 96 = .ok (.bipush 11, 2) := by decide +kernel
theorem d_MD_difference_98 : decode b_MD_difference 98 = .ok (.iload_n 3, 1) := by decide +kernel
theorem d_MD_difference_99 : decode b_MD_difference 99 = .ok (.iadd, 1) := by decide +kernel
theorem d_MD_difference_100 : decode b_MD_difference 100 = .ok (.iaload, 1) := by decide +kernel
theorem d_MD_difference_101 : decode b_MD_difference 101 = .ok (.istore 14, 2) := by decide +kernel
theorem d_MD_difference_103 : decode b_MD_difference 103 = .ok (.iload 14, 2) := by decide +kernel
theorem d_MD_difference_105 : decode b_MD_difference 105 = .ok (.iconst 1, 1) := by decide +kernel
theorem d_MD_difference_106 : decode b_MD_difference 106 = .ok (.if_icmp .ne 11, 3) := by decide +kernel
theorem d_MD_difference_109 : decode b_MD_difference 109 = .ok (.lload 10, 2) := by decide +kernel
theorem d_MD_difference_111 : decode b_MD_difference 111 = .ok (.lload 12, 2) := by decide +kernel
theorem d_MD_difference_113 : decode b_MD_difference 113 = .ok (.lcmp, 1) := by decide +kernel
theorem d_MD_difference_114 : decode b_MD_difference 114 = .ok (.ifCond .gt 17, 3) := by decide +kernel
theorem d_MD_difference_117 : decode b_MD_difference 117 = .ok (.iload 14, 2) := by decide +kernel
theorem d_MD_difference_119 : decode b_MD_difference 119 = .ok (.iconst (-1), 1) := by decide +kernel
theorem d_MD_difference_120 : decode b_MD_difference 120 = .ok (.if_icmp .ne 15, 3) := by decide +kernel
theorem d_MD_difference_123 : decode b_MD_difference 123 = .ok (.lload 10, 2) := by decide +kernel
theorem d_MD_difference_125 : decode b_MD_difference 125 = .ok (.lload 12, 2) := by decide +kernel
theorem d_MD_difference_127 : decode b_MD_difference 127 = .ok (.lcmp, 1) := by decide +kernel
theorem d_MD_difference_128 : decode b_MD_difference 128 = .ok (.ifCond .ge 7, 3) := by decide +kernel
theorem d_MD_difference_131 : decode b_MD_difference 131 = .ok (.ldc2_w 175, 3) := by decide +kernel
theorem d_MD_difference_134 : decode b_MD_difference 134 = .ok (.lreturn, 1) := by decide +kernel
theorem d_MD_difference_135 : decode b_MD_difference 135 = .ok (.aload_n 0, 1) := by decide +kernel
theorem d_MD_difference_136 : decode b_MD_difference 136 = .ok (.lload 6, 2) := by decide +kernel
theorem d_MD_difference_138 : decode b_MD_difference 138 = .ok (.iload 8, 2) := by decide +kernel
theorem d_MD_difference_140 : decode b_MD_difference 140 = .ok (.invokevirtual 181, 3) := by decide +kernel
theorem d_MD_difference_143 : decode b_MD_difference 143 = .ok (.aload_n 0, 1) := by decide +kernel
theorem d_MD_difference_144 : decode b_MD_difference 144 = .ok (.aload_n 0, 1) := by decide +kernel
theorem d_MD_difference_145 : decode b_MD_difference 145 = .ok (.getfield 137, 3) := by decide +kernel
theorem d_MD_difference_148 : decode b_MD_difference 148 = .ok (.aload_n 0, 1) := by decide +kernel
theorem d_MD_difference_149 : decode b_MD_difference 149 = .ok (.getfield 141, 3) := by decide +kernel
theorem d_MD_difference_152 : decode b_MD_difference 152 = .ok (.invokevirtual 181, 3) := by decide +kernel
theorem d_MD_difference_155 : decode b_MD_difference 155 = .ok (.ladd, 1) := by decide +kernel
theorem d_MD_difference_156 : decode b_MD_difference 156 = .ok (.aload_n 0, 1) := by decide +kernel
theorem d_MD_difference_157 : decode b_MD_difference 157 = .ok (.aload_n 0, 1) := by decide +kernel
theorem d_MD_difference_158 : decode b_MD_difference 158 = .ok (.getfield 75, 3) := by decide +kernel
theorem d_MD_difference_161 : decode b_MD_difference 161 = .ok (.iload_n 1, 1) := by decide +kernel
theorem d_MD_difference_162 : decode b_MD_difference 162 = .ok (.laload, 1) := by decide +kernel
theorem d_MD_difference_163 : decode b_MD_difference 163 = .ok (.aload_n 0, 1) := by decide +kernel
theorem d_MD_difference_164 : decode b_MD_difference 164 = .ok (.getfield 69, 3) := by decide +kernel
theorem d_MD_difference_167 : decode b_MD_difference 167 = .ok (.iload_n 1, 1) := by decide +kernel
theorem d_MD_difference_168 : decode b_MD_difference 168 = .ok (.iaload, 1) := by decide +kernel
theorem d_MD_difference_169 : decode b_MD_difference 169 = .ok (.invokevirtual 181, 3) := by decide +kernel
theorem d_MD_difference_172 : decode b_MD_difference 172 = .ok (.lsub, 1) := by decide +kernel
theorem d_MD_difference_173 : decode b_MD_difference 173 = .ok (.lreturn, 1) := by decide +kernel
theorem d_MD_leafOf_0 : decode b_MD_leafOf 0 = .ok (.iconst 0, 1) := by decide +kernel
theorem d_MD_leafOf_1 : decode b_MD_leafOf 1 = .ok (.istore 6, 2) := by decide +kernel
theorem d_MD_leafOf_3 : decode b_MD_leafOf 3 = .ok (.aload_n 0, 1) := by decide +kernel
theorem d_MD_leafOf_4 : decode b_MD_leafOf 4 = .ok (.getfield 54, 3) := by decide +kernel
theorem d_MD_leafOf_7 : decode b_MD_leafOf 7 = .ok (.bipush 32, 2) := by decide +kernel
theorem d_MD_leafOf_9 : decode b_MD_leafOf 9 = .ok (.iload_n 1, 1) := by decide +kernel
theorem d_MD_leafOf_10 : decode b_MD_leafOf 10 = .ok (.imul, 1) := by decide +kernel
theorem d_MD_leafOf_11 : decode b_MD_leafOf 11 = .ok (.iload 6, 2) := by decide +kernel
theorem d_MD_leafOf_13 : decode b_MD_leafOf 13 = .ok (.iadd, 1) := by decide +kernel
theorem d_MD_leafOf_14 : decode b_MD_leafOf 14 = .ok (.iaload, 1) := by decide +kernel
theorem d_MD_leafOf_15 : decode b_MD_leafOf 15 = .ok (.ifCond .lt 66, 3) := by decide +kernel
theorem d_MD_leafOf_18 : decode b_MD_leafOf 18 = .ok (.bipush 32, 2) := by decide +kernel
theorem d_MD_leafOf_20 : decode b_MD_leafOf 20 = .ok (.iload_n 1, 1) := by decide +kernel
theorem d_MD_leafOf_21 : decode b_MD_leafOf 21 = .ok (.imul, 1) := by decide +kernel
theorem d_MD_leafOf_22 : decode b_MD_leafOf 22 = .ok (.iload 6, 2) := by decide +kernel
theorem d_MD_leafOf_24 : decode b_MD_leafOf 24 = .ok (.iadd, 1) := by decide +kernel
theorem d_MD_leafOf_25 : decode b_MD_leafOf 25 = .ok (.istore 7, 2) := by decide +kernel
theorem d_MD_leafOf_27 : decode b_MD_leafOf 27 = .ok (.aload_n 0, 1) := by decide +kernel
theorem d_MD_leafOf_28 : decode b_MD_leafOf 28 = .ok (.getfield 63, 3) := by decide +kernel
theorem d_MD_leafOf_31 : decode b_MD_leafOf 31 = .ok (.iload 7, 2) := by decide +kernel
theorem d_MD_leafOf_33 : decode b_MD_leafOf 33 = .ok (.iaload, 1) := by decide +kernel
theorem d_MD_leafOf_34 : decode b_MD_leafOf 34 = .ok (.aload_n 0, 1) := by decide +kernel
theorem d_MD_leafOf_35 : decode b_MD_leafOf 35 = .ok (.getfield 54, 3) := by decide +kernel
theorem d_MD_leafOf_38 : decode b_MD_leafOf 38 = .ok (.iload 7, 2) := by decide +kernel
theorem d_MD_leafOf_40 : decode b_MD_leafOf 40 = .ok (.iaload, 1) := by decide +kernel
theorem d_MD_leafOf_41 : decode b_MD_leafOf 41 = .ok (.iload_n 2, 1) := by decide +kernel
theorem d_MD_leafOf_42 : decode b_MD_leafOf 42 = .ok (.iload_n 3, 1) := by decide +kernel
theorem d_MD_leafOf_43 : decode b_MD_leafOf 43 = .ok (.iload 4, 2) := by decide +kernel
theorem d_MD_leafOf_45 : decode b_MD_leafOf 45 = .ok (.iload 5, 2) := by decide +kernel
theorem d_MD_leafOf_47 : decode b_MD_leafOf 47 = .ok (.invokestatic 99, 3) := by decide +kernel
theorem d_MD_leafOf_50 : decode b_MD_leafOf 50 = .ok (.aload_n 0, 1) := by decide +kernel
theorem d_MD_leafOf_51 : decode b_MD_leafOf 51 = .ok (.getfield 57, 3) := by decide +kernel
theorem d_MD_leafOf_54 : decode b_MD_leafOf 54 = .ok (.iload 7, 2) := by decide +kernel
theorem d_MD_leafOf_56 : decode b_MD_leafOf 56 = .ok (.iaload, 1) := by decide +kernel
theorem d_MD_leafOf_57 : decode b_MD_leafOf 57 = .ok (.aload_n 0, 1) := by decide +kernel
theorem d_MD_leafOf_58 : decode b_MD_leafOf 58 = .ok (.getfield 60, 3) := by decide +kernel
theorem d_MD_leafOf_61 : decode b_MD_leafOf 61 = .ok (.iload 7, 2) := by decide +kernel
theorem d_MD_leafOf_63 : decode b_MD_leafOf 63 = .ok (.iaload, 1) := by decide +kernel
theorem d_MD_leafOf_64 : decode b_MD_leafOf 64 = .ok (.invokestatic 147, 3) := by decide +kernel
theorem d_MD_leafOf_67 : decode b_MD_leafOf 67 = .ok (.ifCond .eq 7, 3) := by decide +kernel
theorem d_MD_leafOf_70 : decode b_MD_leafOf 70 = .ok (.iconst 0, 1) := by decide +kernel
theorem d_MD_leafOf_71 : decode b_MD_leafOf 71 = .ok (.goto 4, 3) := by decide +kernel
theorem d_MD_leafOf_74 : decode b_MD_leafOf 74 = .ok (.iconst 1, 1) := by decide +kernel
theorem d_MD_leafOf_75 : decode b_MD_leafOf 75 = .ok (.iadd, 1) := by decide +kernel
theorem d_MD_leafOf_76 : decode b_MD_leafOf 76 = .ok (.istore 6, 2) := by decide +kernel
theorem d_MD_leafOf_78 : decode b_MD_leafOf 78 = .ok (.goto (-75), 3) := by decide +kernel
theorem d_MD_leafOf_81 : decode b_MD_leafOf 81 = .ok (.iload 6, 2) := by decide +kernel
theorem d_MD_leafOf_83 : decode b_MD_leafOf 83 = .ok (.ireturn, 1) := by decide +kernel
theorem d_MD_addOf_0 : decode b_MD_addOf 0 = .ok (.bipush 32, 2) := by decide +kernel
theorem d_MD_addOf_2 : decode b_MD_addOf 2 = .ok (.iload_n 1, 1) := by decide +kernel
theorem d_MD_addOf_3 : decode b_MD_addOf 3 = .ok (.imul, 1) := by decide +kernel
theorem d_MD_addOf_4 : decode b_MD_addOf 4 = .ok (.iload_n 2, 1) := by decide +kernel
theorem d_MD_addOf_5 : decode b_MD_addOf 5 = .ok (.iadd, 1) := by decide +kernel
theorem d_MD_addOf_6 : decode b_MD_addOf 6 = .ok (.istore_n 3, 1) := by decide +kernel
theorem d_MD_addOf_7 : decode b_MD_addOf 7 = .ok (.aload_n 0, 1) := by decide +kernel
theorem d_MD_addOf_8 : decode b_MD_addOf 8 = .ok (.aload_n 0, 1) := by decide +kernel
theorem d_MD_addOf_9 : decode b_MD_addOf 9 = .ok (.getfield 75, 3) := by decide +kernel
theorem d_MD_addOf_12 : decode b_MD_addOf 12 = .ok (.iload_n 3, 1) := by decide +kernel
theorem d_MD_addOf_13 : decode b_MD_addOf 13 = .ok (.laload, 1) := by decide +kernel
theorem d_MD_addOf_14 : decode b_MD_addOf 14 = .ok (.aload_n 0, 1) := by decide +kernel
theorem d_MD_addOf_15 : decode b_MD_addOf 15 = .ok (.getfield 69, 3) := by decide +kernel
theorem d_MD_addOf_18 : decode b_MD_addOf 18 = .ok (.iload_n 3, 1) := by decide +kernel
theorem d_MD_addOf_19 : decode b_MD_addOf 19 = .ok (.iaload, 1) := by decide +kernel
theorem d_MD_addOf_20 : decode b_MD_addOf 20 = .ok (.invokevirtual 177, 3) := by decide +kernel
theorem d_MD_addOf_23 : decode b_MD_addOf 23 = .ok (.aload_n 0, 1) := by decide +kernel
theorem d_MD_addOf_24 : decode b_MD_addOf 24 = .ok (.getfield 38, 3) := by decide +kernel
theorem d_MD_addOf_27 : decode b_MD_addOf 27 = .ok (.iconst 3, 1) := by decide +kernel
theorem d_MD_addOf_28 : decode b_MD_addOf 28 = .ok (.iaload, 1) := by decide +kernel
theorem d_MD_addOf_29 : decode b_MD_addOf 29 = .ok (.i2l, 1) := by decide +kernel
theorem d_MD_addOf_30 : decode b_MD_addOf 30 = .ok (.lmul, 1) := by decide +kernel
theorem d_MD_addOf_31 : decode b_MD_addOf 31 = .ok (.ldc2_w 118, 3) := by decide +kernel
theorem d_MD_addOf_34 : decode b_MD_addOf 34 = .ok (.ldiv, 1) := by decide +kernel
theorem d_MD_addOf_35 : decode b_MD_addOf 35 = .ok (.lreturn, 1) := by decide +kernel
theorem d_MD_isTree_0 : decode b_MD_isTree 0 = .ok (.iload_n 1, 1) := by decide +kernel
theorem d_MD_isTree_1 : decode b_MD_isTree 1 = .ok (.ifCond .lt 15, 3) := by decide +kernel
theorem d_MD_isTree_4 : decode b_MD_isTree 4 = .ok (.iload_n 1, 1) := by decide +kernel
theorem d_MD_isTree_5 : decode b_MD_isTree 5 = .ok (.aload_n 0, 1) := by decide +kernel
theorem d_MD_isTree_6 : decode b_MD_isTree 6 = .ok (.getfield 120, 3) := by decide +kernel
theorem d_MD_isTree_9 : decode b_MD_isTree 9 = .ok (.if_icmp .ge 7, 3) := by decide +kernel
theorem d_MD_isTree_12 : decode b_MD_isTree 12 = .ok (.iconst 1, 1) := by decide +kernel
theorem d_MD_isTree_13 : decode b_MD_isTree 13 = .ok (.goto 4, 3) := by decide +kernel
theorem d_MD_isTree_16 : decode b_MD_isTree 16 = .ok (.iconst 0, 1) := by decide +kernel
theorem d_MD_isTree_17 : decode b_MD_isTree 17 = .ok (.ireturn, 1) := by decide +kernel
theorem d_MD_isNode_0 : decode b_MD_isNode 0 = .ok (.aload_n 0, 1) := by decide +kernel
theorem d_MD_isNode_1 : decode b_MD_isNode 1 = .ok (.iload_n 1, 1) := by decide +kernel
theorem d_MD_isNode_2 : decode b_MD_isNode 2 = .ok (.invokevirtual 184, 3) := by decide +kernel
theorem d_MD_isNode_5 : decode b_MD_isNode 5 = .ok (.ifCond .eq 21, 3) := by decide +kernel
theorem d_MD_isNode_8 : decode b_MD_isNode 8 = .ok (.iload_n 2, 1) := by decide +kernel
theorem d_MD_isNode_9 : decode b_MD_isNode 9 = .ok (.ifCond .lt 17, 3) := by decide +kernel
theorem d_MD_isNode_12 : decode b_MD_isNode 12 = .ok (.iload_n 2, 1) := by decide +kernel
theorem d_MD_isNode_13 : decode b_MD_isNode 13 = .ok (.aload_n 0, 1) := by decide +kernel
theorem d_MD_isNode_14 : decode b_MD_isNode 14 = .ok (.getfield 51, 3) := by decide +kernel
theorem d_MD_isNode_17 : decode b_MD_isNode 17 = .ok (.iload_n 1, 1) := by decide +kernel
theorem d_MD_isNode_18 : decode b_MD_isNode 18 = .ok (.iaload, 1) := by decide +kernel
theorem d_MD_isNode_19 : decode b_MD_isNode 19 = .ok (.if_icmp .ge 7, 3) := by decide +kernel
theorem d_MD_isNode_22 : decode b_MD_isNode 22 = .ok (.iconst 1, 1) := by decide +kernel
theorem d_MD_isNode_23 : decode b_MD_isNode 23 = .ok (.goto 4, 3) := by decide +kernel
theorem d_MD_isNode_26 : decode b_MD_isNode 26 = .ok (.iconst 0, 1) := by decide +kernel
theorem d_MD_isNode_27 : decode b_MD_isNode 27 = .ok (.ireturn, 1) := by decide +kernel
theorem d_MD_node_0 : decode b_MD_node 0 = .ok (.aload_n 0, 1) := by decide +kernel
theorem d_MD_node_1 : decode b_MD_node 1 = .ok (.iload_n 1, 1) := by decide +kernel
theorem d_MD_node_2 : decode b_MD_node 2 = .ok (.iload_n 2, 1) := by decide +kernel
theorem d_MD_node_3 : decode b_MD_node 3 = .ok (.invokevirtual 187, 3) := by decide +kernel
theorem d_MD_node_6 : decode b_MD_node 6 = .ok (.ifCond .ne 6, 3) := by decide +kernel
theorem d_MD_node_9 : decode b_MD_node 9 = .ok (.bipush (-2), 2) := by decide +kernel
theorem d_MD_node_11 : decode b_MD_node 11 = .ok (.ireturn, 1) := by decide +kernel
theorem d_MD_node_12 : decode b_MD_node 12 = .ok (.bipush 32, 2) := by decide +kernel
theorem d_MD_node_14 : decode b_MD_node 14 = .ok (.iload_n 1, 1) := by decide +kernel
theorem d_MD_node_15 : decode b_MD_node 15 = .ok (.imul, 1) := by decide +kernel
theorem d_MD_node_16 : decode b_MD_node 16 = .ok (.iload_n 2, 1) := by decide +kernel
theorem d_MD_node_17 : decode b_MD_node 17 = .ok (.iadd, 1) := by decide +kernel
theorem d_MD_node_18 : decode b_MD_node 18 = .ok (.istore 4, 2) := by decide +kernel
theorem d_MD_node_20 : decode b_MD_node 20 = .ok (.iload_n 3, 1) := by decide +kernel
theorem d_MD_node_21 : decode b_MD_node 21 = .ok (.tableswitch 99 0 6 #[43, 51, 59, 67, 75, 83, 91], 43) := by decide +kernel
theorem d_MD_node_64 : decode b_MD_node 64 = .ok (.aload_n 0, 1) := by decide +kernel
theorem d_MD_node_65 : decode b_MD_node 65 = .ok (.getfield 54, 3) := by decide +kernel
theorem d_MD_node_68 : decode b_MD_node 68 = .ok (.iload 4, 2) := by decide +kernel
theorem d_MD_node_70 : decode b_MD_node 70 = .ok (.iaload, 1) := by decide +kernel
theorem d_MD_node_71 : decode b_MD_node 71 = .ok (.ireturn, 1) := by decide +kernel
theorem d_MD_node_72 : decode b_MD_node 72 = .ok (.aload_n 0, 1) := by decide +kernel
theorem d_MD_node_73 : decode b_MD_node 73 = .ok (.getfield 57, 3) := by decide +kernel
theorem d_MD_node_76 : decode b_MD_node 76 = .ok (.iload 4, 2) := by decide +kernel
theorem d_MD_node_78 : decode b_MD_node 78 = .ok (.iaload, 1) := by decide +kernel
theorem d_MD_node_79 : decode b_MD_node 79 = .ok (.ireturn, 1) := by decide +kernel
theorem d_MD_node_80 : decode b_MD_node 80 = .ok (.aload_n 0, 1) := by decide +kernel
theorem d_MD_node_81 : decode b_MD_node 81 = .ok (.getfield 60, 3) := by decide +kernel
theorem d_MD_node_84 : decode b_MD_node 84 = .ok (.iload 4, 2) := by decide +kernel
theorem d_MD_node_86 : decode b_MD_node 86 = .ok (.iaload, 1) := by decide +kernel
theorem d_MD_node_87 : decode b_MD_node 87 = .ok (.ireturn, 1) := by decide +kernel
theorem d_MD_node_88 : decode b_MD_node 88 = .ok (.aload_n 0, 1) := by decide +kernel
theorem d_MD_node_89 : decode b_MD_node 89 = .ok (.getfield 63, 3) := by decide +kernel
theorem d_MD_node_92 : decode b_MD_node 92 = .ok (.iload 4, 2) := by decide +kernel
theorem d_MD_node_94 : decode b_MD_node 94 = .ok (.iaload, 1) := by decide +kernel
theorem d_MD_node_95 : decode b_MD_node 95 = .ok (.ireturn, 1) := by decide +kernel
theorem d_MD_node_96 : decode b_MD_node 96 = .ok (.aload_n 0, 1) := by decide +kernel
theorem d_MD_node_97 : decode b_MD_node 97 = .ok (.getfield 66, 3) := by decide +kernel
theorem d_MD_node_100 : decode b_MD_node 100 = .ok (.iload 4, 2) := by decide +kernel
theorem d_MD_node_102 : decode b_MD_node 102 = .ok (.iaload, 1) := by decide +kernel
theorem d_MD_node_103 : decode b_MD_node 103 = .ok (.ireturn, 1) := by decide +kernel
theorem d_MD_node_104 : decode b_MD_node 104 = .ok (.aload_n 0, 1) := by decide +kernel
theorem d_MD_node_105 : decode b_MD_node 105 = .ok (.getfield 69, 3) := by decide +kernel
theorem d_MD_node_108 : decode b_MD_node 108 = .ok (.iload 4, 2) := by decide +kernel
theorem d_MD_node_110 : decode b_MD_node 110 = .ok (.iaload, 1) := by decide +kernel
theorem d_MD_node_111 : decode b_MD_node 111 = .ok (.ireturn, 1) := by decide +kernel
theorem d_MD_node_112 : decode b_MD_node 112 = .ok (.aload_n 0, 1) := by decide +kernel
theorem d_MD_node_113 : decode b_MD_node 113 = .ok (.getfield 72, 3) := by decide +kernel
theorem d_MD_node_116 : decode b_MD_node 116 = .ok (.iload 4, 2) := by decide +kernel
theorem d_MD_node_118 : decode b_MD_node 118 = .ok (.iaload, 1) := by decide +kernel
theorem d_MD_node_119 : decode b_MD_node 119 = .ok (.ireturn, 1) := by decide +kernel
theorem d_MD_node_120 : decode b_MD_node 120 = .ok (.bipush (-2), 2) := by decide +kernel
theorem d_MD_node_122 : decode b_MD_node 122 = .ok (.ireturn, 1) := by decide +kernel
theorem d_MD_sum_0 : decode b_MD_sum 0 = .ok (.aload_n 0, 1) := by decide +kernel
theorem d_MD_sum_1 : decode b_MD_sum 1 = .ok (.iload_n 1, 1) := by decide +kernel
theorem d_MD_sum_2 : decode b_MD_sum 2 = .ok (.iload_n 2, 1) := by decide +kernel
theorem d_MD_sum_3 : decode b_MD_sum 3 = .ok (.invokevirtual 187, 3) := by decide +kernel
theorem d_MD_sum_6 : decode b_MD_sum 6 = .ok (.ifCond .ne 5, 3) := by decide +kernel
theorem d_MD_sum_9 : decode b_MD_sum 9 = .ok (.lconst 0, 1) := by decide +kernel
theorem d_MD_sum_10 : decode b_MD_sum 10 = .ok (.lreturn, 1) := by decide +kernel
theorem d_MD_sum_11 : decode b_MD_sum 11 = .ok (.bipush 32, 2) := by decide +kernel
theorem d_MD_sum_13 : decode b_MD_sum 13 = .ok (.iload_n 1, 1) := by decide +kernel
theorem d_MD_sum_14 : decode b_MD_sum 14 = .ok (.imul, 1) := by decide +kernel
theorem d_MD_sum_15 : decode b_MD_sum 15 = .ok (.iload_n 2, 1) := by decide +kernel
theorem d_MD_sum_16 : decode b_MD_sum 16 = .ok (.iadd, 1) := by decide +kernel
theorem d_MD_sum_17 : decode b_MD_sum 17 = .ok (.istore 4, 2) := by decide +kernel
theorem d_MD_sum_19 : decode b_MD_sum 19 = .ok (.iload_n 3, 1) := by decide +kernel
theorem d_MD_sum_20 : decode b_MD_sum 20 = .ok (.ifCond .ne 13, 3) := by decide +kernel
theorem d_MD_sum_23 : decode b_MD_sum 23 = .ok (.aload_n 0, 1) := by decide +kernel
theorem d_MD_sum_24 : decode b_MD_sum 24 = .ok (.getfield 75, 3) := by decide +kernel
theorem d_MD_sum_27 : decode b_MD_sum 27 = .ok (.iload 4, 2) := by decide +kernel
theorem d_MD_sum_29 : decode b_MD_sum 29 = .ok (.laload, 1) := by decide +kernel
theorem d_MD_sum_30 : decode b_MD_sum 30 = .ok (.goto 45, 3) := by decide +kernel
theorem d_MD_sum_33 : decode b_MD_sum 33 = .ok (.iload_n 3, 1) := by decide +kernel
theorem d_MD_sum_34 : decode b_MD_sum 34 = .ok (.iconst 1, 1) := by decide +kernel
theorem d_MD_sum_35 : decode b_MD_sum 35 = .ok (.if_icmp .ne 24, 3) := by decide +kernel
theorem d_MD_sum_38 : decode b_MD_sum 38 = .ok (.aload_n 0, 1) := by decide +kernel
theorem d_MD_sum_39 : decode b_MD_sum 39 = .ok (.aload_n 0, 1) := by decide +kernel
theorem d_MD_sum_40 : decode b_MD_sum 40 = .ok (.getfield 75, 3) := by decide +kernel
theorem d_MD_sum_43 : decode b_MD_sum 43 = .ok (.iload 4, 2) := by decide +kernel
theorem d_MD_sum_45 : decode b_MD_sum 45 = .ok (.laload, 1) := by decide +kernel
theorem d_MD_sum_46 : decode b_MD_sum 46 = .ok (.aload_n 0, 1) := by decide +kernel
theorem d_MD_sum_47 : decode b_MD_sum 47 = .ok (.getfield 69, 3) := by decide +kernel
theorem d_MD_sum_50 : decode b_MD_sum 50 = .ok (.iload 4, 2) := by decide +kernel
theorem d_MD_sum_52 : decode b_MD_sum 52 = .ok (.iaload, 1) := by decide +kernel
theorem d_MD_sum_53 : decode b_MD_sum 53 = .ok (.invokevirtual 177, 3) := by decide +kernel
theorem d_MD_sum_56 : decode b_MD_sum 56 = .ok (.goto 19, 3) := by decide +kernel
theorem d_MD_sum_59 : decode b_MD_sum 59 = .ok (.iload_n 3, 1) := by decide +kernel
theorem d_MD_sum_60 : decode b_MD_sum 60 = .ok (.iconst 2, 1) := by decide +kernel
theorem d_MD_sum_61 : decode b_MD_sum 61 = .ok (.if_icmp .ne 13, 3) := by decide +kernel
theorem d_MD_sum_64 : decode b_MD_sum 64 = .ok (.aload_n 0, 1) := by decide +kernel
theorem d_MD_sum_65 : decode b_MD_sum 65 = .ok (.getfield 78, 3) := by decide +kernel
theorem d_MD_sum_68 : decode b_MD_sum 68 = .ok (.iload 4, 2) := by decide +kernel
theorem d_MD_sum_70 : decode b_MD_sum 70 = .ok (.laload, 1) := by decide +kernel
theorem d_MD_sum_71 : decode b_MD_sum 71 = .ok (.goto 4, 3) := by decide +kernel
theorem d_MD_sum_74 : decode b_MD_sum 74 = .ok (.lconst 0, 1) := by decide +kernel
theorem d_MD_sum_75 : decode b_MD_sum 75 = .ok (.lreturn, 1) := by decide +kernel
theorem d_MD_size_0 : decode b_MD_size 0 = .ok (.aload_n 0, 1) := by decide +kernel
theorem d_MD_size_1 : decode b_MD_size 1 = .ok (.iload_n 1, 1) := by decide +kernel
theorem d_MD_size_2 : decode b_MD_size 2 = .ok (.invokevirtual 184, 3) := by decide +kernel
theorem d_MD_size_5 : decode b_MD_size 5 = .ok (.ifCond .eq 12, 3) := by decide +kernel
theorem d_MD_size_8 : decode b_MD_size 8 = .ok (.aload_n 0, 1) := by decide +kernel
theorem d_MD_size_9 : decode b_MD_size 9 = .ok (.getfield 51, 3) := by decide +kernel
theorem d_MD_size_12 : decode b_MD_size 12 = .ok (.iload_n 1, 1) := by decide +kernel
theorem d_MD_size_13 : decode b_MD_size 13 = .ok (.iaload, 1) := by decide +kernel
theorem d_MD_size_14 : decode b_MD_size 14 = .ok (.goto 5, 3) := by decide +kernel
theorem d_MD_size_17 : decode b_MD_size 17 = .ok (.bipush (-2), 2) := by decide +kernel
theorem d_MD_size_19 : decode b_MD_size 19 = .ok (.ireturn, 1) := by decide +kernel
theorem d_MD_leaf_0 : decode b_MD_leaf 0 = .ok (.aload_n 0, 1) := by decide +kernel
theorem d_MD_leaf_1 : decode b_MD_leaf 1 = .ok (.iload_n 1, 1) := by decide +kernel
theorem d_MD_leaf_2 : decode b_MD_leaf 2 = .ok (.invokevirtual 184, 3) := by decide +kernel
theorem d_MD_leaf_5 : decode b_MD_leaf 5 = .ok (.ifCond .eq 29, 3) := by decide +kernel
theorem d_MD_leaf_8 : decode b_MD_leaf 8 = .ok (.iload_n 2, 1) := by decide +kernel
theorem d_MD_leaf_9 : decode b_MD_leaf 9 = .ok (.iload_n 3, 1) := by decide +kernel
theorem d_MD_leaf_10 : decode b_MD_leaf 10 = .ok (.iload 4, 2) := by decide +kernel
theorem d_MD_leaf_12 : decode b_MD_leaf 12 = .ok (.iload 5, 2) := by decide +kernel
theorem d_MD_leaf_14 : decode b_MD_leaf 14 = .ok (.invokestatic 91, 3) := by decide +kernel
theorem d_MD_leaf_17 : decode b_MD_leaf 17 = .ok (.ifCond .eq 17, 3) := by decide +kernel
theorem d_MD_leaf_20 : decode b_MD_leaf 20 = .ok (.aload_n 0, 1) := by decide +kernel
theorem d_MD_leaf_21 : decode b_MD_leaf 21 = .ok (.iload_n 1, 1) := by decide +kernel
theorem d_MD_leaf_22 : decode b_MD_leaf 22 = .ok (.iload_n 2, 1) := by decide +kernel
theorem d_MD_leaf_23 : decode b_MD_leaf 23 = .ok (.iload_n 3, 1) := by decide +kernel
theorem d_MD_leaf_24 : decode b_MD_leaf 24 = .ok (.iload 4, 2) := by decide +kernel
theorem d_MD_leaf_26 : decode b_MD_leaf 26 = .ok (.iload 5, 2) := by decide +kernel
theorem d_MD_leaf_28 : decode b_MD_leaf 28 = .ok (.invokevirtual 130, 3) := by decide +kernel
theorem d_MD_leaf_31 : decode b_MD_leaf 31 = .ok (.goto 5, 3) := by decide +kernel
theorem d_MD_leaf_34 : decode b_MD_leaf 34 = .ok (.bipush (-2), 2) := by decide +kernel
theorem d_MD_leaf_36 : decode b_MD_leaf 36 = .ok (.ireturn, 1) := by decide +kernel
theorem d_MD_answer_0 : decode b_MD_answer 0 = .ok (.iload_n 1, 1) := by decide +kernel
theorem d_MD_answer_1 : decode b_MD_answer 1 = .ok (.ifCond .lt 23, 3) := by decide +kernel
theorem d_MD_answer_4 : decode b_MD_answer 4 = .ok (.iload_n 1, 1) := by decide +kernel
theorem d_MD_answer_5 : decode b_MD_answer 5 = .ok (.aload_n 0, 1) := by decide +kernel
theorem d_MD_answer_6 : decode b_MD_answer 6 = .ok (.getfield 120, 3) := by decide +kernel
theorem d_MD_answer_9 : decode b_MD_answer 9 = .ok (.if_icmp .gt 15, 3) := by decide +kernel
theorem d_MD_answer_12 : decode b_MD_answer 12 = .ok (.iload_n 2, 1) := by decide +kernel
theorem d_MD_answer_13 : decode b_MD_answer 13 = .ok (.iload_n 3, 1) := by decide +kernel
theorem d_MD_answer_14 : decode b_MD_answer 14 = .ok (.iload 4, 2) := by decide +kernel
theorem d_MD_answer_16 : decode b_MD_answer 16 = .ok (.iload 5, 2) := by decide +kernel
theorem d_MD_answer_18 : decode b_MD_answer 18 = .ok (.invokestatic 91, 3) := by decide +kernel
theorem d_MD_answer_21 : decode b_MD_answer 21 = .ok (.ifCond .ne 5, 3) := by decide +kernel
theorem d_MD_answer_24 : decode b_MD_answer 24 = .ok (.lconst 0, 1) := by decide +kernel
theorem d_MD_answer_25 : decode b_MD_answer 25 = .ok (.lreturn, 1) := by decide +kernel
theorem d_MD_answer_26 : decode b_MD_answer 26 = .ok (.ldc2_w 118, 3) := by decide +kernel
theorem d_MD_answer_29 : decode b_MD_answer 29 = .ok (.aload_n 0, 1) := by decide +kernel
theorem d_MD_answer_30 : decode b_MD_answer 30 = .ok (.getfield 38, 3) := by decide +kernel
theorem d_MD_answer_33 : decode b_MD_answer 33 = .ok (.bipush 9, 2) := by decide +kernel
theorem d_MD_answer_35 : decode b_MD_answer 35 = .ok (.iaload, 1) := by decide +kernel
theorem d_MD_answer_36 : decode b_MD_answer 36 = .ok (.i2l, 1) := by decide +kernel
theorem d_MD_answer_37 : decode b_MD_answer 37 = .ok (.lmul, 1) := by decide +kernel
theorem d_MD_answer_38 : decode b_MD_answer 38 = .ok (.lstore 6, 2) := by decide +kernel
theorem d_MD_answer_40 : decode b_MD_answer 40 = .ok (.iconst 0, 1) := by decide +kernel
theorem d_MD_answer_41 : decode b_MD_answer 41 = .ok (.istore 8, 2) := by decide +kernel
theorem d_MD_answer_43 : decode b_MD_answer 43 = .ok (.iload 8, 2) := by decide +kernel
theorem d_MD_answer_45 : decode b_MD_answer 45 = .ok (.iload_n 1, 1) := by decide +kernel
theorem d_MD_answer_46 : decode b_MD_answer 46 = .ok (.if_icmp .ge 32, 3) := by decide +kernel
theorem d_MD_answer_49 : decode b_MD_answer 49 = .ok (.lload 6, 2) := by decide +kernel
theorem d_MD_answer_51 : decode b_MD_answer 51 = .ok (.aload_n 0, 1) := by decide +kernel
theorem d_MD_answer_52 : decode b_MD_answer 52 = .ok (.iload 8, 2) := by decide +kernel
theorem d_MD_answer_54 : decode b_MD_answer 54 = .ok (.aload_n 0, 1) := by decide +kernel
theorem d_MD_answer_55 : decode b_MD_answer 55 = .ok (.iload 8, 2) := by decide +kernel
theorem d_MD_answer_57 : decode b_MD_answer 57 = .ok (.iload_n 2, 1) := by decide +kernel
theorem d_MD_answer_58 : decode b_MD_answer 58 = .ok (.iload_n 3, 1) := by decide +kernel
theorem d_MD_answer_59 : decode b_MD_answer 59 = .ok (.iload 4, 2) := by decide +kernel
theorem d_MD_answer_61 : decode b_MD_answer 61 = .ok (.iload 5, 2) := by decide +kernel
theorem d_MD_answer_63 : decode b_MD_answer 63 = .ok (.invokevirtual 130, 3) := by decide +kernel
theorem d_MD_answer_66 : decode b_MD_answer 66 = .ok (.invokevirtual 133, 3) := by decide +kernel
theorem d_MD_answer_69 : decode b_MD_answer 69 = .ok (.ladd, 1) := by decide +kernel
theorem d_MD_answer_70 : decode b_MD_answer 70 = .ok (.lstore 6, 2) := by decide +kernel
theorem d_MD_answer_72 : decode b_MD_answer 72 = .ok (.iinc 8 1, 3) := by decide +kernel
theorem d_MD_answer_75 : decode b_MD_answer 75 = .ok (.goto (-32), 3) := by decide +kernel
theorem d_MD_answer_78 : decode b_MD_answer 78 = .ok (.lload 6, 2) := by decide +kernel
theorem d_MD_answer_80 : decode b_MD_answer 80 = .ok (.lreturn, 1) := by decide +kernel
theorem d_MD_loss_0 : decode b_MD_loss 0 = .ok (.aload_n 0, 1) := by decide +kernel
theorem d_MD_loss_1 : decode b_MD_loss 1 = .ok (.getfield 111, 3) := by decide +kernel
theorem d_MD_loss_4 : decode b_MD_loss 4 = .ok (.ifCond .eq 24, 3) := by decide +kernel
theorem d_MD_loss_7 : decode b_MD_loss 7 = .ok (.iload_n 1, 1) := by decide +kernel
theorem d_MD_loss_8 : decode b_MD_loss 8 = .ok (.ifCond .lt 20, 3) := by decide +kernel
theorem d_MD_loss_11 : decode b_MD_loss 11 = .ok (.iload_n 1, 1) := by decide +kernel
theorem d_MD_loss_12 : decode b_MD_loss 12 = .ok (.aload_n 0, 1) := by decide +kernel
theorem d_MD_loss_13 : decode b_MD_loss 13 = .ok (.getfield 120, 3) := by decide +kernel
theorem d_MD_loss_16 : decode b_MD_loss 16 = .ok (.if_icmp .gt 12, 3) := by decide +kernel
theorem d_MD_loss_19 : decode b_MD_loss 19 = .ok (.iload_n 2, 1) := by decide +kernel
theorem d_MD_loss_20 : decode b_MD_loss 20 = .ok (.ifCond .lt 8, 3) := by decide +kernel
theorem d_MD_loss_23 : decode b_MD_loss 23 = .ok (.iload_n 2, 1) := by decide +kernel
theorem d_MD_loss_24 : decode b_MD_loss 24 = .ok (.iconst 1, 1) := by decide +kernel
theorem d_MD_loss_25 : decode b_MD_loss 25 = .ok (.if_icmp .le 9, 3) := by decide +kernel
theorem d_MD_loss_28 : decode b_MD_loss 28 = .ok (.ldc2_w 190, 3) := by decide +kernel
theorem d_MD_loss_31 : decode b_MD_loss 31 = .ok (.goto 14, 3) := by decide +kernel
theorem d_MD_loss_34 : decode b_MD_loss 34 = .ok (.aload_n 0, 1) := by decide +kernel
theorem d_MD_loss_35 : decode b_MD_loss 35 = .ok (.getfield 45, 3) := by decide +kernel
theorem d_MD_loss_38 : decode b_MD_loss 38 = .ok (.bipush 13, 2) := by decide +kernel
theorem d_MD_loss_40 : decode b_MD_loss 40 = .ok (.iload_n 2, 1) := by decide +kernel
theorem d_MD_loss_41 : decode b_MD_loss 41 = .ok (.imul, 1) := by decide +kernel
theorem d_MD_loss_42 : decode b_MD_loss 42 = .ok (.iload_n 1, 1) := by decide +kernel
theorem d_MD_loss_43 : decode b_MD_loss 43 = .ok (.iadd, 1) := by decide +kernel
theorem d_MD_loss_44 : decode b_MD_loss 44 = .ok (.laload, 1) := by decide +kernel
theorem d_MD_loss_45 : decode b_MD_loss 45 = .ok (.lreturn, 1) := by decide +kernel
theorem d_MD_best_0 : decode b_MD_best 0 = .ok (.aload_n 0, 1) := by decide +kernel
theorem d_MD_best_1 : decode b_MD_best 1 = .ok (.getfield 111, 3) := by decide +kernel
theorem d_MD_best_4 : decode b_MD_best 4 = .ok (.ifCond .ne 6, 3) := by decide +kernel
theorem d_MD_best_7 : decode b_MD_best 7 = .ok (.bipush (-2), 2) := by decide +kernel
theorem d_MD_best_9 : decode b_MD_best 9 = .ok (.ireturn, 1) := by decide +kernel
theorem d_MD_best_10 : decode b_MD_best 10 = .ok (.iconst 0, 1) := by decide +kernel
theorem d_MD_best_11 : decode b_MD_best 11 = .ok (.istore_n 1, 1) := by decide +kernel
theorem d_MD_best_12 : decode b_MD_best 12 = .ok (.iconst 0, 1) := by decide +kernel
theorem d_MD_best_13 : decode b_MD_best 13 = .ok (.istore_n 2, 1) := by decide +kernel
theorem d_MD_best_14 : decode b_MD_best 14 = .ok (.iload_n 2, 1) := by decide +kernel
theorem d_MD_best_15 : decode b_MD_best 15 = .ok (.aload_n 0, 1) := by decide +kernel
theorem d_MD_best_16 : decode b_MD_best 16 = .ok (.getfield 115, 3) := by decide +kernel
theorem d_MD_best_19 : decode b_MD_best 19 = .ok (.if_icmp .ge 28, 3) := by decide +kernel
theorem d_MD_best_22 : decode b_MD_best 22 = .ok (.iload_n 1, 1) := by decide +kernel
theorem d_MD_best_23 : decode b_MD_best 23 = .ok (.ifCond .ne 12, 3) := by decide +kernel
theorem d_MD_best_26 : decode b_MD_best 26 = .ok (.aload_n 0, 1) := by decide +kernel
theorem d_MD_best_27 : decode b_MD_best 27 = .ok (.getfield 35, 3) := by decide +kernel
theorem d_MD_best_30 : decode b_MD_best 30 = .ok (.iload_n 2, 1) := by decide +kernel
theorem d_MD_best_31 : decode b_MD_best 31 = .ok (.baload, 1) := by decide +kernel
theorem d_MD_best_32 : decode b_MD_best 32 = .ok (.ifCond .eq 7, 3) := by decide +kernel
theorem d_MD_best_35 : decode b_MD_best 35 = .ok (.iconst 1, 1) := by decide +kernel
theorem d_MD_best_36 : decode b_MD_best 36 = .ok (.goto 4, 3) := by decide +kernel
theorem d_MD_best_39 : decode b_MD_best 39 = .ok (.iconst 0, 1) := by decide +kernel
theorem d_MD_best_40 : decode b_MD_best 40 = .ok (.istore_n 1, 1) := by decide +kernel
theorem d_MD_best_41 : decode b_MD_best 41 = .ok (.iinc 2 1, 3) := by decide +kernel
theorem d_MD_best_44 : decode b_MD_best 44 = .ok (.goto (-30), 3) := by decide +kernel
theorem d_MD_best_47 : decode b_MD_best 47 = .ok (.iload_n 1, 1) := by decide +kernel
theorem d_MD_best_48 : decode b_MD_best 48 = .ok (.ifCond .eq 7, 3) := by decide +kernel
theorem d_MD_best_51 : decode b_MD_best 51 = .ok (.iconst 0, 1) := by decide +kernel
theorem d_MD_best_52 : decode b_MD_best 52 = .ok (.goto 7, 3) := by decide +kernel
theorem d_MD_best_55 : decode b_MD_best 55 = .ok (.aload_n 0, 1) := by decide +kernel
theorem d_MD_best_56 : decode b_MD_best 56 = .ok (.getfield 120, 3) := by decide +kernel
theorem d_MD_best_59 : decode b_MD_best 59 = .ok (.istore_n 2, 1) := by decide +kernel
theorem d_MD_best_60 : decode b_MD_best 60 = .ok (.iconst 0, 1) := by decide +kernel
theorem d_MD_best_61 : decode b_MD_best 61 = .ok (.istore_n 3, 1) := by decide +kernel
theorem d_MD_best_62 : decode b_MD_best 62 = .ok (.iload_n 3, 1) := by decide +kernel
theorem d_MD_best_63 : decode b_MD_best 63 = .ok (.aload_n 0, 1) := by decide +kernel
theorem d_MD_best_64 : decode b_MD_best 64 = .ok (.getfield 120, 3) := by decide +kernel
theorem d_MD_best_67 : decode b_MD_best 67 = .ok (.if_icmp .gt 41, 3) := by decide +kernel
theorem d_MD_best_70 : decode b_MD_best 70 = .ok (.iload_n 1, 1) := by decide +kernel
theorem d_MD_best_71 : decode b_MD_best 71 = .ok (.ifCond .eq 37, 3) := by decide +kernel
theorem d_MD_best_74 : decode b_MD_best 74 = .ok (.aload_n 0, 1) := by decide +kernel
theorem d_MD_best_75 : decode b_MD_best 75 = .ok (.getfield 45, 3) := by decide +kernel
theorem d_MD_best_78 : decode b_MD_best 78 = .ok (.bipush 13, 2) := by decide +kernel
theorem d_MD_best_80 : decode b_MD_best 80 = .ok (.iload_n 3, 1) := by decide +kernel
theorem d_MD_best_81 : decode b_MD_best 81 = .ok (.iadd, 1) := by decide +kernel
theorem d_MD_best_82 : decode b_MD_best 82 = .ok (.laload, 1) := by decide +kernel
theorem d_MD_best_83 : decode b_MD_best 83 = .ok (.aload_n 0, 1) := by decide +kernel
theorem d_MD_best_84 : decode b_MD_best 84 = .ok (.getfield 45, 3) := by decide +kernel
theorem d_MD_best_87 : decode b_MD_best 87 = .ok (.bipush 13, 2) := by decide +kernel
theorem d_MD_best_89 : decode b_MD_best 89 = .ok (.iload_n 2, 1) := by decide +kernel
theorem d_MD_best_90 : decode b_MD_best 90 = .ok (.iadd, 1) := by decide +kernel
theorem d_MD_best_91 : decode b_MD_best 91 = .ok (.laload, 1) := by decide +kernel
theorem d_MD_best_92 : decode b_MD_best 92 = .ok (.lcmp, 1) := by decide +kernel
theorem d_MD_best_93 : decode b_MD_best 93 = .ok (.ifCond .ge 7, 3) := by decide +kernel
theorem d_MD_best_96 : decode b_MD_best 96 = .ok (.iload_n 3, 1) := by decide +kernel
theorem d_MD_best_97 : decode b_MD_best 97 = .ok (.goto 4, 3) := by decide +kernel
theorem d_MD_best_100 : decode b_MD_best 100 = .ok (.iload_n 2, 1) := by decide +kernel
theorem d_MD_best_101 : decode b_MD_best 101 = .ok (.istore_n 2, 1) := by decide +kernel
theorem d_MD_best_102 : decode b_MD_best 102 = .ok (.iinc 3 1, 3) := by decide +kernel
theorem d_MD_best_105 : decode b_MD_best 105 = .ok (.goto (-43), 3) := by decide +kernel
theorem d_MD_best_108 : decode b_MD_best 108 = .ok (.iload_n 2, 1) := by decide +kernel
theorem d_MD_best_109 : decode b_MD_best 109 = .ok (.ireturn, 1) := by decide +kernel
theorem d_MD_without_0 : decode b_MD_without 0 = .ok (.aload_n 0, 1) := by decide +kernel
theorem d_MD_without_1 : decode b_MD_without 1 = .ok (.getfield 111, 3) := by decide +kernel
theorem d_MD_without_4 : decode b_MD_without 4 = .ok (.ifCond .eq 15, 3) := by decide +kernel
theorem d_MD_without_7 : decode b_MD_without 7 = .ok (.iload_n 1, 1) := by decide +kernel
theorem d_MD_without_8 : decode b_MD_without 8 = .ok (.ifCond .lt 11, 3) := by decide +kernel
theorem d_MD_without_11 : decode b_MD_without 11 = .ok (.iload_n 1, 1) := by decide +kernel
theorem d_MD_without_12 : decode b_MD_without 12 = .ok (.aload_n 0, 1) := by decide +kernel
theorem d_MD_without_13 : decode b_MD_without 13 = .ok (.getfield 115, 3) := by decide +kernel
theorem d_MD_without_16 : decode b_MD_without 16 = .ok (.if_icmp .lt 5, 3) := by decide +kernel
theorem d_MD_without_19 : decode b_MD_without 19 = .ok (.lconst 0, 1) := by decide +kernel
theorem d_MD_without_20 : decode b_MD_without 20 = .ok (.lreturn, 1) := by decide +kernel
theorem d_MD_without_21 : decode b_MD_without 21 = .ok (.ldc2_w 118, 3) := by decide +kernel
theorem d_MD_without_24 : decode b_MD_without 24 = .ok (.aload_n 0, 1) := by decide +kernel
theorem d_MD_without_25 : decode b_MD_without 25 = .ok (.getfield 38, 3) := by decide +kernel
theorem d_MD_without_28 : decode b_MD_without 28 = .ok (.bipush 9, 2) := by decide +kernel
theorem d_MD_without_30 : decode b_MD_without 30 = .ok (.iaload, 1) := by decide +kernel
theorem d_MD_without_31 : decode b_MD_without 31 = .ok (.i2l, 1) := by decide +kernel
theorem d_MD_without_32 : decode b_MD_without 32 = .ok (.lmul, 1) := by decide +kernel
theorem d_MD_without_33 : decode b_MD_without 33 = .ok (.lstore_n 2, 1) := by decide +kernel
theorem d_MD_without_34 : decode b_MD_without 34 = .ok (.iconst 0, 1) := by decide +kernel
theorem d_MD_without_35 : decode b_MD_without 35 = .ok (.istore 4, 2) := by decide +kernel
theorem d_MD_without_37 : decode b_MD_without 37 = .ok (.iload 4, 2) := by decide +kernel
theorem d_MD_without_39 : decode b_MD_without 39 = .ok (.aload_n 0, 1) := by decide +kernel
theorem d_MD_without_40 : decode b_MD_without 40 = .ok (.getfield 120, 3) := by decide +kernel
theorem d_MD_without_43 : decode b_MD_without 43 = .ok (.if_icmp .ge 81, 3) := by decide +kernel
theorem d_MD_without_46 : decode b_MD_without 46 = .ok (.lload_n 2, 1) := by decide +kernel
theorem d_MD_without_47 : decode b_MD_without 47 = .ok (.aload_n 0, 1) := by decide +kernel
theorem d_MD_without_48 : decode b_MD_without 48 = .ok (.getfield 48, 3) := by decide +kernel
theorem d_MD_without_51 : decode b_MD_without 51 = .ok (.bipush 40, 2) := by decide +kernel
theorem d_MD_without_53 : decode b_MD_without 53 = .ok (.iload 4, 2) := by decide +kernel
theorem d_MD_without_55 : decode b_MD_without 55 = .ok (.imul, 1) := by decide +kernel
theorem d_MD_without_56 : decode b_MD_without 56 = .ok (.iload_n 1, 1) := by decide +kernel
theorem d_MD_without_57 : decode b_MD_without 57 = .ok (.iadd, 1) := by decide +kernel
theorem d_MD_without_58 : decode b_MD_without 58 = .ok (.baload, 1) := by decide +kernel
theorem d_MD_without_59 : decode b_MD_without 59 = .ok (.ifCond .eq 7, 3) := by decide +kernel
theorem d_MD_without_62 : decode b_MD_without 62 = .ok (.lconst 0, 1) := by decide +kernel
theorem d_MD_without_63 : decode b_MD_without 63 = .ok (.goto 53, 3) := by decide +kernel
theorem d_MD_without_66 : decode b_MD_without 66 = .ok (.aload_n 0, 1) := by decide +kernel
theorem d_MD_without_67 : decode b_MD_without 67 = .ok (.iload 4, 2) := by decide +kernel
theorem d_MD_without_69 : decode b_MD_without 69 = .ok (.aload_n 0, 1) := by decide +kernel
theorem d_MD_without_70 : decode b_MD_without 70 = .ok (.iload 4, 2) := by decide +kernel
theorem d_MD_without_72 : decode b_MD_without 72 = .ok (.aload_n 0, 1) := by decide +kernel
theorem d_MD_without_73 : decode b_MD_without 73 = .ok (.getfield 26, 3) := by decide +kernel
theorem d_MD_without_76 : decode b_MD_without 76 = .ok (.iconst 4, 1) := by decide +kernel
theorem d_MD_without_77 : decode b_MD_without 77 = .ok (.iload_n 1, 1) := by decide +kernel
theorem d_MD_without_78 : decode b_MD_without 78 = .ok (.imul, 1) := by decide +kernel
theorem d_MD_without_79 : decode b_MD_without 79 = .ok (.iaload, 1) := by decide +kernel
theorem d_MD_without_80 : decode b_MD_without 80 = .ok (.aload_n 0, 1) := by decide +kernel
theorem d_MD_without_81 : decode b_MD_without 81 = .ok (.getfield 26, 3) := by decide +kernel
theorem d_MD_without_84 : decode b_MD_without 84 = .ok (.iconst 4, 1) := by decide +kernel
theorem d_MD_without_85 : decode b_MD_without 85 = .ok (.iload_n 1, 1) := by decide +kernel
theorem d_MD_without_86 : decode b_MD_without 86 = .ok (.imul, 1) := by decide +kernel
theorem d_MD_without_87 : decode b_MD_without 87 = .ok (.iconst 1, 1) := by decide +kernel
theorem d_MD_without_88 : decode b_MD_without 88 = .ok (.iadd, 1) := by decide +kernel
theorem d_MD_without_89 : decode b_MD_without 89 = .ok (.iaload, 1) := by decide +kernel
theorem d_MD_without_90 : decode b_MD_without 90 = .ok (.aload_n 0, 1) := by decide +kernel
theorem d_MD_without_91 : decode b_MD_without 91 = .ok (.getfield 26, 3) := by decide +kernel
theorem d_MD_without_94 : decode b_MD_without 94 = .ok (.iconst 4, 1) := by decide +kernel
theorem d_MD_without_95 : decode b_MD_without 95 = .ok (.iload_n 1, 1) := by decide +kernel
theorem d_MD_without_96 : decode b_MD_without 96 = .ok (.imul, 1) := by decide +kernel
theorem d_MD_without_97 : decode b_MD_without 97 = .ok (.iconst 2, 1) := by decide +kernel
theorem d_MD_without_98 : decode b_MD_without 98 = .ok (.iadd, 1) := by decide +kernel
theorem d_MD_without_99 : decode b_MD_without 99 = .ok (.iaload, 1) := by decide +kernel
theorem d_MD_without_100 : decode b_MD_without 100 = .ok (.aload_n 0, 1) := by decide +kernel
theorem d_MD_without_101 : decode b_MD_without 101 = .ok (.getfield 26, 3) := by decide +kernel
theorem d_MD_without_104 : decode b_MD_without 104 = .ok (.iconst 4, 1) := by decide +kernel
theorem d_MD_without_105 : decode b_MD_without 105 = .ok (.iload_n 1, 1) := by decide +kernel
theorem d_MD_without_106 : decode b_MD_without 106 = .ok (.imul, 1) := by decide +kernel
theorem d_MD_without_107 : decode b_MD_without 107 = .ok (.iconst 3, 1) := by decide +kernel
theorem d_MD_without_108 : decode b_MD_without 108 = .ok (.iadd, 1) := by decide +kernel
theorem d_MD_without_109 : decode b_MD_without 109 = .ok (.iaload, 1) := by decide +kernel
theorem d_MD_without_110 : decode b_MD_without 110 = .ok (.invokevirtual 130, 3) := by decide +kernel
theorem d_MD_without_113 : decode b_MD_without 113 = .ok (.invokevirtual 133, 3) := by decide +kernel
theorem d_MD_without_116 : decode b_MD_without 116 = .ok (.ladd, 1) := by decide +kernel
theorem d_MD_without_117 : decode b_MD_without 117 = .ok (.lstore_n 2, 1) := by decide +kernel
theorem d_MD_without_118 : decode b_MD_without 118 = .ok (.iinc 4 1, 3) := by decide +kernel
theorem d_MD_without_121 : decode b_MD_without 121 = .ok (.goto (-84), 3) := by decide +kernel
theorem d_MD_without_124 : decode b_MD_without 124 = .ok (.lload_n 2, 1) := by decide +kernel
theorem d_MD_without_125 : decode b_MD_without 125 = .ok (.lreturn, 1) := by decide +kernel
theorem d_MD_took_0 : decode b_MD_took 0 = .ok (.aload_n 0, 1) := by decide +kernel
theorem d_MD_took_1 : decode b_MD_took 1 = .ok (.getfield 111, 3) := by decide +kernel
theorem d_MD_took_4 : decode b_MD_took 4 = .ok (.ifCond .eq 15, 3) := by decide +kernel
theorem d_MD_took_7 : decode b_MD_took 7 = .ok (.iload_n 1, 1) := by decide +kernel
theorem d_MD_took_8 : decode b_MD_took 8 = .ok (.ifCond .lt 11, 3) := by decide +kernel
theorem d_MD_took_11 : decode b_MD_took 11 = .ok (.iload_n 1, 1) := by decide +kernel
theorem d_MD_took_12 : decode b_MD_took 12 = .ok (.aload_n 0, 1) := by decide +kernel
theorem d_MD_took_13 : decode b_MD_took 13 = .ok (.getfield 115, 3) := by decide +kernel
theorem d_MD_took_16 : decode b_MD_took 16 = .ok (.if_icmp .lt 6, 3) := by decide +kernel
theorem d_MD_took_19 : decode b_MD_took 19 = .ok (.bipush (-2), 2) := by decide +kernel
theorem d_MD_took_21 : decode b_MD_took 21 = .ok (.ireturn, 1) := by decide +kernel
theorem d_MD_took_22 : decode b_MD_took 22 = .ok (.iconst 0, 1) := by decide +kernel
theorem d_MD_took_23 : decode b_MD_took 23 = .ok (.istore_n 2, 1) := by decide +kernel
theorem d_MD_took_24 : decode b_MD_took 24 = .ok (.iconst 0, 1) := by decide +kernel
theorem d_MD_took_25 : decode b_MD_took 25 = .ok (.istore_n 3, 1) := by decide +kernel
theorem d_MD_took_26 : decode b_MD_took 26 = .ok (.iload_n 3, 1) := by decide +kernel
theorem d_MD_took_27 : decode b_MD_took 27 = .ok (.aload_n 0, 1) := by decide +kernel
theorem d_MD_took_28 : decode b_MD_took 28 = .ok (.getfield 120, 3) := by decide +kernel
theorem d_MD_took_31 : decode b_MD_took 31 = .ok (.if_icmp .ge 31, 3) := by decide +kernel
theorem d_MD_took_34 : decode b_MD_took 34 = .ok (.iload_n 2, 1) := by decide +kernel
theorem d_MD_took_35 : decode b_MD_took 35 = .ok (.aload_n 0, 1) := by decide +kernel
theorem d_MD_took_36 : decode b_MD_took 36 = .ok (.getfield 48, 3) := by decide +kernel
theorem d_MD_took_39 : decode b_MD_took 39 = .ok (.bipush 40, 2) := by decide +kernel
theorem d_MD_took_41 : decode b_MD_took 41 = .ok (.iload_n 3, 1) := by decide +kernel
theorem d_MD_took_42 : decode b_MD_took 42 = .ok (.imul, 1) := by decide +kernel
theorem d_MD_took_43 : decode b_MD_took 43 = .ok (.iload_n 1, 1) := by decide +kernel
theorem d_MD_took_44 : decode b_MD_took 44 = .ok (.iadd, 1) := by decide +kernel
theorem d_MD_took_45 : decode b_MD_took 45 = .ok (.baload, 1) := by decide +kernel
theorem d_MD_took_46 : decode b_MD_took 46 = .ok (.ifCond .eq 7, 3) := by decide +kernel
theorem d_MD_took_49 : decode b_MD_took 49 = .ok (.iconst 1, 1) := by decide +kernel
theorem d_MD_took_50 : decode b_MD_took 50 = .ok (.goto 4, 3) := by decide +kernel
theorem d_MD_took_53 : decode b_MD_took 53 = .ok (.iconst 0, 1) := by decide +kernel
theorem d_MD_took_54 : decode b_MD_took 54 = .ok (.iadd, 1) := by decide +kernel
theorem d_MD_took_55 : decode b_MD_took 55 = .ok (.istore_n 2, 1) := by decide +kernel
theorem d_MD_took_56 : decode b_MD_took 56 = .ok (.iinc 3 1, 3) := by decide +kernel
theorem d_MD_took_59 : decode b_MD_took 59 = .ok (.goto (-33), 3) := by decide +kernel
theorem d_MD_took_62 : decode b_MD_took 62 = .ok (.iload_n 2, 1) := by decide +kernel
theorem d_MD_took_63 : decode b_MD_took 63 = .ok (.ireturn, 1) := by decide +kernel
theorem d_MD_gain_0 : decode b_MD_gain 0 = .ok (.lconst 0, 1) := by decide +kernel
theorem d_MD_gain_1 : decode b_MD_gain 1 = .ok (.lstore_n 2, 1) := by decide +kernel
theorem d_MD_gain_2 : decode b_MD_gain 2 = .ok (.iconst 0, 1) := by decide +kernel
theorem d_MD_gain_3 : decode b_MD_gain 3 = .ok (.istore 4, 2) := by decide +kernel
theorem d_MD_gain_5 : decode b_MD_gain 5 = .ok (.iload 4, 2) := by decide +kernel
theorem d_MD_gain_7 : decode b_MD_gain 7 = .ok (.aload_n 0, 1) := by decide +kernel
theorem d_MD_gain_8 : decode b_MD_gain 8 = .ok (.getfield 120, 3) := by decide +kernel
theorem d_MD_gain_11 : decode b_MD_gain 11 = .ok (.if_icmp .ge 69, 3) := by decide +kernel
theorem d_MD_gain_14 : decode b_MD_gain 14 = .ok (.iconst 0, 1) := by decide +kernel
theorem d_MD_gain_15 : decode b_MD_gain 15 = .ok (.istore 5, 2) := by decide +kernel
theorem d_MD_gain_17 : decode b_MD_gain 17 = .ok (.iload 5, 2) := by decide +kernel
theorem d_MD_gain_19 : decode b_MD_gain 19 = .ok (.aload_n 0, 1) := by decide +kernel
theorem d_MD_gain_20 : decode b_MD_gain 20 = .ok (.getfield 51, 3) := by decide +kernel
theorem d_MD_gain_23 : decode b_MD_gain 23 = .ok (.iload 4, 2) := by decide +kernel
theorem d_MD_gain_25 : decode b_MD_gain 25 = .ok (.iaload, 1) := by decide +kernel
theorem d_MD_gain_26 : decode b_MD_gain 26 = .ok (.if_icmp .ge 48, 3) := by decide +kernel
theorem d_MD_gain_29 : decode b_MD_gain 29 = .ok (.bipush 32, 2) := by decide +kernel
theorem d_MD_gain_31 : decode b_MD_gain 31 = .ok (.iload 4, 2) := by decide +kernel
theorem d_MD_gain_33 : decode b_MD_gain 33 = .ok (.imul, 1) := by decide +kernel
theorem d_MD_gain_34 : decode b_MD_gain 34 = .ok (.iload 5, 2) := by decide +kernel
theorem d_MD_gain_36 : decode b_MD_gain 36 = .ok (.iadd, 1) := by decide +kernel
theorem d_MD_gain_37 : decode b_MD_gain 37 = .ok (.istore 6, 2) := by decide +kernel
theorem d_MD_gain_39 : decode b_MD_gain 39 = .ok (.lload_n 2, 1) := by decide +kernel
theorem d_MD_gain_40 : decode b_MD_gain 40 = .ok (.iload_n 1, 1) := by decide +kernel
theorem d_MD_gain_41 : decode b_MD_gain 41 = .ok (.ifCond .lt 24, 3) := by decide +kernel
theorem d_MD_gain_44 : decode b_MD_gain 44 = .ok (.aload_n 0, 1) := by decide +kernel
theorem d_MD_gain_45 : decode b_MD_gain 45 = .ok (.getfield 54, 3) := by decide +kernel
theorem d_MD_gain_48 : decode b_MD_gain 48 = .ok (.iload 6, 2) := by decide +kernel
theorem d_MD_gain_50 : decode b_MD_gain 50 = .ok (.iaload, 1) := by decide +kernel
theorem d_MD_gain_51 : decode b_MD_gain 51 = .ok (.iload_n 1, 1) := by decide +kernel
theorem d_MD_gain_52 : decode b_MD_gain 52 = .ok (.if_icmp .ne 13, 3) := by decide +kernel
theorem d_MD_gain_55 : decode b_MD_gain 55 = .ok (.aload_n 0, 1) := by decide +kernel
theorem d_MD_gain_56 : decode b_MD_gain 56 = .ok (.getfield 78, 3) := by decide +kernel
theorem d_MD_gain_59 : decode b_MD_gain 59 = .ok (.iload 6, 2) := by decide +kernel
theorem d_MD_gain_61 : decode b_MD_gain 61 = .ok (.laload, 1) := by decide +kernel
theorem d_MD_gain_62 : decode b_MD_gain 62 = .ok (.goto 4, 3) := by decide +kernel
theorem d_MD_gain_65 : decode b_MD_gain 65 = .ok (.lconst 0, 1) := by decide +kernel
theorem d_MD_gain_66 : decode b_MD_gain 66 = .ok (.ladd, 1) := by decide +kernel
theorem d_MD_gain_67 : decode b_MD_gain 67 = .ok (.lstore_n 2, 1) := by decide +kernel
theorem d_MD_gain_68 : decode b_MD_gain 68 = .ok (.iinc 5 1, 3) := by decide +kernel
theorem d_MD_gain_71 : decode b_MD_gain 71 = .ok (.goto (-54), 3) := by decide +kernel
theorem d_MD_gain_74 : decode b_MD_gain 74 = .ok (.iinc 4 1, 3) := by decide +kernel
theorem d_MD_gain_77 : decode b_MD_gain 77 = .ok (.goto (-72), 3) := by decide +kernel
theorem d_MD_gain_80 : decode b_MD_gain 80 = .ok (.lload_n 2, 1) := by decide +kernel
theorem d_MD_gain_81 : decode b_MD_gain 81 = .ok (.lreturn, 1) := by decide +kernel
theorem d_MD_downward_0 : decode b_MD_downward 0 = .ok (.lload_n 0, 1) := by decide +kernel
theorem d_MD_downward_1 : decode b_MD_downward 1 = .ok (.lload_n 2, 1) := by decide +kernel
theorem d_MD_downward_2 : decode b_MD_downward 2 = .ok (.ldiv, 1) := by decide +kernel
theorem d_MD_downward_3 : decode b_MD_downward 3 = .ok (.lstore 4, 2) := by decide +kernel
theorem d_MD_downward_5 : decode b_MD_downward 5 = .ok (.lload_n 0, 1) := by decide +kernel
theorem d_MD_downward_6 : decode b_MD_downward 6 = .ok (.lload_n 2, 1) := by decide +kernel
theorem d_MD_downward_7 : decode b_MD_downward 7 = .ok (.lrem, 1) := by decide +kernel
theorem d_MD_downward_8 : decode b_MD_downward 8 = .ok (.lconst 0, 1) := by decide +kernel
theorem d_MD_downward_9 : decode b_MD_downward 9 = .ok (.lcmp, 1) := by decide +kernel
theorem d_MD_downward_10 : decode b_MD_downward 10 = .ok (.ifCond .ge 10, 3) := by decide +kernel
theorem d_MD_downward_13 : decode b_MD_downward 13 = .ok (.lload 4, 2) := by decide +kernel
theorem d_MD_downward_15 : decode b_MD_downward 15 = .ok (.lconst 1, 1) := by decide +kernel
theorem d_MD_downward_16 : decode b_MD_downward 16 = .ok (.lsub, 1) := by decide +kernel
theorem d_MD_downward_17 : decode b_MD_downward 17 = .ok (.goto 5, 3) := by decide +kernel
theorem d_MD_downward_20 : decode b_MD_downward 20 = .ok (.lload 4, 2) := by decide +kernel
theorem d_MD_downward_22 : decode b_MD_downward 22 = .ok (.lreturn, 1) := by decide +kernel
theorem d_MD_tellOf_0 : decode b_MD_tellOf 0 = .ok (.aload_n 0, 1) := by decide +kernel
theorem d_MD_tellOf_1 : decode b_MD_tellOf 1 = .ok (.getfield 51, 3) := by decide +kernel
theorem d_MD_tellOf_4 : decode b_MD_tellOf 4 = .ok (.iload_n 1, 1) := by decide +kernel
theorem d_MD_tellOf_5 : decode b_MD_tellOf 5 = .ok (.iaload, 1) := by decide +kernel
theorem d_MD_tellOf_6 : decode b_MD_tellOf 6 = .ok (.iconst 1, 1) := by decide +kernel
theorem d_MD_tellOf_7 : decode b_MD_tellOf 7 = .ok (.isub, 1) := by decide +kernel
theorem d_MD_tellOf_8 : decode b_MD_tellOf 8 = .ok (.istore 7, 2) := by decide +kernel
theorem d_MD_tellOf_10 : decode b_MD_tellOf 10 = .ok (.iload 7, 2) := by decide +kernel
theorem d_MD_tellOf_12 : decode b_MD_tellOf 12 = .ok (.ifCond .lt 187, 3) := by decide +kernel
theorem d_MD_tellOf_15 : decode b_MD_tellOf 15 = .ok (.bipush 32, 2) := by decide +kernel
theorem d_MD_tellOf_17 : decode b_MD_tellOf 17 = .ok (.iload_n 1, 1) := by decide +kernel
theorem d_MD_tellOf_18 : decode b_MD_tellOf 18 = .ok (.imul, 1) := by decide +kernel
theorem d_MD_tellOf_19 : decode b_MD_tellOf 19 = .ok (.iload 7, 2) := by decide +kernel
theorem d_MD_tellOf_21 : decode b_MD_tellOf 21 = .ok (.iadd, 1) := by decide +kernel
theorem d_MD_tellOf_22 : decode b_MD_tellOf 22 = .ok (.istore 8, 2) := by decide +kernel
theorem d_MD_tellOf_24 : decode b_MD_tellOf 24 = .ok (.aload_n 0, 1) := by decide +kernel
theorem d_MD_tellOf_25 : decode b_MD_tellOf 25 = .ok (.getfield 54, 3) := by decide +kernel
theorem d_MD_tellOf_28 : decode b_MD_tellOf 28 = .ok (.iload 8, 2) := by decide +kernel
theorem d_MD_tellOf_30 : decode b_MD_tellOf 30 = .ok (.iaload, 1) := by decide +kernel
theorem d_MD_tellOf_31 : decode b_MD_tellOf 31 = .ok (.istore 9, 2) := by decide +kernel
theorem d_MD_tellOf_33 : decode b_MD_tellOf 33 = .ok (.aload_n 0, 1) := by decide +kernel
theorem d_MD_tellOf_34 : decode b_MD_tellOf 34 = .ok (.getfield 63, 3) := by decide +kernel
theorem d_MD_tellOf_37 : decode b_MD_tellOf 37 = .ok (.iload 8, 2) := by decide +kernel
theorem d_MD_tellOf_39 : decode b_MD_tellOf 39 = .ok (.iaload, 1) := by decide +kernel
theorem d_MD_tellOf_40 : decode b_MD_tellOf 40 = .ok (.istore 10, 2) := by decide +kernel
theorem d_MD_tellOf_42 : decode b_MD_tellOf 42 = .ok (.iload 9, 2) := by decide +kernel
theorem d_MD_tellOf_44 : decode b_MD_tellOf 44 = .ok (.ifCond .ge 20, 3) := by decide +kernel
theorem d_MD_tellOf_47 : decode b_MD_tellOf 47 = .ok (.aload_n 0, 1) := by decide +kernel
theorem d_MD_tellOf_48 : decode b_MD_tellOf 48 = .ok (.getfield 84, 3) := by decide +kernel
theorem d_MD_tellOf_51 : decode b_MD_tellOf 51 = .ok (.iload 7, 2) := by decide +kernel
theorem d_MD_tellOf_53 : decode b_MD_tellOf 53 = .ok (.aload_n 0, 1) := by decide +kernel
theorem d_MD_tellOf_54 : decode b_MD_tellOf 54 = .ok (.iload_n 1, 1) := by decide +kernel
theorem d_MD_tellOf_55 : decode b_MD_tellOf 55 = .ok (.iload 7, 2) := by decide +kernel
theorem d_MD_tellOf_57 : decode b_MD_tellOf 57 = .ok (.invokevirtual 133, 3) := by decide +kernel
theorem d_MD_tellOf_60 : decode b_MD_tellOf 60 = .ok (.lastore, 1) := by decide +kernel
theorem d_MD_tellOf_61 : decode b_MD_tellOf 61 = .ok (.goto 132, 3) := by decide +kernel
theorem d_MD_tellOf_64 : decode b_MD_tellOf 64 = .ok (.iload_n 2, 1) := by decide +kernel
theorem d_MD_tellOf_65 : decode b_MD_tellOf 65 = .ok (.iload 9, 2) := by decide +kernel
theorem d_MD_tellOf_67 : decode b_MD_tellOf 67 = .ok (.ishr, 1) := by decide +kernel
theorem d_MD_tellOf_68 : decode b_MD_tellOf 68 = .ok (.iconst 1, 1) := by decide +kernel
theorem d_MD_tellOf_69 : decode b_MD_tellOf 69 = .ok (.iand, 1) := by decide +kernel
theorem d_MD_tellOf_70 : decode b_MD_tellOf 70 = .ok (.iconst 1, 1) := by decide +kernel
theorem d_MD_tellOf_71 : decode b_MD_tellOf 71 = .ok (.if_icmp .ne 58, 3) := by decide +kernel
theorem d_MD_tellOf_74 : decode b_MD_tellOf 74 = .ok (.aload_n 0, 1) := by decide +kernel
theorem d_MD_tellOf_75 : decode b_MD_tellOf 75 = .ok (.getfield 84, 3) := by decide +kernel
theorem d_MD_tellOf_78 : decode b_MD_tellOf 78 = .ok (.iload 7, 2) := by decide +kernel
theorem d_MD_tellOf_80 : decode b_MD_tellOf 80 = .ok (.aload_n 0, 1) := by decide +kernel
theorem d_MD_tellOf_81 : decode b_MD_tellOf 81 = .ok (.getfield 84, 3) := by decide +kernel
theorem d_MD_tellOf_84 : decode b_MD_tellOf 84 = .ok (.iload 10, 2) := by decide +kernel
theorem d_MD_tellOf_86 : decode b_MD_tellOf 86 = .ok (.iload 9, 2) := by decide +kernel
theorem d_MD_tellOf_88 : decode b_MD_tellOf 88 = .ok (.iload_n 3, 1) := by decide +kernel
theorem d_MD_tellOf_89 : decode b_MD_tellOf 89 = .ok (.iload 4, 2) := by decide +kernel
theorem d_MD_tellOf_91 : decode b_MD_tellOf 91 = .ok (.iload 5, 2) := by decide +kernel
theorem d_MD_tellOf_93 : decode b_MD_tellOf 93 = .ok (.iload 6, 2) := by decide +kernel
theorem d_MD_tellOf_95 : decode b_MD_tellOf 95 = .ok (.invokestatic 99, 3) := by decide +kernel
theorem d_MD_tellOf_98 : decode b_MD_tellOf 98 = .ok (.aload_n 0, 1) := by decide +kernel
theorem d_MD_tellOf_99 : decode b_MD_tellOf 99 = .ok (.getfield 57, 3) := by decide +kernel
theorem d_MD_tellOf_102 : decode b_MD_tellOf 102 = .ok (.iload 8, 2) := by decide +kernel
theorem d_MD_tellOf_104 : decode b_MD_tellOf 104 = .ok (.iaload, 1) := by decide +kernel
theorem d_MD_tellOf_105 : decode b_MD_tellOf 105 = .ok (.aload_n 0, 1) := by decide +kernel
theorem d_MD_tellOf_106 : decode b_MD_tellOf 106 = .ok (.getfield 60, 3) := by decide +kernel
theorem d_MD_tellOf_109 : decode b_MD_tellOf 109 = .ok (.iload 8, 2) := by decide +kernel
theorem d_MD_tellOf_111 : decode b_MD_tellOf 111 = .ok (.iaload, 1) := by decide +kernel
theorem d_MD_tellOf_112 : decode b_MD_tellOf 112 = .ok (.invokestatic 147, 3) := by decide +kernel
theorem d_MD_tellOf_115 : decode b_MD_tellOf 115 = .ok (.ifCond .eq 7, 3) := by decide +kernel
theorem d_MD_tellOf_118 : decode b_MD_tellOf 118 = .ok (.iconst 0, 1) := by decide +kernel
theorem d_MD_tellOf_119 : decode b_MD_tellOf 119 = .ok (.goto 4, 3) := by decide +kernel
theorem d_MD_tellOf_122 : decode b_MD_tellOf 122 = .ok (.iconst 1, 1) := by decide +kernel
theorem d_MD_tellOf_123 : decode b_MD_tellOf 123 = .ok (.iadd, 1) := by decide +kernel
theorem d_MD_tellOf_124 : decode b_MD_tellOf 124 = .ok (.laload, 1) := by decide +kernel
theorem d_MD_tellOf_125 : decode b_MD_tellOf 125 = .ok (.lastore, 1) := by decide +kernel
theorem d_MD_tellOf_126 : decode b_MD_tellOf 126 = .ok (.goto 67, 3) := by decide +kernel
theorem d_MD_tellOf_129 : decode b_MD_tellOf 129 = .ok (.bipush 32, 2) := by decide +kernel
theorem d_MD_tellOf_131 : decode b_MD_tellOf 131 = .ok (.iload_n 1, 1) := by decide +kernel
theorem d_MD_tellOf_132 : decode b_MD_tellOf 132 = .ok (.imul, 1) := by decide +kernel
theorem d_MD_tellOf_133 : decode b_MD_tellOf 133 = .ok (.iload 10, 2) := by decide +kernel
theorem d_MD_tellOf_135 : decode b_MD_tellOf 135 = .ok (.iadd, 1) := by decide +kernel
theorem d_MD_tellOf_136 : decode b_MD_tellOf 136 = .ok (.istore 11, 2) := by decide +kernel
theorem d_MD_tellOf_138 : decode b_MD_tellOf 138 = .ok (.aload_n 0, 1) := by decide +kernel
theorem d_MD_tellOf_139 : decode b_MD_tellOf 139 = .ok (.getfield 84, 3) := by decide +kernel
theorem d_MD_tellOf_142 : decode b_MD_tellOf 142 = .ok (.iload 7, 2) := by decide +kernel
theorem d_MD_tellOf_144 : decode b_MD_tellOf 144 = .ok (.aload_n 0, 1) := by decide +kernel
theorem d_MD_tellOf_145 : decode b_MD_tellOf 145 = .ok (.getfield 84, 3) := by decide +kernel
theorem d_MD_tellOf_148 : decode b_MD_tellOf 148 = .ok (.iload 10, 2) := by decide +kernel
theorem d_MD_tellOf_150 : decode b_MD_tellOf 150 = .ok (.laload, 1) := by decide +kernel
theorem d_MD_tellOf_151 : decode b_MD_tellOf 151 = .ok (.aload_n 0, 1) := by decide +kernel
theorem d_MD_tellOf_152 : decode b_MD_tellOf 152 = .ok (.getfield 66, 3) := by decide +kernel
theorem d_MD_tellOf_155 : decode b_MD_tellOf 155 = .ok (.iload 11, 2) := by decide +kernel
theorem d_MD_tellOf_157 : decode b_MD_tellOf 157 = .ok (.iaload, 1) := by decide +kernel
theorem d_MD_tellOf_158 : decode b_MD_tellOf 158 = .ok (.i2l, 1) := by decide +kernel
theorem d_MD_tellOf_159 : decode b_MD_tellOf 159 = .ok (.lmul, 1) := by decide +kernel
theorem d_MD_tellOf_160 : decode b_MD_tellOf 160 = .ok (.aload_n 0, 1) := by decide +kernel
theorem d_MD_tellOf_161 : decode b_MD_tellOf 161 = .ok (.getfield 84, 3) := by decide +kernel
theorem d_MD_tellOf_164 : decode b_MD_tellOf 164 = .ok (.iload 10, 2) := by decide +kernel
theorem d_MD_tellOf_166 : decode b_MD_tellOf 166 = .ok (.iconst 1, 1) := by decide +kernel
theorem d_MD_tellOf_167 : decode b_MD_tellOf 167 = .ok (.iadd, 1) := by decide +kernel
theorem d_MD_tellOf_168 : decode b_MD_tellOf 168 = .ok (.laload, 1) := by decide +kernel
theorem d_MD_tellOf_169 : decode b_MD_tellOf 169 = .ok (.aload_n 0, 1) := by decide +kernel
theorem d_MD_tellOf_170 : decode b_MD_tellOf 170 = .ok (.getfield 66, 3) := by decide +kernel
theorem d_MD_tellOf_173 : decode b_MD_tellOf 173 = .ok (.iload 11, 2) := by decide +kernel
theorem d_MD_tellOf_175 : decode b_MD_tellOf 175 = .ok (.iconst 1, 1) := by decide +kernel
theorem d_MD_tellOf_176 : decode b_MD_tellOf 176 = .ok (.iadd, 1) := by decide +kernel
theorem d_MD_tellOf_177 : decode b_MD_tellOf 177 = .ok (.iaload, 1) := by decide +kernel
theorem d_MD_tellOf_178 : decode b_MD_tellOf 178 = .ok (.i2l, 1) := by decide +kernel
theorem d_MD_tellOf_179 : decode b_MD_tellOf 179 = .ok (.lmul, 1) := by decide +kernel
theorem d_MD_tellOf_180 : decode b_MD_tellOf 180 = .ok (.ladd, 1) := by decide +kernel
theorem d_MD_tellOf_181 : decode b_MD_tellOf 181 = .ok (.aload_n 0, 1) := by decide +kernel
theorem d_MD_tellOf_182 : decode b_MD_tellOf 182 = .ok (.getfield 66, 3) := by decide +kernel
theorem d_MD_tellOf_185 : decode b_MD_tellOf 185 = .ok (.iload 8, 2) := by decide +kernel
theorem d_MD_tellOf_187 : decode b_MD_tellOf 187 = .ok (.iaload, 1) := by decide +kernel
theorem d_MD_tellOf_188 : decode b_MD_tellOf 188 = .ok (.i2l, 1) := by decide +kernel
theorem d_MD_tellOf_189 : decode b_MD_tellOf 189 = .ok (.invokestatic 192, 3) := by decide +kernel
theorem d_MD_tellOf_192 : decode b_MD_tellOf 192 = .ok (.lastore, 1) := by decide +kernel
theorem d_MD_tellOf_193 : decode b_MD_tellOf 193 = .ok (.iinc 7 (-1), 3) := by decide +kernel
theorem d_MD_tellOf_196 : decode b_MD_tellOf 196 = .ok (.goto (-186), 3) := by decide +kernel
theorem d_MD_tellOf_199 : decode b_MD_tellOf 199 = .ok (.aload_n 0, 1) := by decide +kernel
theorem d_MD_tellOf_200 : decode b_MD_tellOf 200 = .ok (.getfield 84, 3) := by decide +kernel
theorem d_MD_tellOf_203 : decode b_MD_tellOf 203 = .ok (.iconst 0, 1) := by decide +kernel
theorem d_MD_tellOf_204 : decode b_MD_tellOf 204 = .ok (.laload, 1) := by decide +kernel
theorem d_MD_tellOf_205 : decode b_MD_tellOf 205 = .ok (.lreturn, 1) := by decide +kernel
theorem d_MD_allTell_0 : decode b_MD_allTell 0 = .ok (.ldc2_w 118, 3) := by decide +kernel
theorem d_MD_allTell_3 : decode b_MD_allTell 3 = .ok (.aload_n 0, 1) := by decide +kernel
theorem d_MD_allTell_4 : decode b_MD_allTell 4 = .ok (.getfield 38, 3) := by decide +kernel
theorem d_MD_allTell_7 : decode b_MD_allTell 7 = .ok (.bipush 9, 2) := by decide +kernel
theorem d_MD_allTell_9 : decode b_MD_allTell 9 = .ok (.iaload, 1) := by decide +kernel
theorem d_MD_allTell_10 : decode b_MD_allTell 10 = .ok (.i2l, 1) := by decide +kernel
theorem d_MD_allTell_11 : decode b_MD_allTell 11 = .ok (.lmul, 1) := by decide +kernel
theorem d_MD_allTell_12 : decode b_MD_allTell 12 = .ok (.lstore 6, 2) := by decide +kernel
theorem d_MD_allTell_14 : decode b_MD_allTell 14 = .ok (.iconst 0, 1) := by decide +kernel
theorem d_MD_allTell_15 : decode b_MD_allTell 15 = .ok (.istore 8, 2) := by decide +kernel
theorem d_MD_allTell_17 : decode b_MD_allTell 17 = .ok (.iload 8, 2) := by decide +kernel
theorem d_MD_allTell_19 : decode b_MD_allTell 19 = .ok (.aload_n 0, 1) := by decide +kernel
theorem d_MD_allTell_20 : decode b_MD_allTell 20 = .ok (.getfield 120, 3) := by decide +kernel
theorem d_MD_allTell_23 : decode b_MD_allTell 23 = .ok (.if_icmp .ge 27, 3) := by decide +kernel
theorem d_MD_allTell_26 : decode b_MD_allTell 26 = .ok (.lload 6, 2) := by decide +kernel
theorem d_MD_allTell_28 : decode b_MD_allTell 28 = .ok (.aload_n 0, 1) := by decide +kernel
theorem d_MD_allTell_29 : decode b_MD_allTell 29 = .ok (.iload 8, 2) := by decide +kernel
theorem d_MD_allTell_31 : decode b_MD_allTell 31 = .ok (.iload_n 1, 1) := by decide +kernel
theorem d_MD_allTell_32 : decode b_MD_allTell 32 = .ok (.iload_n 2, 1) := by decide +kernel
theorem d_MD_allTell_33 : decode b_MD_allTell 33 = .ok (.iload_n 3, 1) := by decide +kernel
theorem d_MD_allTell_34 : decode b_MD_allTell 34 = .ok (.iload 4, 2) := by decide +kernel
theorem d_MD_allTell_36 : decode b_MD_allTell 36 = .ok (.iload 5, 2) := by decide +kernel
theorem d_MD_allTell_38 : decode b_MD_allTell 38 = .ok (.invokevirtual 196, 3) := by decide +kernel
theorem d_MD_allTell_41 : decode b_MD_allTell 41 = .ok (.ladd, 1) := by decide +kernel
theorem d_MD_allTell_42 : decode b_MD_allTell 42 = .ok (.lstore 6, 2) := by decide +kernel
theorem d_MD_allTell_44 : decode b_MD_allTell 44 = .ok (.iinc 8 1, 3) := by decide +kernel
theorem d_MD_allTell_47 : decode b_MD_allTell 47 = .ok (.goto (-30), 3) := by decide +kernel
theorem d_MD_allTell_50 : decode b_MD_allTell 50 = .ok (.lload 6, 2) := by decide +kernel
theorem d_MD_allTell_52 : decode b_MD_allTell 52 = .ok (.lreturn, 1) := by decide +kernel
theorem d_MD_told_0 : decode b_MD_told 0 = .ok (.iload_n 1, 1) := by decide +kernel
theorem d_MD_told_1 : decode b_MD_told 1 = .ok (.ifCond .lt 21, 3) := by decide +kernel
theorem d_MD_told_4 : decode b_MD_told 4 = .ok (.iload_n 1, 1) := by decide +kernel
theorem d_MD_told_5 : decode b_MD_told 5 = .ok (.bipush 15, 2) := by decide +kernel
theorem d_MD_told_7 : decode b_MD_told 7 = .ok (.if_icmp .gt 15, 3) := by decide +kernel
theorem d_MD_told_10 : decode b_MD_told 10 = .ok (.iload_n 2, 1) := by decide +kernel
theorem d_MD_told_11 : decode b_MD_told 11 = .ok (.iload_n 3, 1) := by decide +kernel
theorem d_MD_told_12 : decode b_MD_told 12 = .ok (.iload 4, 2) := by decide +kernel
theorem d_MD_told_14 : decode b_MD_told 14 = .ok (.iload 5, 2) := by decide +kernel
theorem d_MD_told_16 : decode b_MD_told 16 = .ok (.invokestatic 91, 3) := by decide +kernel
theorem d_MD_told_19 : decode b_MD_told 19 = .ok (.ifCond .ne 7, 3) := by decide +kernel
theorem d_MD_told_22 : decode b_MD_told 22 = .ok (.lconst 0, 1) := by decide +kernel
theorem d_MD_told_23 : decode b_MD_told 23 = .ok (.goto 14, 3) := by decide +kernel
theorem d_MD_told_26 : decode b_MD_told 26 = .ok (.aload_n 0, 1) := by decide +kernel
theorem d_MD_told_27 : decode b_MD_told 27 = .ok (.iload_n 1, 1) := by decide +kernel
theorem d_MD_told_28 : decode b_MD_told 28 = .ok (.iload_n 2, 1) := by decide +kernel
theorem d_MD_told_29 : decode b_MD_told 29 = .ok (.iload_n 3, 1) := by decide +kernel
theorem d_MD_told_30 : decode b_MD_told 30 = .ok (.iload 4, 2) := by decide +kernel
theorem d_MD_told_32 : decode b_MD_told 32 = .ok (.iload 5, 2) := by decide +kernel
theorem d_MD_told_34 : decode b_MD_told 34 = .ok (.invokevirtual 200, 3) := by decide +kernel
theorem d_MD_told_37 : decode b_MD_told 37 = .ok (.lreturn, 1) := by decide +kernel
theorem d_MD_share_0 : decode b_MD_share 0 = .ok (.iload_n 1, 1) := by decide +kernel
theorem d_MD_share_1 : decode b_MD_share 1 = .ok (.ifCond .lt 20, 3) := by decide +kernel
theorem d_MD_share_4 : decode b_MD_share 4 = .ok (.iload_n 1, 1) := by decide +kernel
theorem d_MD_share_5 : decode b_MD_share 5 = .ok (.iconst 4, 1) := by decide +kernel
theorem d_MD_share_6 : decode b_MD_share 6 = .ok (.if_icmp .ge 15, 3) := by decide +kernel
theorem d_MD_share_9 : decode b_MD_share 9 = .ok (.iload_n 2, 1) := by decide +kernel
theorem d_MD_share_10 : decode b_MD_share 10 = .ok (.iload_n 3, 1) := by decide +kernel
theorem d_MD_share_11 : decode b_MD_share 11 = .ok (.iload 4, 2) := by decide +kernel
theorem d_MD_share_13 : decode b_MD_share 13 = .ok (.iload 5, 2) := by decide +kernel
theorem d_MD_share_15 : decode b_MD_share 15 = .ok (.invokestatic 91, 3) := by decide +kernel
theorem d_MD_share_18 : decode b_MD_share 18 = .ok (.ifCond .ne 5, 3) := by decide +kernel
theorem d_MD_share_21 : decode b_MD_share 21 = .ok (.lconst 0, 1) := by decide +kernel
theorem d_MD_share_22 : decode b_MD_share 22 = .ok (.lreturn, 1) := by decide +kernel
theorem d_MD_share_23 : decode b_MD_share 23 = .ok (.lconst 0, 1) := by decide +kernel
theorem d_MD_share_24 : decode b_MD_share 24 = .ok (.lstore 6, 2) := by decide +kernel
theorem d_MD_share_26 : decode b_MD_share 26 = .ok (.iconst 0, 1) := by decide +kernel
theorem d_MD_share_27 : decode b_MD_share 27 = .ok (.istore 8, 2) := by decide +kernel
theorem d_MD_share_29 : decode b_MD_share 29 = .ok (.iload 8, 2) := by decide +kernel
theorem d_MD_share_31 : decode b_MD_share 31 = .ok (.bipush 16, 2) := by decide +kernel
theorem d_MD_share_33 : decode b_MD_share 33 = .ok (.if_icmp .ge 104, 3) := by decide +kernel
theorem d_MD_share_36 : decode b_MD_share 36 = .ok (.iload 8, 2) := by decide +kernel
theorem d_MD_share_38 : decode b_MD_share 38 = .ok (.iload_n 1, 1) := by decide +kernel
theorem d_MD_share_39 : decode b_MD_share 39 = .ok (.ishr, 1) := by decide +kernel
theorem d_MD_share_40 : decode b_MD_share 40 = .ok (.iconst 1, 1) := by decide +kernel
theorem d_MD_share_41 : decode b_MD_share 41 = .ok (.iand, 1) := by decide +kernel
theorem d_MD_share_42 : decode b_MD_share 42 = .ok (.ifCond .ne 89, 3) := by decide +kernel
theorem d_MD_share_45 : decode b_MD_share 45 = .ok (.iload 8, 2) := by decide +kernel
theorem d_MD_share_47 : decode b_MD_share 47 = .ok (.iconst 1, 1) := by decide +kernel
theorem d_MD_share_48 : decode b_MD_share 48 = .ok (.iand, 1) := by decide +kernel
theorem d_MD_share_49 : decode b_MD_share 49 = .ok (.iload 8, 2) := by decide +kernel
theorem d_MD_share_51 : decode b_MD_share 51 = .ok (.iconst 1, 1) := by decide +kernel
theorem d_MD_share_52 : decode b_MD_share 52 = .ok (.ishr, 1) := by decide +kernel
theorem d_MD_share_53 : decode b_MD_share 53 = .ok (.iconst 1, 1) := by decide +kernel
theorem d_MD_share_54 : decode b_MD_share 54 = .ok (.iand, 1) := by decide +kernel
theorem d_MD_share_55 : decode b_MD_share 55 = .ok (.iadd, 1) := by decide +kernel
theorem d_MD_share_56 : decode b_MD_share 56 = .ok (.iload 8, 2) := by decide +kernel
theorem d_MD_share_58 : decode b_MD_share 58 = .ok (.iconst 2, 1) := by decide +kernel
theorem d_MD_share_59 : decode b_MD_share 59 = .ok (.ishr, 1) := by decide +kernel
theorem d_MD_share_60 : decode b_MD_share 60 = .ok (.iconst 1, 1) := by decide +kernel
theorem d_MD_share_61 : decode b_MD_share 61 = .ok (.iand, 1) := by decide +kernel
theorem d_MD_share_62 : decode b_MD_share 62 = .ok (.iadd, 1) := by decide +kernel
theorem d_MD_share_63 : decode b_MD_share 63 = .ok (.iload 8, 2) := by decide +kernel
theorem d_MD_share_65 : decode b_MD_share 65 = .ok (.iconst 3, 1) := by decide +kernel
theorem d_MD_share_66 : decode b_MD_share 66 = .ok (.ishr, 1) := by decide +kernel
theorem d_MD_share_67 : decode b_MD_share 67 = .ok (.iconst 1, 1) := by decide +kernel
theorem d_MD_share_68 : decode b_MD_share 68 = .ok (.iand, 1) := by decide +kernel
theorem d_MD_share_69 : decode b_MD_share 69 = .ok (.iadd, 1) := by decide +kernel
theorem d_MD_share_70 : decode b_MD_share 70 = .ok (.istore 9, 2) := by decide +kernel
theorem d_MD_share_72 : decode b_MD_share 72 = .ok (.aload_n 0, 1) := by decide +kernel
theorem d_MD_share_73 : decode b_MD_share 73 = .ok (.iload 8, 2) := by decide +kernel
theorem d_MD_share_75 : decode b_MD_share 75 = .ok (.iconst 1, 1) := by decide +kernel
theorem d_MD_share_76 : decode b_MD_share 76 = .ok (.iload_n 1, 1) := by decide +kernel
theorem d_MD_share_77 : decode b_MD_share 77 = .ok (.ishl, 1) := by decide +kernel
theorem d_MD_share_78 : decode b_MD_share 78 = .ok (.ior, 1) := by decide +kernel
theorem d_MD_share_79 : decode b_MD_share 79 = .ok (.iload_n 2, 1) := by decide +kernel
theorem d_MD_share_80 : decode b_MD_share 80 = .ok (.iload_n 3, 1) := by decide +kernel
theorem d_MD_share_81 : decode b_MD_share 81 = .ok (.iload 4, 2) := by decide +kernel
theorem d_MD_share_83 : decode b_MD_share 83 = .ok (.iload 5, 2) := by decide +kernel
theorem d_MD_share_85 : decode b_MD_share 85 = .ok (.invokevirtual 200, 3) := by decide +kernel
theorem d_MD_share_88 : decode b_MD_share 88 = .ok (.aload_n 0, 1) := by decide +kernel
theorem d_MD_share_89 : decode b_MD_share 89 = .ok (.iload 8, 2) := by decide +kernel
theorem d_MD_share_91 : decode b_MD_share 91 = .ok (.iload_n 2, 1) := by decide +kernel
theorem d_MD_share_92 : decode b_MD_share 92 = .ok (.iload_n 3, 1) := by decide +kernel
theorem d_MD_share_93 : decode b_MD_share 93 = .ok (.iload 4, 2) := by decide +kernel
theorem d_MD_share_95 : decode b_MD_share 95 = .ok (.iload 5, 2) := by decide +kernel
theorem d_MD_share_97 : decode b_MD_share 97 = .ok (.invokevirtual 200, 3) := by decide +kernel
theorem d_MD_share_100 : decode b_MD_share 100 = .ok (.lsub, 1) := by decide +kernel
theorem d_MD_share_101 : decode b_MD_share 101 = .ok (.lstore 10, 2) := by decide +kernel
theorem d_MD_share_103 : decode b_MD_share 103 = .ok (.lload 6, 2) := by decide +kernel
theorem d_MD_share_105 : decode b_MD_share 105 = .ok (.lload 10, 2) := by decide +kernel
theorem d_MD_share_107 : decode b_MD_share 107 = .ok (.iload 9, 2) := by decide +kernel
theorem d_MD_share_109 : decode b_MD_share 109 = .ok (.ifCond .eq 9, 3) := by decide +kernel
theorem d_MD_share_112 : decode b_MD_share 112 = .ok (.iload 9, 2) := by decide +kernel
theorem d_MD_share_114 : decode b_MD_share 114 = .ok (.iconst 3, 1) := by decide +kernel
theorem d_MD_share_115 : decode b_MD_share 115 = .ok (.if_icmp .ne 9, 3) := by decide +kernel
theorem d_MD_share_118 : decode b_MD_share 118 = .ok (.ldc2_w 203, 3) := by decide +kernel
theorem d_MD_share_121 : decode b_MD_share 121 = .ok (.goto 6, 3) := by decide +kernel
theorem d_MD_share_124 : decode b_MD_share 124 = .ok (.ldc2_w 205, 3) := by decide +kernel
theorem d_MD_share_127 : decode b_MD_share 127 = .ok (.lmul, 1) := by decide +kernel
theorem d_MD_share_128 : decode b_MD_share 128 = .ok (.ladd, 1) := by decide +kernel
theorem d_MD_share_129 : decode b_MD_share 129 = .ok (.lstore 6, 2) := by decide +kernel
theorem d_MD_share_131 : decode b_MD_share 131 = .ok (.iinc 8 1, 3) := by decide +kernel
theorem d_MD_share_134 : decode b_MD_share 134 = .ok (.goto (-105), 3) := by decide +kernel
theorem d_MD_share_137 : decode b_MD_share 137 = .ok (.lload 6, 2) := by decide +kernel
theorem d_MD_share_139 : decode b_MD_share 139 = .ok (.lreturn, 1) := by decide +kernel
theorem d_MD_count_0 : decode b_MD_count 0 = .ok (.iload_n 1, 1) := by decide +kernel
theorem d_MD_count_1 : decode b_MD_count 1 = .ok (.ifCond .lt 9, 3) := by decide +kernel
theorem d_MD_count_4 : decode b_MD_count 4 = .ok (.iload_n 1, 1) := by decide +kernel
theorem d_MD_count_5 : decode b_MD_count 5 = .ok (.bipush 19, 2) := by decide +kernel
theorem d_MD_count_7 : decode b_MD_count 7 = .ok (.if_icmp .lt 6, 3) := by decide +kernel
theorem d_MD_count_10 : decode b_MD_count 10 = .ok (.bipush (-2), 2) := by decide +kernel
theorem d_MD_count_12 : decode b_MD_count 12 = .ok (.ireturn, 1) := by decide +kernel
theorem d_MD_count_13 : decode b_MD_count 13 = .ok (.iconst 0, 1) := by decide +kernel
theorem d_MD_count_14 : decode b_MD_count 14 = .ok (.istore_n 2, 1) := by decide +kernel
theorem d_MD_count_15 : decode b_MD_count 15 = .ok (.iconst 0, 1) := by decide +kernel
theorem d_MD_count_16 : decode b_MD_count 16 = .ok (.istore_n 3, 1) := by decide +kernel
theorem d_MD_count_17 : decode b_MD_count 17 = .ok (.iload_n 3, 1) := by decide +kernel
theorem d_MD_count_18 : decode b_MD_count 18 = .ok (.aload_n 0, 1) := by decide +kernel
theorem d_MD_count_19 : decode b_MD_count 19 = .ok (.getfield 95, 3) := by decide +kernel
theorem d_MD_count_22 : decode b_MD_count 22 = .ok (.if_icmp .ge 26, 3) := by decide +kernel
theorem d_MD_count_25 : decode b_MD_count 25 = .ok (.iload_n 2, 1) := by decide +kernel
theorem d_MD_count_26 : decode b_MD_count 26 = .ok (.aload_n 0, 1) := by decide +kernel
theorem d_MD_count_27 : decode b_MD_count 27 = .ok (.getfield 19, 3) := by decide +kernel
theorem d_MD_count_30 : decode b_MD_count 30 = .ok (.iload_n 3, 1) := by decide +kernel
theorem d_MD_count_31 : decode b_MD_count 31 = .ok (.baload, 1) := by decide +kernel
theorem d_MD_count_32 : decode b_MD_count 32 = .ok (.ifCond .eq 7, 3) := by decide +kernel
theorem d_MD_count_35 : decode b_MD_count 35 = .ok (.iconst 1, 1) := by decide +kernel
theorem d_MD_count_36 : decode b_MD_count 36 = .ok (.goto 4, 3) := by decide +kernel
theorem d_MD_count_39 : decode b_MD_count 39 = .ok (.iconst 0, 1) := by decide +kernel
theorem d_MD_count_40 : decode b_MD_count 40 = .ok (.iadd, 1) := by decide +kernel
theorem d_MD_count_41 : decode b_MD_count 41 = .ok (.istore_n 2, 1) := by decide +kernel
theorem d_MD_count_42 : decode b_MD_count 42 = .ok (.iinc 3 1, 3) := by decide +kernel
theorem d_MD_count_45 : decode b_MD_count 45 = .ok (.goto (-28), 3) := by decide +kernel
theorem d_MD_count_48 : decode b_MD_count 48 = .ok (.iload_n 1, 1) := by decide +kernel
theorem d_MD_count_49 : decode b_MD_count 49 = .ok (.ifCond .ne 10, 3) := by decide +kernel
theorem d_MD_count_52 : decode b_MD_count 52 = .ok (.aload_n 0, 1) := by decide +kernel
theorem d_MD_count_53 : decode b_MD_count 53 = .ok (.getfield 95, 3) := by decide +kernel
theorem d_MD_count_56 : decode b_MD_count 56 = .ok (.goto 44, 3) := by decide +kernel
theorem d_MD_count_59 : decode b_MD_count 59 = .ok (.iload_n 1, 1) := by decide +kernel
theorem d_MD_count_60 : decode b_MD_count 60 = .ok (.iconst 1, 1) := by decide +kernel
theorem d_MD_count_61 : decode b_MD_count 61 = .ok (.if_icmp .ne 7, 3) := by decide +kernel
theorem d_MD_count_64 : decode b_MD_count 64 = .ok (.iload_n 2, 1) := by decide +kernel
theorem d_MD_count_65 : decode b_MD_count 65 = .ok (.goto 35, 3) := by decide +kernel
theorem d_MD_count_68 : decode b_MD_count 68 = .ok (.iload_n 1, 1) := by decide +kernel
theorem d_MD_count_69 : decode b_MD_count 69 = .ok (.iconst 2, 1) := by decide +kernel
theorem d_MD_count_70 : decode b_MD_count 70 = .ok (.if_icmp .ne 10, 3) := by decide +kernel
theorem d_MD_count_73 : decode b_MD_count 73 = .ok (.aload_n 0, 1) := by decide +kernel
theorem d_MD_count_74 : decode b_MD_count 74 = .ok (.getfield 120, 3) := by decide +kernel
theorem d_MD_count_77 : decode b_MD_count 77 = .ok (.goto 23, 3) := by decide +kernel
theorem d_MD_count_80 : decode b_MD_count 80 = .ok (.iload_n 1, 1) := by decide +kernel
theorem d_MD_count_81 : decode b_MD_count 81 = .ok (.iconst 3, 1) := by decide +kernel
theorem d_MD_count_82 : decode b_MD_count 82 = .ok (.if_icmp .ne 10, 3) := by decide +kernel
theorem d_MD_count_85 : decode b_MD_count 85 = .ok (.aload_n 0, 1) := by decide +kernel
theorem d_MD_count_86 : decode b_MD_count 86 = .ok (.getfield 115, 3) := by decide +kernel
theorem d_MD_count_89 : decode b_MD_count 89 = .ok (.goto 11, 3) := by decide +kernel
theorem d_MD_count_92 : decode b_MD_count 92 = .ok (.aload_n 0, 1) := by decide +kernel
theorem d_MD_count_93 : decode b_MD_count 93 = .ok (.getfield 23, 3) := by decide +kernel
theorem d_MD_count_96 : decode b_MD_count 96 = .ok (.iload_n 1, 1) := by decide +kernel
theorem d_MD_count_97 : decode b_MD_count 97 = .ok (.iconst 4, 1) := by decide +kernel
theorem d_MD_count_98 : decode b_MD_count 98 = .ok (.isub, 1) := by decide +kernel
theorem d_MD_count_99 : decode b_MD_count 99 = .ok (.iaload, 1) := by decide +kernel
theorem d_MD_count_100 : decode b_MD_count 100 = .ok (.ireturn, 1) := by decide +kernel
end
section
theorem d_JI_bitCount_0 : decode b_JI_bitCount 0 = .ok (.iload_n 0, 1) := by decide +kernel
theorem d_JI_bitCount_1 : decode b_JI_bitCount 1 = .ok (.iload_n 0, 1) := by decide +kernel
theorem d_JI_bitCount_2 : decode b_JI_bitCount 2 = .ok (.iconst 1, 1) := by decide +kernel
theorem d_JI_bitCount_3 : decode b_JI_bitCount 3 = .ok (.iushr, 1) := by decide +kernel
theorem d_JI_bitCount_4 : decode b_JI_bitCount 4 = .ok (.ldc_w 265, 3) := by decide +kernel
theorem d_JI_bitCount_7 : decode b_JI_bitCount 7 = .ok (.iand, 1) := by decide +kernel
theorem d_JI_bitCount_8 : decode b_JI_bitCount 8 = .ok (.isub, 1) := by decide +kernel
theorem d_JI_bitCount_9 : decode b_JI_bitCount 9 = .ok (.istore_n 0, 1) := by decide +kernel
theorem d_JI_bitCount_10 : decode b_JI_bitCount 10 = .ok (.iload_n 0, 1) := by decide +kernel
theorem d_JI_bitCount_11 : decode b_JI_bitCount 11 = .ok (.ldc_w 266, 3) := by decide +kernel
theorem d_JI_bitCount_14 : decode b_JI_bitCount 14 = .ok (.iand, 1) := by decide +kernel
theorem d_JI_bitCount_15 : decode b_JI_bitCount 15 = .ok (.iload_n 0, 1) := by decide +kernel
theorem d_JI_bitCount_16 : decode b_JI_bitCount 16 = .ok (.iconst 2, 1) := by decide +kernel
theorem d_JI_bitCount_17 : decode b_JI_bitCount 17 = .ok (.iushr, 1) := by decide +kernel
theorem d_JI_bitCount_18 : decode b_JI_bitCount 18 = .ok (.ldc_w 266, 3) := by decide +kernel
theorem d_JI_bitCount_21 : decode b_JI_bitCount 21 = .ok (.iand, 1) := by decide +kernel
theorem d_JI_bitCount_22 : decode b_JI_bitCount 22 = .ok (.iadd, 1) := by decide +kernel
theorem d_JI_bitCount_23 : decode b_JI_bitCount 23 = .ok (.istore_n 0, 1) := by decide +kernel
theorem d_JI_bitCount_24 : decode b_JI_bitCount 24 = .ok (.iload_n 0, 1) := by decide +kernel
theorem d_JI_bitCount_25 : decode b_JI_bitCount 25 = .ok (.iload_n 0, 1) := by decide +kernel
theorem d_JI_bitCount_26 : decode b_JI_bitCount 26 = .ok (.iconst 4, 1) := by decide +kernel
theorem d_JI_bitCount_27 : decode b_JI_bitCount 27 = .ok (.iushr, 1) := by decide +kernel
theorem d_JI_bitCount_28 : decode b_JI_bitCount 28 = .ok (.iadd, 1) := by decide +kernel
theorem d_JI_bitCount_29 : decode b_JI_bitCount 29 = .ok (.ldc_w 267, 3) := by decide +kernel
theorem d_JI_bitCount_32 : decode b_JI_bitCount 32 = .ok (.iand, 1) := by decide +kernel
theorem d_JI_bitCount_33 : decode b_JI_bitCount 33 = .ok (.istore_n 0, 1) := by decide +kernel
theorem d_JI_bitCount_34 : decode b_JI_bitCount 34 = .ok (.iload_n 0, 1) := by decide +kernel
theorem d_JI_bitCount_35 : decode b_JI_bitCount 35 = .ok (.iload_n 0, 1) := by decide +kernel
theorem d_JI_bitCount_36 : decode b_JI_bitCount 36 = .ok (.bipush 8, 2) := by decide +kernel
theorem d_JI_bitCount_38 : decode b_JI_bitCount 38 = .ok (.iushr, 1) := by decide +kernel
theorem d_JI_bitCount_39 : decode b_JI_bitCount 39 = .ok (.iadd, 1) := by decide +kernel
theorem d_JI_bitCount_40 : decode b_JI_bitCount 40 = .ok (.istore_n 0, 1) := by decide +kernel
theorem d_JI_bitCount_41 : decode b_JI_bitCount 41 = .ok (.iload_n 0, 1) := by decide +kernel
theorem d_JI_bitCount_42 : decode b_JI_bitCount 42 = .ok (.iload_n 0, 1) := by decide +kernel
theorem d_JI_bitCount_43 : decode b_JI_bitCount 43 = .ok (.bipush 16, 2) := by decide +kernel
theorem d_JI_bitCount_45 : decode b_JI_bitCount 45 = .ok (.iushr, 1) := by decide +kernel
theorem d_JI_bitCount_46 : decode b_JI_bitCount 46 = .ok (.iadd, 1) := by decide +kernel
theorem d_JI_bitCount_47 : decode b_JI_bitCount 47 = .ok (.istore_n 0, 1) := by decide +kernel
theorem d_JI_bitCount_48 : decode b_JI_bitCount 48 = .ok (.iload_n 0, 1) := by decide +kernel
theorem d_JI_bitCount_49 : decode b_JI_bitCount 49 = .ok (.bipush 63, 2) := by decide +kernel
theorem d_JI_bitCount_51 : decode b_JI_bitCount 51 = .ok (.iand, 1) := by decide +kernel
theorem d_JI_bitCount_52 : decode b_JI_bitCount 52 = .ok (.ireturn, 1) := by decide +kernel
theorem d_JM_floorDiv_0 : decode b_JM_floorDiv 0 = .ok (.lload_n 0, 1) := by decide +kernel
theorem d_JM_floorDiv_1 : decode b_JM_floorDiv 1 = .ok (.lload_n 2, 1) := by decide +kernel
theorem d_JM_floorDiv_2 : decode b_JM_floorDiv 2 = .ok (.ldiv, 1) := by decide +kernel
theorem d_JM_floorDiv_3 : decode b_JM_floorDiv 3 = .ok (.lstore 4, 2) := by decide +kernel
theorem d_JM_floorDiv_5 : decode b_JM_floorDiv 5 = .ok (.lload_n 0, 1) := by decide +kernel
theorem d_JM_floorDiv_6 : decode b_JM_floorDiv 6 = .ok (.lload_n 2, 1) := by decide +kernel
theorem d_JM_floorDiv_7 : decode b_JM_floorDiv 7 = .ok (.lxor, 1) := by decide +kernel
theorem d_JM_floorDiv_8 : decode b_JM_floorDiv 8 = .ok (.lconst 0, 1) := by decide +kernel
theorem d_JM_floorDiv_9 : decode b_JM_floorDiv 9 = .ok (.lcmp, 1) := by decide +kernel
theorem d_JM_floorDiv_10 : decode b_JM_floorDiv 10 = .ok (.ifCond .ge 17, 3) := by decide +kernel
theorem d_JM_floorDiv_13 : decode b_JM_floorDiv 13 = .ok (.lload 4, 2) := by decide +kernel
theorem d_JM_floorDiv_15 : decode b_JM_floorDiv 15 = .ok (.lload_n 2, 1) := by decide +kernel
theorem d_JM_floorDiv_16 : decode b_JM_floorDiv 16 = .ok (.lmul, 1) := by decide +kernel
theorem d_JM_floorDiv_17 : decode b_JM_floorDiv 17 = .ok (.lload_n 0, 1) := by decide +kernel
theorem d_JM_floorDiv_18 : decode b_JM_floorDiv 18 = .ok (.lcmp, 1) := by decide +kernel
theorem d_JM_floorDiv_19 : decode b_JM_floorDiv 19 = .ok (.ifCond .eq 8, 3) := by decide +kernel
theorem d_JM_floorDiv_22 : decode b_JM_floorDiv 22 = .ok (.lload 4, 2) := by decide +kernel
theorem d_JM_floorDiv_24 : decode b_JM_floorDiv 24 = .ok (.lconst 1, 1) := by decide +kernel
theorem d_JM_floorDiv_25 : decode b_JM_floorDiv 25 = .ok (.lsub, 1) := by decide +kernel
theorem d_JM_floorDiv_26 : decode b_JM_floorDiv 26 = .ok (.lreturn, 1) := by decide +kernel
theorem d_JM_floorDiv_27 : decode b_JM_floorDiv 27 = .ok (.lload 4, 2) := by decide +kernel
theorem d_JM_floorDiv_29 : decode b_JM_floorDiv 29 = .ok (.lreturn, 1) := by decide +kernel
theorem d_JM_min_0 : decode b_JM_min 0 = .ok (.lload_n 0, 1) := by decide +kernel
theorem d_JM_min_1 : decode b_JM_min 1 = .ok (.lload_n 2, 1) := by decide +kernel
theorem d_JM_min_2 : decode b_JM_min 2 = .ok (.lcmp, 1) := by decide +kernel
theorem d_JM_min_3 : decode b_JM_min 3 = .ok (.ifCond .gt 7, 3) := by decide +kernel
theorem d_JM_min_6 : decode b_JM_min 6 = .ok (.lload_n 0, 1) := by decide +kernel
theorem d_JM_min_7 : decode b_JM_min 7 = .ok (.goto 4, 3) := by decide +kernel
theorem d_JM_min_10 : decode b_JM_min 10 = .ok (.lload_n 2, 1) := by decide +kernel
theorem d_JM_min_11 : decode b_JM_min 11 = .ok (.lreturn, 1) := by decide +kernel
theorem d_LW_law_0 : decode code 0 = .ok (.new 7, 3) := by decide +kernel
theorem d_LW_law_3 : decode code 3 = .ok (.dup, 1) := by decide +kernel
theorem d_LW_law_4 : decode code 4 = .ok (.invokespecial 9, 3) := by decide +kernel
theorem d_LW_law_7 : decode code 7 = .ok (.astore_n 1, 1) := by decide +kernel
theorem d_LW_law_8 : decode code 8 = .ok (.new 10, 3) := by decide +kernel
theorem d_LW_law_11 : decode code 11 = .ok (.dup, 1) := by decide +kernel
theorem d_LW_law_12 : decode code 12 = .ok (.invokespecial 12, 3) := by decide +kernel
theorem d_LW_law_15 : decode code 15 = .ok (.astore_n 2, 1) := by decide +kernel
theorem d_LW_law_16 : decode code 16 = .ok (.iconst 0, 1) := by decide +kernel
theorem d_LW_law_17 : decode code 17 = .ok (.istore_n 3, 1) := by decide +kernel
theorem d_LW_law_18 : decode code 18 = .ok (.iload_n 3, 1) := by decide +kernel
theorem d_LW_law_19 : decode code 19 = .ok (.aload_n 0, 1) := by decide +kernel
theorem d_LW_law_20 : decode code 20 = .ok (.arraylength, 1) := by decide +kernel
theorem d_LW_law_21 : decode code 21 = .ok (.bipush 7, 2) := by decide +kernel
theorem d_LW_law_23 : decode code 23 = .ok (.isub, 1) := by decide +kernel
theorem d_LW_law_24 : decode code 24 = .ok (.if_icmp .gt 775, 3) := by decide +kernel
theorem d_LW_law_27 : decode code 27 = .ok (.aload_n 0, 1) := by decide +kernel
theorem d_LW_law_28 : decode code 28 = .ok (.iload_n 3, 1) := by decide +kernel
theorem d_LW_law_29 : decode code 29 = .ok (.iaload, 1) := by decide +kernel
theorem d_LW_law_30 : decode code 30 = .ok (.bipush 31, 2) := by decide +kernel
theorem d_LW_law_32 : decode code 32 = .ok (.iand, 1) := by decide +kernel
theorem d_LW_law_33 : decode code 33 = .ok (.tableswitch 760 0 17 #[87, 162, 195, 228, 241, 254, 297, 341, 364, 427, 491, 525, 538, 562, 585, 609, 673, 737], 87) := by decide +kernel
theorem d_LW_law_120 : decode code 120 = .ok (.aload_n 1, 1) := by decide +kernel
theorem d_LW_law_121 : decode code 121 = .ok (.aload_n 0, 1) := by decide +kernel
theorem d_LW_law_122 : decode code 122 = .ok (.iload_n 3, 1) := by decide +kernel
theorem d_LW_law_123 : decode code 123 = .ok (.iconst 1, 1) := by decide +kernel
theorem d_LW_law_124 : decode code 124 = .ok (.iadd, 1) := by decide +kernel
theorem d_LW_law_125 : decode code 125 = .ok (.iaload, 1) := by decide +kernel
theorem d_LW_law_126 : decode code 126 = .ok (.aload_n 0, 1) := by decide +kernel
theorem d_LW_law_127 : decode code 127 = .ok (.iload_n 3, 1) := by decide +kernel
theorem d_LW_law_128 : decode code 128 = .ok (.iconst 2, 1) := by decide +kernel
theorem d_LW_law_129 : decode code 129 = .ok (.iadd, 1) := by decide +kernel
theorem d_LW_law_130 : decode code 130 = .ok (.iaload, 1) := by decide +kernel
theorem d_LW_law_131 : decode code 131 = .ok (.aload_n 0, 1) := by decide +kernel
theorem d_LW_law_132 : decode code 132 = .ok (.iload_n 3, 1) := by decide +kernel
theorem d_LW_law_133 : decode code 133 = .ok (.iconst 3, 1) := by decide +kernel
theorem d_LW_law_134 : decode code 134 = .ok (.iadd, 1) := by decide +kernel
theorem d_LW_law_135 : decode code 135 = .ok (.iaload, 1) := by decide +kernel
theorem d_LW_law_136 : decode code 136 = .ok (.aload_n 0, 1) := by decide +kernel
theorem d_LW_law_137 : decode code 137 = .ok (.iload_n 3, 1) := by decide +kernel
theorem d_LW_law_138 : decode code 138 = .ok (.iconst 4, 1) := by decide +kernel
theorem d_LW_law_139 : decode code 139 = .ok (.iadd, 1) := by decide +kernel
theorem d_LW_law_140 : decode code 140 = .ok (.iaload, 1) := by decide +kernel
theorem d_LW_law_141 : decode code 141 = .ok (.aload_n 0, 1) := by decide +kernel
theorem d_LW_law_142 : decode code 142 = .ok (.iload_n 3, 1) := by decide +kernel
theorem d_LW_law_143 : decode code 143 = .ok (.iconst 5, 1) := by decide +kernel
theorem d_LW_law_144 : decode code 144 = .ok (.iadd, 1) := by decide +kernel
theorem d_LW_law_145 : decode code 145 = .ok (.iaload, 1) := by decide +kernel
theorem d_LW_law_146 : decode code 146 = .ok (.aload_n 0, 1) := by decide +kernel
theorem d_LW_law_147 : decode code 147 = .ok (.iload_n 3, 1) := by decide +kernel
theorem d_LW_law_148 : decode code 148 = .ok (.bipush 6, 2) := by decide +kernel
theorem d_LW_law_150 : decode code 150 = .ok (.iadd, 1) := by decide +kernel
theorem d_LW_law_151 : decode code 151 = .ok (.iaload, 1) := by decide +kernel
theorem d_LW_law_152 : decode code 152 = .ok (.invokevirtual 13, 3) := by decide +kernel
theorem d_LW_law_155 : decode code 155 = .ok (.aload_n 2, 1) := by decide +kernel
theorem d_LW_law_156 : decode code 156 = .ok (.aload_n 0, 1) := by decide +kernel
theorem d_LW_law_157 : decode code 157 = .ok (.iload_n 3, 1) := by decide +kernel
theorem d_LW_law_158 : decode code 158 = .ok (.iconst 1, 1) := by decide +kernel
theorem d_LW_law_159 : decode code 159 = .ok (.iadd, 1) := by decide +kernel
theorem d_LW_law_160 : decode code 160 = .ok (.iaload, 1) := by decide +kernel
theorem d_LW_law_161 : decode code 161 = .ok (.aload_n 0, 1) := by decide +kernel
theorem d_LW_law_162 : decode code 162 = .ok (.iload_n 3, 1) := by decide +kernel
theorem d_LW_law_163 : decode code 163 = .ok (.iconst 2, 1) := by decide +kernel
theorem d_LW_law_164 : decode code 164 = .ok (.iadd, 1) := by decide +kernel
theorem d_LW_law_165 : decode code 165 = .ok (.iaload, 1) := by decide +kernel
theorem d_LW_law_166 : decode code 166 = .ok (.aload_n 0, 1) := by decide +kernel
theorem d_LW_law_167 : decode code 167 = .ok (.iload_n 3, 1) := by decide +kernel
theorem d_LW_law_168 : decode code 168 = .ok (.iconst 3, 1) := by decide +kernel
theorem d_LW_law_169 : decode code 169 = .ok (.iadd, 1) := by decide +kernel
theorem d_LW_law_170 : decode code 170 = .ok (.iaload, 1) := by decide +kernel
theorem d_LW_law_171 : decode code 171 = .ok (.aload_n 0, 1) := by decide +kernel
theorem d_LW_law_172 : decode code 172 = .ok (.iload_n 3, 1) := by decide +kernel
theorem d_LW_law_173 : decode code 173 = .ok (.iconst 4, 1) := by decide +kernel
theorem d_LW_law_174 : decode code 174 = .ok (.iadd, 1) := by decide +kernel
theorem d_LW_law_175 : decode code 175 = .ok (.iaload, 1) := by decide +kernel
theorem d_LW_law_176 : decode code 176 = .ok (.aload_n 0, 1) := by decide +kernel
theorem d_LW_law_177 : decode code 177 = .ok (.iload_n 3, 1) := by decide +kernel
theorem d_LW_law_178 : decode code 178 = .ok (.iconst 5, 1) := by decide +kernel
theorem d_LW_law_179 : decode code 179 = .ok (.iadd, 1) := by decide +kernel
theorem d_LW_law_180 : decode code 180 = .ok (.iaload, 1) := by decide +kernel
theorem d_LW_law_181 : decode code 181 = .ok (.aload_n 0, 1) := by decide +kernel
theorem d_LW_law_182 : decode code 182 = .ok (.iload_n 3, 1) := by decide +kernel
theorem d_LW_law_183 : decode code 183 = .ok (.bipush 6, 2) := by decide +kernel
theorem d_LW_law_185 : decode code 185 = .ok (.iadd, 1) := by decide +kernel
theorem d_LW_law_186 : decode code 186 = .ok (.iaload, 1) := by decide +kernel
theorem d_LW_law_187 : decode code 187 = .ok (.invokevirtual 17, 3) := by decide +kernel
theorem d_LW_law_190 : decode code 190 = .ok (.if_icmp .eq 603, 3) := by decide +kernel
theorem d_LW_law_193 : decode code 193 = .ok (.iconst 0, 1) := by decide +kernel
theorem d_LW_law_194 : decode code 194 = .ok (.ireturn, 1) := by decide +kernel
theorem d_LW_law_195 : decode code 195 = .ok (.aload_n 1, 1) := by decide +kernel
theorem d_LW_law_196 : decode code 196 = .ok (.aload_n 0, 1) := by decide +kernel
theorem d_LW_law_197 : decode code 197 = .ok (.iload_n 3, 1) := by decide +kernel
theorem d_LW_law_198 : decode code 198 = .ok (.iconst 1, 1) := by decide +kernel
theorem d_LW_law_199 : decode code 199 = .ok (.iadd, 1) := by decide +kernel
theorem d_LW_law_200 : decode code 200 = .ok (.iaload, 1) := by decide +kernel
theorem d_LW_law_201 : decode code 201 = .ok (.aload_n 0, 1) := by decide +kernel
theorem d_LW_law_202 : decode code 202 = .ok (.iload_n 3, 1) := by decide +kernel
theorem d_LW_law_203 : decode code 203 = .ok (.iconst 2, 1) := by decide +kernel
theorem d_LW_law_204 : decode code 204 = .ok (.iadd, 1) := by decide +kernel
theorem d_LW_law_205 : decode code 205 = .ok (.iaload, 1) := by decide +kernel
theorem d_LW_law_206 : decode code 206 = .ok (.invokevirtual 18, 3) := by decide +kernel
theorem d_LW_law_209 : decode code 209 = .ok (.aload_n 2, 1) := by decide +kernel
theorem d_LW_law_210 : decode code 210 = .ok (.aload_n 0, 1) := by decide +kernel
theorem d_LW_law_211 : decode code 211 = .ok (.iload_n 3, 1) := by decide +kernel
theorem d_LW_law_212 : decode code 212 = .ok (.iconst 1, 1) := by decide +kernel
theorem d_LW_law_213 : decode code 213 = .ok (.iadd, 1) := by decide +kernel
theorem d_LW_law_214 : decode code 214 = .ok (.iaload, 1) := by decide +kernel
theorem d_LW_law_215 : decode code 215 = .ok (.aload_n 0, 1) := by decide +kernel
theorem d_LW_law_216 : decode code 216 = .ok (.iload_n 3, 1) := by decide +kernel
theorem d_LW_law_217 : decode code 217 = .ok (.iconst 2, 1) := by decide +kernel
theorem d_LW_law_218 : decode code 218 = .ok (.iadd, 1) := by decide +kernel
theorem d_LW_law_219 : decode code 219 = .ok (.iaload, 1) := by decide +kernel
theorem d_LW_law_220 : decode code 220 = .ok (.invokevirtual 22, 3) := by decide +kernel
theorem d_LW_law_223 : decode code 223 = .ok (.if_icmp .eq 570, 3) := by decide +kernel
theorem d_LW_law_226 : decode code 226 = .ok (.iconst 0, 1) := by decide +kernel
theorem d_LW_law_227 : decode code 227 = .ok (.ireturn, 1) := by decide +kernel
theorem d_LW_law_228 : decode code 228 = .ok (.aload_n 1, 1) := by decide +kernel
theorem d_LW_law_229 : decode code 229 = .ok (.aload_n 0, 1) := by decide +kernel
theorem d_LW_law_230 : decode code 230 = .ok (.iload_n 3, 1) := by decide +kernel
theorem d_LW_law_231 : decode code 231 = .ok (.iconst 1, 1) := by decide +kernel
theorem d_LW_law_232 : decode code 232 = .ok (.iadd, 1) := by decide +kernel
theorem d_LW_law_233 : decode code 233 = .ok (.iaload, 1) := by decide +kernel
theorem d_LW_law_234 : decode code 234 = .ok (.aload_n 0, 1) := by decide +kernel
theorem d_LW_law_235 : decode code 235 = .ok (.iload_n 3, 1) := by decide +kernel
theorem d_LW_law_236 : decode code 236 = .ok (.iconst 2, 1) := by decide +kernel
theorem d_LW_law_237 : decode code 237 = .ok (.iadd, 1) := by decide +kernel
theorem d_LW_law_238 : decode code 238 = .ok (.iaload, 1) := by decide +kernel
theorem d_LW_law_239 : decode code 239 = .ok (.invokevirtual 23, 3) := by decide +kernel
theorem d_LW_law_242 : decode code 242 = .ok (.aload_n 2, 1) := by decide +kernel
theorem d_LW_law_243 : decode code 243 = .ok (.aload_n 0, 1) := by decide +kernel
theorem d_LW_law_244 : decode code 244 = .ok (.iload_n 3, 1) := by decide +kernel
theorem d_LW_law_245 : decode code 245 = .ok (.iconst 1, 1) := by decide +kernel
theorem d_LW_law_246 : decode code 246 = .ok (.iadd, 1) := by decide +kernel
theorem d_LW_law_247 : decode code 247 = .ok (.iaload, 1) := by decide +kernel
theorem d_LW_law_248 : decode code 248 = .ok (.aload_n 0, 1) := by decide +kernel
theorem d_LW_law_249 : decode code 249 = .ok (.iload_n 3, 1) := by decide +kernel
theorem d_LW_law_250 : decode code 250 = .ok (.iconst 2, 1) := by decide +kernel
theorem d_LW_law_251 : decode code 251 = .ok (.iadd, 1) := by decide +kernel
theorem d_LW_law_252 : decode code 252 = .ok (.iaload, 1) := by decide +kernel
theorem d_LW_law_253 : decode code 253 = .ok (.invokevirtual 26, 3) := by decide +kernel
theorem d_LW_law_256 : decode code 256 = .ok (.if_icmp .eq 537, 3) := by decide +kernel
theorem d_LW_law_259 : decode code 259 = .ok (.iconst 0, 1) := by decide +kernel
theorem d_LW_law_260 : decode code 260 = .ok (.ireturn, 1) := by decide +kernel
theorem d_LW_law_261 : decode code 261 = .ok (.aload_n 1, 1) := by decide +kernel
theorem d_LW_law_262 : decode code 262 = .ok (.invokevirtual 27, 3) := by decide +kernel
theorem d_LW_law_265 : decode code 265 = .ok (.aload_n 2, 1) := by decide +kernel
theorem d_LW_law_266 : decode code 266 = .ok (.invokevirtual 31, 3) := by decide +kernel
theorem d_LW_law_269 : decode code 269 = .ok (.if_icmp .eq 524, 3) := by decide +kernel
theorem d_LW_law_272 : decode code 272 = .ok (.iconst 0, 1) := by decide +kernel
theorem d_LW_law_273 : decode code 273 = .ok (.ireturn, 1) := by decide +kernel
theorem d_LW_law_274 : decode code 274 = .ok (.aload_n 1, 1) := by decide +kernel
theorem d_LW_law_275 : decode code 275 = .ok (.invokevirtual 32, 3) := by decide +kernel
theorem d_LW_law_278 : decode code 278 = .ok (.aload_n 2, 1) := by decide +kernel
theorem d_LW_law_279 : decode code 279 = .ok (.invokevirtual 35, 3) := by decide +kernel
theorem d_LW_law_282 : decode code 282 = .ok (.if_icmp .eq 511, 3) := by decide +kernel
theorem d_LW_law_285 : decode code 285 = .ok (.iconst 0, 1) := by decide +kernel
theorem d_LW_law_286 : decode code 286 = .ok (.ireturn, 1) := by decide +kernel
theorem d_LW_law_287 : decode code 287 = .ok (.aload_n 1, 1) := by decide +kernel
theorem d_LW_law_288 : decode code 288 = .ok (.aload_n 0, 1) := by decide +kernel
theorem d_LW_law_289 : decode code 289 = .ok (.iload_n 3, 1) := by decide +kernel
theorem d_LW_law_290 : decode code 290 = .ok (.iconst 1, 1) := by decide +kernel
theorem d_LW_law_291 : decode code 291 = .ok (.iadd, 1) := by decide +kernel
theorem d_LW_law_292 : decode code 292 = .ok (.iaload, 1) := by decide +kernel
theorem d_LW_law_293 : decode code 293 = .ok (.aload_n 0, 1) := by decide +kernel
theorem d_LW_law_294 : decode code 294 = .ok (.iload_n 3, 1) := by decide +kernel
theorem d_LW_law_295 : decode code 295 = .ok (.iconst 2, 1) := by decide +kernel
theorem d_LW_law_296 : decode code 296 = .ok (.iadd, 1) := by decide +kernel
theorem d_LW_law_297 : decode code 297 = .ok (.iaload, 1) := by decide +kernel
theorem d_LW_law_298 : decode code 298 = .ok (.aload_n 0, 1) := by decide +kernel
theorem d_LW_law_299 : decode code 299 = .ok (.iload_n 3, 1) := by decide +kernel
theorem d_LW_law_300 : decode code 300 = .ok (.iconst 3, 1) := by decide +kernel
theorem d_LW_law_301 : decode code 301 = .ok (.iadd, 1) := by decide +kernel
theorem d_LW_law_302 : decode code 302 = .ok (.iaload, 1) := by decide +kernel
theorem d_LW_law_303 : decode code 303 = .ok (.invokevirtual 36, 3) := by decide +kernel
theorem d_LW_law_306 : decode code 306 = .ok (.aload_n 2, 1) := by decide +kernel
theorem d_LW_law_307 : decode code 307 = .ok (.aload_n 0, 1) := by decide +kernel
theorem d_LW_law_308 : decode code 308 = .ok (.iload_n 3, 1) := by decide +kernel
theorem d_LW_law_309 : decode code 309 = .ok (.iconst 1, 1) := by decide +kernel
theorem d_LW_law_310 : decode code 310 = .ok (.iadd, 1) := by decide +kernel
theorem d_LW_law_311 : decode code 311 = .ok (.iaload, 1) := by decide +kernel
theorem d_LW_law_312 : decode code 312 = .ok (.aload_n 0, 1) := by decide +kernel
theorem d_LW_law_313 : decode code 313 = .ok (.iload_n 3, 1) := by decide +kernel
theorem d_LW_law_314 : decode code 314 = .ok (.iconst 2, 1) := by decide +kernel
theorem d_LW_law_315 : decode code 315 = .ok (.iadd, 1) := by decide +kernel
theorem d_LW_law_316 : decode code 316 = .ok (.iaload, 1) := by decide +kernel
theorem d_LW_law_317 : decode code 317 = .ok (.aload_n 0, 1) := by decide +kernel
theorem d_LW_law_318 : decode code 318 = .ok (.iload_n 3, 1) := by decide +kernel
theorem d_LW_law_319 : decode code 319 = .ok (.iconst 3, 1) := by decide +kernel
theorem d_LW_law_320 : decode code 320 = .ok (.iadd, 1) := by decide +kernel
theorem d_LW_law_321 : decode code 321 = .ok (.iaload, 1) := by decide +kernel
theorem d_LW_law_322 : decode code 322 = .ok (.invokevirtual 40, 3) := by decide +kernel
theorem d_LW_law_325 : decode code 325 = .ok (.if_icmp .eq 468, 3) := by decide +kernel
theorem d_LW_law_328 : decode code 328 = .ok (.iconst 0, 1) := by decide +kernel
theorem d_LW_law_329 : decode code 329 = .ok (.ireturn, 1) := by decide +kernel
theorem d_LW_law_330 : decode code 330 = .ok (.aload_n 1, 1) := by decide +kernel
theorem d_LW_law_331 : decode code 331 = .ok (.aload_n 0, 1) := by decide +kernel
theorem d_LW_law_332 : decode code 332 = .ok (.iload_n 3, 1) := by decide +kernel
theorem d_LW_law_333 : decode code 333 = .ok (.iconst 1, 1) := by decide +kernel
theorem d_LW_law_334 : decode code 334 = .ok (.iadd, 1) := by decide +kernel
theorem d_LW_law_335 : decode code 335 = .ok (.iaload, 1) := by decide +kernel
theorem d_LW_law_336 : decode code 336 = .ok (.aload_n 0, 1) := by decide +kernel
theorem d_LW_law_337 : decode code 337 = .ok (.iload_n 3, 1) := by decide +kernel
theorem d_LW_law_338 : decode code 338 = .ok (.iconst 2, 1) := by decide +kernel
theorem d_LW_law_339 : decode code 339 = .ok (.iadd, 1) := by decide +kernel
theorem d_LW_law_340 : decode code 340 = .ok (.iaload, 1) := by decide +kernel
theorem d_LW_law_341 : decode code 341 = .ok (.aload_n 0, 1) := by decide +kernel
theorem d_LW_law_342 : decode code 342 = .ok (.iload_n 3, 1) := by decide +kernel
theorem d_LW_law_343 : decode code 343 = .ok (.iconst 3, 1) := by decide +kernel
theorem d_LW_law_344 : decode code 344 = .ok (.iadd, 1) := by decide +kernel
theorem d_LW_law_345 : decode code 345 = .ok (.iaload, 1) := by decide +kernel
theorem d_LW_law_346 : decode code 346 = .ok (.invokevirtual 41, 3) := by decide +kernel
theorem d_LW_law_349 : decode code 349 = .ok (.aload_n 2, 1) := by decide +kernel
theorem d_LW_law_350 : decode code 350 = .ok (.aload_n 0, 1) := by decide +kernel
theorem d_LW_law_351 : decode code 351 = .ok (.iload_n 3, 1) := by decide +kernel
theorem d_LW_law_352 : decode code 352 = .ok (.iconst 1, 1) := by decide +kernel
theorem d_LW_law_353 : decode code 353 = .ok (.iadd, 1) := by decide +kernel
theorem d_LW_law_354 : decode code 354 = .ok (.iaload, 1) := by decide +kernel
theorem d_LW_law_355 : decode code 355 = .ok (.aload_n 0, 1) := by decide +kernel
theorem d_LW_law_356 : decode code 356 = .ok (.iload_n 3, 1) := by decide +kernel
theorem d_LW_law_357 : decode code 357 = .ok (.iconst 2, 1) := by decide +kernel
theorem d_LW_law_358 : decode code 358 = .ok (.iadd, 1) := by decide +kernel
theorem d_LW_law_359 : decode code 359 = .ok (.iaload, 1) := by decide +kernel
theorem d_LW_law_360 : decode code 360 = .ok (.aload_n 0, 1) := by decide +kernel
theorem d_LW_law_361 : decode code 361 = .ok (.iload_n 3, 1) := by decide +kernel
theorem d_LW_law_362 : decode code 362 = .ok (.iconst 3, 1) := by decide +kernel
theorem d_LW_law_363 : decode code 363 = .ok (.iadd, 1) := by decide +kernel
theorem d_LW_law_364 : decode code 364 = .ok (.iaload, 1) := by decide +kernel
theorem d_LW_law_365 : decode code 365 = .ok (.invokevirtual 45, 3) := by decide +kernel
theorem d_LW_law_368 : decode code 368 = .ok (.lcmp, 1) := by decide +kernel
theorem d_LW_law_369 : decode code 369 = .ok (.ifCond .eq 424, 3) := by decide +kernel
theorem d_LW_law_372 : decode code 372 = .ok (.iconst 0, 1) := by decide +kernel
theorem d_LW_law_373 : decode code 373 = .ok (.ireturn, 1) := by decide +kernel
theorem d_LW_law_374 : decode code 374 = .ok (.aload_n 1, 1) := by decide +kernel
theorem d_LW_law_375 : decode code 375 = .ok (.aload_n 0, 1) := by decide +kernel
theorem d_LW_law_376 : decode code 376 = .ok (.iload_n 3, 1) := by decide +kernel
theorem d_LW_law_377 : decode code 377 = .ok (.iconst 1, 1) := by decide +kernel
theorem d_LW_law_378 : decode code 378 = .ok (.iadd, 1) := by decide +kernel
theorem d_LW_law_379 : decode code 379 = .ok (.iaload, 1) := by decide +kernel
theorem d_LW_law_380 : decode code 380 = .ok (.invokevirtual 46, 3) := by decide +kernel
theorem d_LW_law_383 : decode code 383 = .ok (.aload_n 2, 1) := by decide +kernel
theorem d_LW_law_384 : decode code 384 = .ok (.aload_n 0, 1) := by decide +kernel
theorem d_LW_law_385 : decode code 385 = .ok (.iload_n 3, 1) := by decide +kernel
theorem d_LW_law_386 : decode code 386 = .ok (.iconst 1, 1) := by decide +kernel
theorem d_LW_law_387 : decode code 387 = .ok (.iadd, 1) := by decide +kernel
theorem d_LW_law_388 : decode code 388 = .ok (.iaload, 1) := by decide +kernel
theorem d_LW_law_389 : decode code 389 = .ok (.invokevirtual 50, 3) := by decide +kernel
theorem d_LW_law_392 : decode code 392 = .ok (.if_icmp .eq 401, 3) := by decide +kernel
theorem d_LW_law_395 : decode code 395 = .ok (.iconst 0, 1) := by decide +kernel
theorem d_LW_law_396 : decode code 396 = .ok (.ireturn, 1) := by decide +kernel
theorem d_LW_law_397 : decode code 397 = .ok (.aload_n 1, 1) := by decide +kernel
theorem d_LW_law_398 : decode code 398 = .ok (.aload_n 0, 1) := by decide +kernel
theorem d_LW_law_399 : decode code 399 = .ok (.iload_n 3, 1) := by decide +kernel
theorem d_LW_law_400 : decode code 400 = .ok (.iconst 1, 1) := by decide +kernel
theorem d_LW_law_401 : decode code 401 = .ok (.iadd, 1) := by decide +kernel
theorem d_LW_law_402 : decode code 402 = .ok (.iaload, 1) := by decide +kernel
theorem d_LW_law_403 : decode code 403 = .ok (.aload_n 0, 1) := by decide +kernel
theorem d_LW_law_404 : decode code 404 = .ok (.iload_n 3, 1) := by decide +kernel
theorem d_LW_law_405 : decode code 405 = .ok (.iconst 2, 1) := by decide +kernel
theorem d_LW_law_406 : decode code 406 = .ok (.iadd, 1) := by decide +kernel
theorem d_LW_law_407 : decode code 407 = .ok (.iaload, 1) := by decide +kernel
theorem d_LW_law_408 : decode code 408 = .ok (.aload_n 0, 1) := by decide +kernel
theorem d_LW_law_409 : decode code 409 = .ok (.iload_n 3, 1) := by decide +kernel
theorem d_LW_law_410 : decode code 410 = .ok (.iconst 3, 1) := by decide +kernel
theorem d_LW_law_411 : decode code 411 = .ok (.iadd, 1) := by decide +kernel
theorem d_LW_law_412 : decode code 412 = .ok (.iaload, 1) := by decide +kernel
theorem d_LW_law_413 : decode code 413 = .ok (.aload_n 0, 1) := by decide +kernel
theorem d_LW_law_414 : decode code 414 = .ok (.iload_n 3, 1) := by decide +kernel
theorem d_LW_law_415 : decode code 415 = .ok (.iconst 4, 1) := by decide +kernel
theorem d_LW_law_416 : decode code 416 = .ok (.iadd, 1) := by decide +kernel
theorem d_LW_law_417 : decode code 417 = .ok (.iaload, 1) := by decide +kernel
theorem d_LW_law_418 : decode code 418 = .ok (.aload_n 0, 1) := by decide +kernel
theorem d_LW_law_419 : decode code 419 = .ok (.iload_n 3, 1) := by decide +kernel
theorem d_LW_law_420 : decode code 420 = .ok (.iconst 5, 1) := by decide +kernel
theorem d_LW_law_421 : decode code 421 = .ok (.iadd, 1) := by decide +kernel
theorem d_LW_law_422 : decode code 422 = .ok (.iaload, 1) := by decide +kernel
theorem d_LW_law_423 : decode code 423 = .ok (.invokevirtual 51, 3) := by decide +kernel
theorem d_LW_law_426 : decode code 426 = .ok (.aload_n 2, 1) := by decide +kernel
theorem d_LW_law_427 : decode code 427 = .ok (.aload_n 0, 1) := by decide +kernel
theorem d_LW_law_428 : decode code 428 = .ok (.iload_n 3, 1) := by decide +kernel
theorem d_LW_law_429 : decode code 429 = .ok (.iconst 1, 1) := by decide +kernel
theorem d_LW_law_430 : decode code 430 = .ok (.iadd, 1) := by decide +kernel
theorem d_LW_law_431 : decode code 431 = .ok (.iaload, 1) := by decide +kernel
theorem d_LW_law_432 : decode code 432 = .ok (.aload_n 0, 1) := by decide +kernel
theorem d_LW_law_433 : decode code 433 = .ok (.iload_n 3, 1) := by decide +kernel
theorem d_LW_law_434 : decode code 434 = .ok (.iconst 2, 1) := by decide +kernel
theorem d_LW_law_435 : decode code 435 = .ok (.iadd, 1) := by decide +kernel
theorem d_LW_law_436 : decode code 436 = .ok (.iaload, 1) := by decide +kernel
theorem d_LW_law_437 : decode code 437 = .ok (.aload_n 0, 1) := by decide +kernel
theorem d_LW_law_438 : decode code 438 = .ok (.iload_n 3, 1) := by decide +kernel
theorem d_LW_law_439 : decode code 439 = .ok (.iconst 3, 1) := by decide +kernel
theorem d_LW_law_440 : decode code 440 = .ok (.iadd, 1) := by decide +kernel
theorem d_LW_law_441 : decode code 441 = .ok (.iaload, 1) := by decide +kernel
theorem d_LW_law_442 : decode code 442 = .ok (.aload_n 0, 1) := by decide +kernel
theorem d_LW_law_443 : decode code 443 = .ok (.iload_n 3, 1) := by decide +kernel
theorem d_LW_law_444 : decode code 444 = .ok (.iconst 4, 1) := by decide +kernel
theorem d_LW_law_445 : decode code 445 = .ok (.iadd, 1) := by decide +kernel
theorem d_LW_law_446 : decode code 446 = .ok (.iaload, 1) := by decide +kernel
theorem d_LW_law_447 : decode code 447 = .ok (.aload_n 0, 1) := by decide +kernel
theorem d_LW_law_448 : decode code 448 = .ok (.iload_n 3, 1) := by decide +kernel
theorem d_LW_law_449 : decode code 449 = .ok (.iconst 5, 1) := by decide +kernel
theorem d_LW_law_450 : decode code 450 = .ok (.iadd, 1) := by decide +kernel
theorem d_LW_law_451 : decode code 451 = .ok (.iaload, 1) := by decide +kernel
theorem d_LW_law_452 : decode code 452 = .ok (.invokevirtual 55, 3) := by decide +kernel
theorem d_LW_law_455 : decode code 455 = .ok (.if_icmp .eq 338, 3) := by decide +kernel
theorem d_LW_law_458 : decode code 458 = .ok (.iconst 0, 1) := by decide +kernel
theorem d_LW_law_459 : decode code 459 = .ok (.ireturn, 1) := by decide +kernel
theorem d_LW_law_460 : decode code 460 = .ok (.aload_n 1, 1) := by decide +kernel
theorem d_LW_law_461 : decode code 461 = .ok (.aload_n 0, 1) := by decide +kernel
theorem d_LW_law_462 : decode code 462 = .ok (.iload_n 3, 1) := by decide +kernel
theorem d_LW_law_463 : decode code 463 = .ok (.iconst 1, 1) := by decide +kernel
theorem d_LW_law_464 : decode code 464 = .ok (.iadd, 1) := by decide +kernel
theorem d_LW_law_465 : decode code 465 = .ok (.iaload, 1) := by decide +kernel
theorem d_LW_law_466 : decode code 466 = .ok (.aload_n 0, 1) := by decide +kernel
theorem d_LW_law_467 : decode code 467 = .ok (.iload_n 3, 1) := by decide +kernel
theorem d_LW_law_468 : decode code 468 = .ok (.iconst 2, 1) := by decide +kernel
theorem d_LW_law_469 : decode code 469 = .ok (.iadd, 1) := by decide +kernel
theorem d_LW_law_470 : decode code 470 = .ok (.iaload, 1) := by decide +kernel
theorem d_LW_law_471 : decode code 471 = .ok (.aload_n 0, 1) := by decide +kernel
theorem d_LW_law_472 : decode code 472 = .ok (.iload_n 3, 1) := by decide +kernel
theorem d_LW_law_473 : decode code 473 = .ok (.iconst 3, 1) := by decide +kernel
theorem d_LW_law_474 : decode code 474 = .ok (.iadd, 1) := by decide +kernel
theorem d_LW_law_475 : decode code 475 = .ok (.iaload, 1) := by decide +kernel
theorem d_LW_law_476 : decode code 476 = .ok (.aload_n 0, 1) := by decide +kernel
theorem d_LW_law_477 : decode code 477 = .ok (.iload_n 3, 1) := by decide +kernel
theorem d_LW_law_478 : decode code 478 = .ok (.iconst 4, 1) := by decide +kernel
theorem d_LW_law_479 : decode code 479 = .ok (.iadd, 1) := by decide +kernel
theorem d_LW_law_480 : decode code 480 = .ok (.iaload, 1) := by decide +kernel
theorem d_LW_law_481 : decode code 481 = .ok (.aload_n 0, 1) := by decide +kernel
theorem d_LW_law_482 : decode code 482 = .ok (.iload_n 3, 1) := by decide +kernel
theorem d_LW_law_483 : decode code 483 = .ok (.iconst 5, 1) := by decide +kernel
theorem d_LW_law_484 : decode code 484 = .ok (.iadd, 1) := by decide +kernel
theorem d_LW_law_485 : decode code 485 = .ok (.iaload, 1) := by decide +kernel
theorem d_LW_law_486 : decode code 486 = .ok (.invokevirtual 56, 3) := by decide +kernel
theorem d_LW_law_489 : decode code 489 = .ok (.aload_n 2, 1) := by decide +kernel
theorem d_LW_law_490 : decode code 490 = .ok (.aload_n 0, 1) := by decide +kernel
theorem d_LW_law_491 : decode code 491 = .ok (.iload_n 3, 1) := by decide +kernel
theorem d_LW_law_492 : decode code 492 = .ok (.iconst 1, 1) := by decide +kernel
theorem d_LW_law_493 : decode code 493 = .ok (.iadd, 1) := by decide +kernel
theorem d_LW_law_494 : decode code 494 = .ok (.iaload, 1) := by decide +kernel
theorem d_LW_law_495 : decode code 495 = .ok (.aload_n 0, 1) := by decide +kernel
theorem d_LW_law_496 : decode code 496 = .ok (.iload_n 3, 1) := by decide +kernel
theorem d_LW_law_497 : decode code 497 = .ok (.iconst 2, 1) := by decide +kernel
theorem d_LW_law_498 : decode code 498 = .ok (.iadd, 1) := by decide +kernel
theorem d_LW_law_499 : decode code 499 = .ok (.iaload, 1) := by decide +kernel
theorem d_LW_law_500 : decode code 500 = .ok (.aload_n 0, 1) := by decide +kernel
theorem d_LW_law_501 : decode code 501 = .ok (.iload_n 3, 1) := by decide +kernel
theorem d_LW_law_502 : decode code 502 = .ok (.iconst 3, 1) := by decide +kernel
theorem d_LW_law_503 : decode code 503 = .ok (.iadd, 1) := by decide +kernel
theorem d_LW_law_504 : decode code 504 = .ok (.iaload, 1) := by decide +kernel
theorem d_LW_law_505 : decode code 505 = .ok (.aload_n 0, 1) := by decide +kernel
theorem d_LW_law_506 : decode code 506 = .ok (.iload_n 3, 1) := by decide +kernel
theorem d_LW_law_507 : decode code 507 = .ok (.iconst 4, 1) := by decide +kernel
theorem d_LW_law_508 : decode code 508 = .ok (.iadd, 1) := by decide +kernel
theorem d_LW_law_509 : decode code 509 = .ok (.iaload, 1) := by decide +kernel
theorem d_LW_law_510 : decode code 510 = .ok (.aload_n 0, 1) := by decide +kernel
theorem d_LW_law_511 : decode code 511 = .ok (.iload_n 3, 1) := by decide +kernel
theorem d_LW_law_512 : decode code 512 = .ok (.iconst 5, 1) := by decide +kernel
theorem d_LW_law_513 : decode code 513 = .ok (.iadd, 1) := by decide +kernel
theorem d_LW_law_514 : decode code 514 = .ok (.iaload, 1) := by decide +kernel
theorem d_LW_law_515 : decode code 515 = .ok (.invokevirtual 60, 3) := by decide +kernel
theorem d_LW_law_518 : decode code 518 = .ok (.lcmp, 1) := by decide +kernel
theorem d_LW_law_519 : decode code 519 = .ok (.ifCond .eq 274, 3) := by decide +kernel
theorem d_LW_law_522 : decode code 522 = .ok (.iconst 0, 1) := by decide +kernel
theorem d_LW_law_523 : decode code 523 = .ok (.ireturn, 1) := by decide +kernel
theorem d_LW_law_524 : decode code 524 = .ok (.aload_n 1, 1) := by decide +kernel
theorem d_LW_law_525 : decode code 525 = .ok (.aload_n 0, 1) := by decide +kernel
theorem d_LW_law_526 : decode code 526 = .ok (.iload_n 3, 1) := by decide +kernel
theorem d_LW_law_527 : decode code 527 = .ok (.iconst 1, 1) := by decide +kernel
theorem d_LW_law_528 : decode code 528 = .ok (.iadd, 1) := by decide +kernel
theorem d_LW_law_529 : decode code 529 = .ok (.iaload, 1) := by decide +kernel
theorem d_LW_law_530 : decode code 530 = .ok (.aload_n 0, 1) := by decide +kernel
theorem d_LW_law_531 : decode code 531 = .ok (.iload_n 3, 1) := by decide +kernel
theorem d_LW_law_532 : decode code 532 = .ok (.iconst 2, 1) := by decide +kernel
theorem d_LW_law_533 : decode code 533 = .ok (.iadd, 1) := by decide +kernel
theorem d_LW_law_534 : decode code 534 = .ok (.iaload, 1) := by decide +kernel
theorem d_LW_law_535 : decode code 535 = .ok (.invokevirtual 61, 3) := by decide +kernel
theorem d_LW_law_538 : decode code 538 = .ok (.aload_n 2, 1) := by decide +kernel
theorem d_LW_law_539 : decode code 539 = .ok (.aload_n 0, 1) := by decide +kernel
theorem d_LW_law_540 : decode code 540 = .ok (.iload_n 3, 1) := by decide +kernel
theorem d_LW_law_541 : decode code 541 = .ok (.iconst 1, 1) := by decide +kernel
theorem d_LW_law_542 : decode code 542 = .ok (.iadd, 1) := by decide +kernel
theorem d_LW_law_543 : decode code 543 = .ok (.iaload, 1) := by decide +kernel
theorem d_LW_law_544 : decode code 544 = .ok (.aload_n 0, 1) := by decide +kernel
theorem d_LW_law_545 : decode code 545 = .ok (.iload_n 3, 1) := by decide +kernel
theorem d_LW_law_546 : decode code 546 = .ok (.iconst 2, 1) := by decide +kernel
theorem d_LW_law_547 : decode code 547 = .ok (.iadd, 1) := by decide +kernel
theorem d_LW_law_548 : decode code 548 = .ok (.iaload, 1) := by decide +kernel
theorem d_LW_law_549 : decode code 549 = .ok (.invokevirtual 65, 3) := by decide +kernel
theorem d_LW_law_552 : decode code 552 = .ok (.lcmp, 1) := by decide +kernel
theorem d_LW_law_553 : decode code 553 = .ok (.ifCond .eq 240, 3) := by decide +kernel
theorem d_LW_law_556 : decode code 556 = .ok (.iconst 0, 1) := by decide +kernel
theorem d_LW_law_557 : decode code 557 = .ok (.ireturn, 1) := by decide +kernel
theorem d_LW_law_558 : decode code 558 = .ok (.aload_n 1, 1) := by decide +kernel
theorem d_LW_law_559 : decode code 559 = .ok (.invokevirtual 66, 3) := by decide +kernel
theorem d_LW_law_562 : decode code 562 = .ok (.aload_n 2, 1) := by decide +kernel
theorem d_LW_law_563 : decode code 563 = .ok (.invokevirtual 69, 3) := by decide +kernel
theorem d_LW_law_566 : decode code 566 = .ok (.if_icmp .eq 227, 3) := by decide +kernel
theorem d_LW_law_569 : decode code 569 = .ok (.iconst 0, 1) := by decide +kernel
theorem d_LW_law_570 : decode code 570 = .ok (.ireturn, 1) := by decide +kernel
theorem d_LW_law_571 : decode code 571 = .ok (.aload_n 1, 1) := by decide +kernel
theorem d_LW_law_572 : decode code 572 = .ok (.aload_n 0, 1) := by decide +kernel
theorem d_LW_law_573 : decode code 573 = .ok (.iload_n 3, 1) := by decide +kernel
theorem d_LW_law_574 : decode code 574 = .ok (.iconst 1, 1) := by decide +kernel
theorem d_LW_law_575 : decode code 575 = .ok (.iadd, 1) := by decide +kernel
theorem d_LW_law_576 : decode code 576 = .ok (.iaload, 1) := by decide +kernel
theorem d_LW_law_577 : decode code 577 = .ok (.invokevirtual 70, 3) := by decide +kernel
theorem d_LW_law_580 : decode code 580 = .ok (.aload_n 2, 1) := by decide +kernel
theorem d_LW_law_581 : decode code 581 = .ok (.aload_n 0, 1) := by decide +kernel
theorem d_LW_law_582 : decode code 582 = .ok (.iload_n 3, 1) := by decide +kernel
theorem d_LW_law_583 : decode code 583 = .ok (.iconst 1, 1) := by decide +kernel
theorem d_LW_law_584 : decode code 584 = .ok (.iadd, 1) := by decide +kernel
theorem d_LW_law_585 : decode code 585 = .ok (.iaload, 1) := by decide +kernel
theorem d_LW_law_586 : decode code 586 = .ok (.invokevirtual 74, 3) := by decide +kernel
theorem d_LW_law_589 : decode code 589 = .ok (.lcmp, 1) := by decide +kernel
theorem d_LW_law_590 : decode code 590 = .ok (.ifCond .eq 203, 3) := by decide +kernel
theorem d_LW_law_593 : decode code 593 = .ok (.iconst 0, 1) := by decide +kernel
theorem d_LW_law_594 : decode code 594 = .ok (.ireturn, 1) := by decide +kernel
theorem d_LW_law_595 : decode code 595 = .ok (.aload_n 1, 1) := by decide +kernel
theorem d_LW_law_596 : decode code 596 = .ok (.aload_n 0, 1) := by decide +kernel
theorem d_LW_law_597 : decode code 597 = .ok (.iload_n 3, 1) := by decide +kernel
theorem d_LW_law_598 : decode code 598 = .ok (.iconst 1, 1) := by decide +kernel
theorem d_LW_law_599 : decode code 599 = .ok (.iadd, 1) := by decide +kernel
theorem d_LW_law_600 : decode code 600 = .ok (.iaload, 1) := by decide +kernel
theorem d_LW_law_601 : decode code 601 = .ok (.invokevirtual 75, 3) := by decide +kernel
theorem d_LW_law_604 : decode code 604 = .ok (.aload_n 2, 1) := by decide +kernel
theorem d_LW_law_605 : decode code 605 = .ok (.aload_n 0, 1) := by decide +kernel
theorem d_LW_law_606 : decode code 606 = .ok (.iload_n 3, 1) := by decide +kernel
theorem d_LW_law_607 : decode code 607 = .ok (.iconst 1, 1) := by decide +kernel
theorem d_LW_law_608 : decode code 608 = .ok (.iadd, 1) := by decide +kernel
theorem d_LW_law_609 : decode code 609 = .ok (.iaload, 1) := by decide +kernel
theorem d_LW_law_610 : decode code 610 = .ok (.invokevirtual 78, 3) := by decide +kernel
theorem d_LW_law_613 : decode code 613 = .ok (.if_icmp .eq 180, 3) := by decide +kernel
theorem d_LW_law_616 : decode code 616 = .ok (.iconst 0, 1) := by decide +kernel
theorem d_LW_law_617 : decode code 617 = .ok (.ireturn, 1) := by decide +kernel
theorem d_LW_law_618 : decode code 618 = .ok (.aload_n 1, 1) := by decide +kernel
theorem d_LW_law_619 : decode code 619 = .ok (.aload_n 0, 1) := by decide +kernel
theorem d_LW_law_620 : decode code 620 = .ok (.iload_n 3, 1) := by decide +kernel
theorem d_LW_law_621 : decode code 621 = .ok (.iconst 1, 1) := by decide +kernel
theorem d_LW_law_622 : decode code 622 = .ok (.iadd, 1) := by decide +kernel
theorem d_LW_law_623 : decode code 623 = .ok (.iaload, 1) := by decide +kernel
theorem d_LW_law_624 : decode code 624 = .ok (.invokevirtual 79, 3) := by decide +kernel
theorem d_LW_law_627 : decode code 627 = .ok (.aload_n 2, 1) := by decide +kernel
theorem d_LW_law_628 : decode code 628 = .ok (.aload_n 0, 1) := by decide +kernel
theorem d_LW_law_629 : decode code 629 = .ok (.iload_n 3, 1) := by decide +kernel
theorem d_LW_law_630 : decode code 630 = .ok (.iconst 1, 1) := by decide +kernel
theorem d_LW_law_631 : decode code 631 = .ok (.iadd, 1) := by decide +kernel
theorem d_LW_law_632 : decode code 632 = .ok (.iaload, 1) := by decide +kernel
theorem d_LW_law_633 : decode code 633 = .ok (.invokevirtual 82, 3) := by decide +kernel
theorem d_LW_law_636 : decode code 636 = .ok (.lcmp, 1) := by decide +kernel
theorem d_LW_law_637 : decode code 637 = .ok (.ifCond .eq 156, 3) := by decide +kernel
theorem d_LW_law_640 : decode code 640 = .ok (.iconst 0, 1) := by decide +kernel
theorem d_LW_law_641 : decode code 641 = .ok (.ireturn, 1) := by decide +kernel
theorem d_LW_law_642 : decode code 642 = .ok (.aload_n 1, 1) := by decide +kernel
theorem d_LW_law_643 : decode code 643 = .ok (.aload_n 0, 1) := by decide +kernel
theorem d_LW_law_644 : decode code 644 = .ok (.iload_n 3, 1) := by decide +kernel
theorem d_LW_law_645 : decode code 645 = .ok (.iconst 1, 1) := by decide +kernel
theorem d_LW_law_646 : decode code 646 = .ok (.iadd, 1) := by decide +kernel
theorem d_LW_law_647 : decode code 647 = .ok (.iaload, 1) := by decide +kernel
theorem d_LW_law_648 : decode code 648 = .ok (.aload_n 0, 1) := by decide +kernel
theorem d_LW_law_649 : decode code 649 = .ok (.iload_n 3, 1) := by decide +kernel
theorem d_LW_law_650 : decode code 650 = .ok (.iconst 2, 1) := by decide +kernel
theorem d_LW_law_651 : decode code 651 = .ok (.iadd, 1) := by decide +kernel
theorem d_LW_law_652 : decode code 652 = .ok (.iaload, 1) := by decide +kernel
theorem d_LW_law_653 : decode code 653 = .ok (.aload_n 0, 1) := by decide +kernel
theorem d_LW_law_654 : decode code 654 = .ok (.iload_n 3, 1) := by decide +kernel
theorem d_LW_law_655 : decode code 655 = .ok (.iconst 3, 1) := by decide +kernel
theorem d_LW_law_656 : decode code 656 = .ok (.iadd, 1) := by decide +kernel
theorem d_LW_law_657 : decode code 657 = .ok (.iaload, 1) := by decide +kernel
theorem d_LW_law_658 : decode code 658 = .ok (.aload_n 0, 1) := by decide +kernel
theorem d_LW_law_659 : decode code 659 = .ok (.iload_n 3, 1) := by decide +kernel
theorem d_LW_law_660 : decode code 660 = .ok (.iconst 4, 1) := by decide +kernel
theorem d_LW_law_661 : decode code 661 = .ok (.iadd, 1) := by decide +kernel
theorem d_LW_law_662 : decode code 662 = .ok (.iaload, 1) := by decide +kernel
theorem d_LW_law_663 : decode code 663 = .ok (.aload_n 0, 1) := by decide +kernel
theorem d_LW_law_664 : decode code 664 = .ok (.iload_n 3, 1) := by decide +kernel
theorem d_LW_law_665 : decode code 665 = .ok (.iconst 5, 1) := by decide +kernel
theorem d_LW_law_666 : decode code 666 = .ok (.iadd, 1) := by decide +kernel
theorem d_LW_law_667 : decode code 667 = .ok (.iaload, 1) := by decide +kernel
theorem d_LW_law_668 : decode code 668 = .ok (.invokevirtual 83, 3) := by decide +kernel
theorem d_LW_law_671 : decode code 671 = .ok (.aload_n 2, 1) := by decide +kernel
theorem d_LW_law_672 : decode code 672 = .ok (.aload_n 0, 1) := by decide +kernel
theorem d_LW_law_673 : decode code 673 = .ok (.iload_n 3, 1) := by decide +kernel
theorem d_LW_law_674 : decode code 674 = .ok (.iconst 1, 1) := by decide +kernel
theorem d_LW_law_675 : decode code 675 = .ok (.iadd, 1) := by decide +kernel
theorem d_LW_law_676 : decode code 676 = .ok (.iaload, 1) := by decide +kernel
theorem d_LW_law_677 : decode code 677 = .ok (.aload_n 0, 1) := by decide +kernel
theorem d_LW_law_678 : decode code 678 = .ok (.iload_n 3, 1) := by decide +kernel
theorem d_LW_law_679 : decode code 679 = .ok (.iconst 2, 1) := by decide +kernel
theorem d_LW_law_680 : decode code 680 = .ok (.iadd, 1) := by decide +kernel
theorem d_LW_law_681 : decode code 681 = .ok (.iaload, 1) := by decide +kernel
theorem d_LW_law_682 : decode code 682 = .ok (.aload_n 0, 1) := by decide +kernel
theorem d_LW_law_683 : decode code 683 = .ok (.iload_n 3, 1) := by decide +kernel
theorem d_LW_law_684 : decode code 684 = .ok (.iconst 3, 1) := by decide +kernel
theorem d_LW_law_685 : decode code 685 = .ok (.iadd, 1) := by decide +kernel
theorem d_LW_law_686 : decode code 686 = .ok (.iaload, 1) := by decide +kernel
theorem d_LW_law_687 : decode code 687 = .ok (.aload_n 0, 1) := by decide +kernel
theorem d_LW_law_688 : decode code 688 = .ok (.iload_n 3, 1) := by decide +kernel
theorem d_LW_law_689 : decode code 689 = .ok (.iconst 4, 1) := by decide +kernel
theorem d_LW_law_690 : decode code 690 = .ok (.iadd, 1) := by decide +kernel
theorem d_LW_law_691 : decode code 691 = .ok (.iaload, 1) := by decide +kernel
theorem d_LW_law_692 : decode code 692 = .ok (.aload_n 0, 1) := by decide +kernel
theorem d_LW_law_693 : decode code 693 = .ok (.iload_n 3, 1) := by decide +kernel
theorem d_LW_law_694 : decode code 694 = .ok (.iconst 5, 1) := by decide +kernel
theorem d_LW_law_695 : decode code 695 = .ok (.iadd, 1) := by decide +kernel
theorem d_LW_law_696 : decode code 696 = .ok (.iaload, 1) := by decide +kernel
theorem d_LW_law_697 : decode code 697 = .ok (.invokevirtual 86, 3) := by decide +kernel
theorem d_LW_law_700 : decode code 700 = .ok (.lcmp, 1) := by decide +kernel
theorem d_LW_law_701 : decode code 701 = .ok (.ifCond .eq 92, 3) := by decide +kernel
theorem d_LW_law_704 : decode code 704 = .ok (.iconst 0, 1) := by decide +kernel
theorem d_LW_law_705 : decode code 705 = .ok (.ireturn, 1) := by decide +kernel
theorem d_LW_law_706 : decode code 706 = .ok (.aload_n 1, 1) := by decide +kernel
theorem d_LW_law_707 : decode code 707 = .ok (.aload_n 0, 1) := by decide +kernel
theorem d_LW_law_708 : decode code 708 = .ok (.iload_n 3, 1) := by decide +kernel
theorem d_LW_law_709 : decode code 709 = .ok (.iconst 1, 1) := by decide +kernel
theorem d_LW_law_710 : decode code 710 = .ok (.iadd, 1) := by decide +kernel
theorem d_LW_law_711 : decode code 711 = .ok (.iaload, 1) := by decide +kernel
theorem d_LW_law_712 : decode code 712 = .ok (.aload_n 0, 1) := by decide +kernel
theorem d_LW_law_713 : decode code 713 = .ok (.iload_n 3, 1) := by decide +kernel
theorem d_LW_law_714 : decode code 714 = .ok (.iconst 2, 1) := by decide +kernel
theorem d_LW_law_715 : decode code 715 = .ok (.iadd, 1) := by decide +kernel
theorem d_LW_law_716 : decode code 716 = .ok (.iaload, 1) := by decide +kernel
theorem d_LW_law_717 : decode code 717 = .ok (.aload_n 0, 1) := by decide +kernel
theorem d_LW_law_718 : decode code 718 = .ok (.iload_n 3, 1) := by decide +kernel
theorem d_LW_law_719 : decode code 719 = .ok (.iconst 3, 1) := by decide +kernel
theorem d_LW_law_720 : decode code 720 = .ok (.iadd, 1) := by decide +kernel
theorem d_LW_law_721 : decode code 721 = .ok (.iaload, 1) := by decide +kernel
theorem d_LW_law_722 : decode code 722 = .ok (.aload_n 0, 1) := by decide +kernel
theorem d_LW_law_723 : decode code 723 = .ok (.iload_n 3, 1) := by decide +kernel
theorem d_LW_law_724 : decode code 724 = .ok (.iconst 4, 1) := by decide +kernel
theorem d_LW_law_725 : decode code 725 = .ok (.iadd, 1) := by decide +kernel
theorem d_LW_law_726 : decode code 726 = .ok (.iaload, 1) := by decide +kernel
theorem d_LW_law_727 : decode code 727 = .ok (.aload_n 0, 1) := by decide +kernel
theorem d_LW_law_728 : decode code 728 = .ok (.iload_n 3, 1) := by decide +kernel
theorem d_LW_law_729 : decode code 729 = .ok (.iconst 5, 1) := by decide +kernel
theorem d_LW_law_730 : decode code 730 = .ok (.iadd, 1) := by decide +kernel
theorem d_LW_law_731 : decode code 731 = .ok (.iaload, 1) := by decide +kernel
theorem d_LW_law_732 : decode code 732 = .ok (.invokevirtual 87, 3) := by decide +kernel
theorem d_LW_law_735 : decode code 735 = .ok (.aload_n 2, 1) := by decide +kernel
theorem d_LW_law_736 : decode code 736 = .ok (.aload_n 0, 1) := by decide +kernel
theorem d_LW_law_737 : decode code 737 = .ok (.iload_n 3, 1) := by decide +kernel
theorem d_LW_law_738 : decode code 738 = .ok (.iconst 1, 1) := by decide +kernel
theorem d_LW_law_739 : decode code 739 = .ok (.iadd, 1) := by decide +kernel
theorem d_LW_law_740 : decode code 740 = .ok (.iaload, 1) := by decide +kernel
theorem d_LW_law_741 : decode code 741 = .ok (.aload_n 0, 1) := by decide +kernel
theorem d_LW_law_742 : decode code 742 = .ok (.iload_n 3, 1) := by decide +kernel
theorem d_LW_law_743 : decode code 743 = .ok (.iconst 2, 1) := by decide +kernel
theorem d_LW_law_744 : decode code 744 = .ok (.iadd, 1) := by decide +kernel
theorem d_LW_law_745 : decode code 745 = .ok (.iaload, 1) := by decide +kernel
theorem d_LW_law_746 : decode code 746 = .ok (.aload_n 0, 1) := by decide +kernel
theorem d_LW_law_747 : decode code 747 = .ok (.iload_n 3, 1) := by decide +kernel
theorem d_LW_law_748 : decode code 748 = .ok (.iconst 3, 1) := by decide +kernel
theorem d_LW_law_749 : decode code 749 = .ok (.iadd, 1) := by decide +kernel
theorem d_LW_law_750 : decode code 750 = .ok (.iaload, 1) := by decide +kernel
theorem d_LW_law_751 : decode code 751 = .ok (.aload_n 0, 1) := by decide +kernel
theorem d_LW_law_752 : decode code 752 = .ok (.iload_n 3, 1) := by decide +kernel
theorem d_LW_law_753 : decode code 753 = .ok (.iconst 4, 1) := by decide +kernel
theorem d_LW_law_754 : decode code 754 = .ok (.iadd, 1) := by decide +kernel
theorem d_LW_law_755 : decode code 755 = .ok (.iaload, 1) := by decide +kernel
theorem d_LW_law_756 : decode code 756 = .ok (.aload_n 0, 1) := by decide +kernel
theorem d_LW_law_757 : decode code 757 = .ok (.iload_n 3, 1) := by decide +kernel
theorem d_LW_law_758 : decode code 758 = .ok (.iconst 5, 1) := by decide +kernel
theorem d_LW_law_759 : decode code 759 = .ok (.iadd, 1) := by decide +kernel
theorem d_LW_law_760 : decode code 760 = .ok (.iaload, 1) := by decide +kernel
theorem d_LW_law_761 : decode code 761 = .ok (.invokevirtual 90, 3) := by decide +kernel
theorem d_LW_law_764 : decode code 764 = .ok (.lcmp, 1) := by decide +kernel
theorem d_LW_law_765 : decode code 765 = .ok (.ifCond .eq 28, 3) := by decide +kernel
theorem d_LW_law_768 : decode code 768 = .ok (.iconst 0, 1) := by decide +kernel
theorem d_LW_law_769 : decode code 769 = .ok (.ireturn, 1) := by decide +kernel
theorem d_LW_law_770 : decode code 770 = .ok (.aload_n 1, 1) := by decide +kernel
theorem d_LW_law_771 : decode code 771 = .ok (.aload_n 0, 1) := by decide +kernel
theorem d_LW_law_772 : decode code 772 = .ok (.iload_n 3, 1) := by decide +kernel
theorem d_LW_law_773 : decode code 773 = .ok (.iconst 1, 1) := by decide +kernel
theorem d_LW_law_774 : decode code 774 = .ok (.iadd, 1) := by decide +kernel
theorem d_LW_law_775 : decode code 775 = .ok (.iaload, 1) := by decide +kernel
theorem d_LW_law_776 : decode code 776 = .ok (.invokevirtual 91, 3) := by decide +kernel
theorem d_LW_law_779 : decode code 779 = .ok (.aload_n 2, 1) := by decide +kernel
theorem d_LW_law_780 : decode code 780 = .ok (.aload_n 0, 1) := by decide +kernel
theorem d_LW_law_781 : decode code 781 = .ok (.iload_n 3, 1) := by decide +kernel
theorem d_LW_law_782 : decode code 782 = .ok (.iconst 1, 1) := by decide +kernel
theorem d_LW_law_783 : decode code 783 = .ok (.iadd, 1) := by decide +kernel
theorem d_LW_law_784 : decode code 784 = .ok (.iaload, 1) := by decide +kernel
theorem d_LW_law_785 : decode code 785 = .ok (.invokevirtual 94, 3) := by decide +kernel
theorem d_LW_law_788 : decode code 788 = .ok (.if_icmp .eq 5, 3) := by decide +kernel
theorem d_LW_law_791 : decode code 791 = .ok (.iconst 0, 1) := by decide +kernel
theorem d_LW_law_792 : decode code 792 = .ok (.ireturn, 1) := by decide +kernel
theorem d_LW_law_793 : decode code 793 = .ok (.iinc 3 7, 3) := by decide +kernel
theorem d_LW_law_796 : decode code 796 = .ok (.goto (-778), 3) := by decide +kernel
theorem d_LW_law_799 : decode code 799 = .ok (.iconst 1, 1) := by decide +kernel
theorem d_LW_law_800 : decode code 800 = .ok (.ireturn, 1) := by decide +kernel
end
section
abbrev gL : Type := (Nat × Nat × Nat × Nat) ⊕ (Nat × List (Nat × Nat))
def nW : Nat := 299
def layTB (b o : Nat) : gL := if o = 0 then .inr (1, [(0, b + 1), (0, b + 42), (0, b + 43), (0, b + 44), (1, 4)]) else if o = 1 then .inl (4, 40, b + 2, 1) else if o < 42 then .inl (0, 4, 0, 0) else if o < 44 then .inl (0, 40, 0, 0) else .inl (2, 40, 0, 0)
def layTR (b o : Nat) : gL := if o = 0 then .inr (6, [(0, b + 1), (0, b + 9), (1, 2)]) else if o = 1 then .inl (4, 7, b + 2, 1) else if o < 9 then .inl (0, 31, 0, 0) else if o = 9 then .inl (5, 3, b + 10, 1) else .inl (1, 31, 0, 0)
def layMD (k : Nat) : gL := if k = 274 then .inl (0, 160, 0, 0) else if k = 275 then .inl (0, 40, 0, 0) else if k = 276 then .inl (0, 40, 0, 0) else if k = 277 then .inl (2, 40, 0, 0) else if k = 278 then .inl (0, 15, 0, 0) else if k = 279 then .inl (0, 160, 0, 0) else if k = 280 then .inl (0, 40, 0, 0) else if k = 281 then .inl (0, 40, 0, 0) else if k = 282 then .inl (2, 40, 0, 0) else if k = 283 then .inl (0, 15, 0, 0) else if k = 284 then .inl (1, 40, 0, 0) else if k = 285 then .inl (1, 26, 0, 0) else if k = 286 then .inl (2, 480, 0, 0) else if k = 287 then .inl (0, 12, 0, 0) else if k = 288 then .inl (0, 384, 0, 0) else if k = 289 then .inl (0, 384, 0, 0) else if k = 290 then .inl (0, 384, 0, 0) else if k = 291 then .inl (0, 384, 0, 0) else if k = 292 then .inl (0, 384, 0, 0) else if k = 293 then .inl (0, 384, 0, 0) else if k = 294 then .inl (0, 384, 0, 0) else if k = 295 then .inl (1, 384, 0, 0) else if k = 296 then .inl (1, 384, 0, 0) else if k = 297 then .inl (0, 40, 0, 0) else if k = 298 then .inl (1, 32, 0, 0) else .inr (99, [])
def lay (k : Nat) : gL := if k < 117 then (if k < 46 then (if k = 0 then .inr (0, [(0, 1), (0, 46), (0, 48), (0, 47)]) else layTB 1 (k - 1)) else if k < 50 then (if k = 46 then .inl (0, 15, 0, 0) else if k = 47 then .inl (0, 4, 0, 0) else if k = 48 then .inr (2, [(0, 49), (0, 50), (0, 95), (0, 110), (0, 111), (0, 112), (0, 113), (0, 116), (1, 8), (1, 9)]) else .inr (3, [(0, 50), (0, 95), (0, 96), (0, 101), (0, 102), (0, 103), (0, 104), (0, 105), (0, 106), (0, 107), (0, 108), (0, 109)])) else if k < 95 then layTB 50 (k - 50) else if k < 103 then (if k = 95 then .inl (0, 15, 0, 0) else if k = 96 then .inl (4, 4, 97, 1) else if k < 101 then .inl (0, 40, 0, 0) else if k = 101 then .inl (0, 40, 0, 0) else .inl (1, 40, 0, 0)) else if k < 109 then .inr (4, [(1, 0), (1, 1), (2, 2)]) else if k = 109 then .inr (5, [(1, 0), (1, 1), (1, 2), (2, 3)]) else if k = 110 then .inl (3, 12, 117, 13) else if k = 111 then .inl (1, 40, 0, 0) else if k = 112 then .inl (0, 40, 0, 0) else if k = 113 then .inl (5, 2, 114, 1) else if k < 116 then .inl (1, 13, 0, 0) else .inl (1, 31, 0, 0)) else if k < 273 then layTR (117 + 13 * ((k - 117) / 13)) ((k - 117) % 13) else if k = 273 then .inr (7, [(1, 0), (0, 274), (0, 275), (0, 276), (0, 277), (0, 278), (1, 6), (1, 7), (0, 279), (0, 280), (0, 281), (0, 282), (0, 283), (0, 284), (1, 14), (0, 285), (0, 286), (0, 287), (0, 288), (0, 289), (0, 290), (0, 291), (0, 292), (0, 293), (0, 294), (0, 295), (0, 296), (0, 297), (0, 298), (2, 29), (1, 30), (1, 31)]) else layMD k
theorem lay_0 : lay 0 = .inr (0, [(0, 1), (0, 46), (0, 48), (0, 47)]) := rfl
theorem lay_46 : lay 46 = .inl (0, 15, 0, 0) := rfl
theorem lay_47 : lay 47 = .inl (0, 4, 0, 0) := rfl
theorem lay_48 : lay 48 = .inr (2, [(0, 49), (0, 50), (0, 95), (0, 110), (0, 111), (0, 112), (0, 113), (0, 116), (1, 8), (1, 9)]) := rfl
theorem lay_49 : lay 49 = .inr (3, [(0, 50), (0, 95), (0, 96), (0, 101), (0, 102), (0, 103), (0, 104), (0, 105), (0, 106), (0, 107), (0, 108), (0, 109)]) := rfl
theorem lay_95 : lay 95 = .inl (0, 15, 0, 0) := rfl
theorem lay_96 : lay 96 = .inl (4, 4, 97, 1) := rfl
theorem lay_101 : lay 101 = .inl (0, 40, 0, 0) := rfl
theorem lay_102 : lay 102 = .inl (1, 40, 0, 0) := rfl
theorem lay_103 : lay 103 = .inr (4, [(1, 0), (1, 1), (2, 2)]) := rfl
theorem lay_104 : lay 104 = .inr (4, [(1, 0), (1, 1), (2, 2)]) := rfl
theorem lay_105 : lay 105 = .inr (4, [(1, 0), (1, 1), (2, 2)]) := rfl
theorem lay_106 : lay 106 = .inr (4, [(1, 0), (1, 1), (2, 2)]) := rfl
theorem lay_107 : lay 107 = .inr (4, [(1, 0), (1, 1), (2, 2)]) := rfl
theorem lay_108 : lay 108 = .inr (4, [(1, 0), (1, 1), (2, 2)]) := rfl
theorem lay_109 : lay 109 = .inr (5, [(1, 0), (1, 1), (1, 2), (2, 3)]) := rfl
theorem lay_110 : lay 110 = .inl (3, 12, 117, 13) := rfl
theorem lay_111 : lay 111 = .inl (1, 40, 0, 0) := rfl
theorem lay_112 : lay 112 = .inl (0, 40, 0, 0) := rfl
theorem lay_113 : lay 113 = .inl (5, 2, 114, 1) := rfl
theorem lay_116 : lay 116 = .inl (1, 31, 0, 0) := rfl
theorem lay_273 : lay 273 = .inr (7, [(1, 0), (0, 274), (0, 275), (0, 276), (0, 277), (0, 278), (1, 6), (1, 7), (0, 279), (0, 280), (0, 281), (0, 282), (0, 283), (0, 284), (1, 14), (0, 285), (0, 286), (0, 287), (0, 288), (0, 289), (0, 290), (0, 291), (0, 292), (0, 293), (0, 294), (0, 295), (0, 296), (0, 297), (0, 298), (2, 29), (1, 30), (1, 31)]) := rfl
theorem lay_274 : lay 274 = .inl (0, 160, 0, 0) := rfl
theorem lay_275 : lay 275 = .inl (0, 40, 0, 0) := rfl
theorem lay_276 : lay 276 = .inl (0, 40, 0, 0) := rfl
theorem lay_277 : lay 277 = .inl (2, 40, 0, 0) := rfl
theorem lay_278 : lay 278 = .inl (0, 15, 0, 0) := rfl
theorem lay_279 : lay 279 = .inl (0, 160, 0, 0) := rfl
theorem lay_280 : lay 280 = .inl (0, 40, 0, 0) := rfl
theorem lay_281 : lay 281 = .inl (0, 40, 0, 0) := rfl
theorem lay_282 : lay 282 = .inl (2, 40, 0, 0) := rfl
theorem lay_283 : lay 283 = .inl (0, 15, 0, 0) := rfl
theorem lay_284 : lay 284 = .inl (1, 40, 0, 0) := rfl
theorem lay_285 : lay 285 = .inl (1, 26, 0, 0) := rfl
theorem lay_286 : lay 286 = .inl (2, 480, 0, 0) := rfl
theorem lay_287 : lay 287 = .inl (0, 12, 0, 0) := rfl
theorem lay_288 : lay 288 = .inl (0, 384, 0, 0) := rfl
theorem lay_289 : lay 289 = .inl (0, 384, 0, 0) := rfl
theorem lay_290 : lay 290 = .inl (0, 384, 0, 0) := rfl
theorem lay_291 : lay 291 = .inl (0, 384, 0, 0) := rfl
theorem lay_292 : lay 292 = .inl (0, 384, 0, 0) := rfl
theorem lay_293 : lay 293 = .inl (0, 384, 0, 0) := rfl
theorem lay_294 : lay 294 = .inl (0, 384, 0, 0) := rfl
theorem lay_295 : lay 295 = .inl (1, 384, 0, 0) := rfl
theorem lay_296 : lay 296 = .inl (1, 384, 0, 0) := rfl
theorem lay_297 : lay 297 = .inl (0, 40, 0, 0) := rfl
theorem lay_298 : lay 298 = .inl (1, 32, 0, 0) := rfl
def isSM (k : Nat) : Prop := lay k = .inr (4, [(1, 0), (1, 1), (2, 2)])
def isTB (b : Nat) : Prop := lay b = .inr (1, [(0, b + 1), (0, b + 42), (0, b + 43), (0, b + 44), (1, 4)]) ∧ lay (b + 1) = .inl (4, 40, b + 2, 1) ∧ (∀ i, i < 40 → lay (b + 2 + 1 * i) = .inl (0, 4, 0, 0)) ∧ lay (b + 42) = .inl (0, 40, 0, 0) ∧ lay (b + 43) = .inl (0, 40, 0, 0) ∧ lay (b + 44) = .inl (2, 40, 0, 0)
def isTR (b : Nat) : Prop := lay b = .inr (6, [(0, b + 1), (0, b + 9), (1, 2)]) ∧ lay (b + 1) = .inl (4, 7, b + 2, 1) ∧ (∀ i, i < 7 → lay (b + 2 + 1 * i) = .inl (0, 31, 0, 0)) ∧ lay (b + 9) = .inl (5, 3, b + 10, 1) ∧ (∀ i, i < 3 → lay (b + 10 + 1 * i) = .inl (1, 31, 0, 0))
theorem isTB_1 : isTB 1 := ⟨rfl, rfl, by decide, rfl, rfl, rfl⟩
theorem isTB_50 : isTB 50 := ⟨rfl, rfl, by decide, rfl, rfl, rfl⟩
theorem isSM_103 : isSM 103 := rfl
theorem isSM_104 : isSM 104 := rfl
theorem isSM_105 : isSM 105 := rfl
theorem isSM_106 : isSM 106 := rfl
theorem isSM_107 : isSM 107 := rfl
theorem isSM_108 : isSM 108 := rfl
theorem isTR_at : ∀ t, t < 12 → isTR (117 + 13 * t) := by
  intro t ht
  have h : t = 0 ∨ t = 1 ∨ t = 2 ∨ t = 3 ∨ t = 4 ∨ t = 5 ∨ t = 6 ∨ t = 7 ∨ t = 8 ∨ t = 9 ∨ t = 10 ∨ t = 11 := by omega
  rcases h with rfl | rfl | rfl | rfl | rfl | rfl | rfl | rfl | rfl | rfl | rfl | rfl <;> exact ⟨rfl, rfl, by decide, rfl, by decide⟩
theorem lay_order : ∀ i, i < 4 → lay (97 + 1 * i) = .inl (0, 40, 0, 0) := by decide
theorem lay_losses : ∀ i, i < 2 → lay (114 + 1 * i) = .inl (1, 13, 0, 0) := by decide
theorem lay_big {k : Nat} (h : nW ≤ k) : lay k = .inr (99, []) := by
  have h : 299 ≤ k := h
  unfold lay layMD
  rw [if_neg (by omega), if_neg (by omega), if_neg (by omega)]
  rw [if_neg (show ¬ k = 274 by omega), if_neg (show ¬ k = 275 by omega), if_neg (show ¬ k = 276 by omega), if_neg (show ¬ k = 277 by omega), if_neg (show ¬ k = 278 by omega), if_neg (show ¬ k = 279 by omega), if_neg (show ¬ k = 280 by omega), if_neg (show ¬ k = 281 by omega), if_neg (show ¬ k = 282 by omega), if_neg (show ¬ k = 283 by omega), if_neg (show ¬ k = 284 by omega), if_neg (show ¬ k = 285 by omega), if_neg (show ¬ k = 286 by omega), if_neg (show ¬ k = 287 by omega), if_neg (show ¬ k = 288 by omega), if_neg (show ¬ k = 289 by omega), if_neg (show ¬ k = 290 by omega), if_neg (show ¬ k = 291 by omega), if_neg (show ¬ k = 292 by omega), if_neg (show ¬ k = 293 by omega), if_neg (show ¬ k = 294 by omega), if_neg (show ¬ k = 295 by omega), if_neg (show ¬ k = 296 by omega), if_neg (show ¬ k = 297 by omega), if_neg (show ¬ k = 298 by omega)]
/-! ===== the world: every cell of both systems by its index; what may change is numbers alone ===== -/
abbrev gM : Type := (Nat → Nat → Int32) × (Nat → Nat → Int64)
def wi (M : gM) (k j : Nat) (v : Int32) : gM := (fun a b => if a = k ∧ b = j then v else M.1 a b, M.2)
def wl (M : gM) (k j : Nat) (v : Int64) : gM := (M.1, fun a b => if a = k ∧ b = j then v else M.2 a b)
/-- a copy of a stretch of numbers -/
def wc (M : gM) (k0 k1 sp dp n : Nat) : gM := (fun a b => if a = k1 then va_cpy (M.1 k0) (M.1 k1) sp dp n b else M.1 a b, M.2)
def gF (ad : Nat → Nat) (M : gM) (k : Nat) (q : Nat × Nat) : Value := match q.1 with
  | 0 => .ref (ad q.2)
  | 1 => .int (M.1 k q.2)
  | _ => .long (M.2 k q.2)
def gC (cy : Nat → ClassId) (ad : Nat → Nat) (M : gM) (k : Nat) (L : gL) : va_E := match L with
  | .inl (0, n, _, _) => .inl (cy 0, n, .inl (M.1 k))
  | .inl (1, n, _, _) => .inl (cy 1, n, .inr (.inl (M.2 k)))
  | .inl (2, n, _, _) => .inl (cy 2, n, .inl (M.1 k))
  | .inl (t + 3, n, a, d) => .inl (cy (t + 3), n, .inr (.inr (.inr (.inr (fun j => if j < n then some (ad (a + d * j)) else none)))))
  | .inr (c, fs) => .inr (c, fs.map (gF ad M k))
def wd (cy : Nat → ClassId) (ad : Nat → Nat) (M : gM) : va_W := (List.range nW).map (fun k => (ad k, gC cy ad M k (lay k)))
def gT (cy : Nat → ClassId) : List (ClassId × FieldType) := [(cy 0, .int), (cy 1, .long), (cy 2, .boolean), (cy 3, .object "BoostForests$Tree"), (cy 4, .array .int), (cy 5, .array .long)]
def gJ (ad : Nat → Nat) : Prop := ∀ i j, i < nW → j < nW → ad i = ad j → i = j
def gA (ad : Nat → Nat) (sz : Nat) : Nat → Prop := fun q => (∃ k, k < nW ∧ q = ad k) ∨ sz ≤ q
theorem wd_get {cy : Nat → ClassId} {ad : Nat → Nat} {M : gM} {k : Nat} (h : k < nW) : (wd cy ad M)[k]? = some (ad k, gC cy ad M k (lay k)) := by
  unfold wd
  rw [List.getElem?_map, List.getElem?_range h]
  rfl
theorem lay_lt {k : Nat} {L : gL} (h : lay k = L) (hn : L ≠ .inr (99, [])) : k < nW := by
  rcases Nat.lt_or_ge k nW with q | q
  · exact q
  · exact absurd (h.symm.trans (lay_big q)) hn
theorem wd_at {cy : Nat → ClassId} {ad : Nat → Nat} {M : gM} {k : Nat} {L : gL} (h : lay k = L) (hn : L ≠ .inr (99, [])) : (wd cy ad M)[k]? = some (ad k, gC cy ad M k L) := by
  rw [wd_get (lay_lt h hn), h]
theorem lay_ne_l {t n a d : Nat} : (.inl (t, n, a, d) : gL) ≠ .inr (99, []) := fun h => by cases h
theorem lay_ne_r {c : Nat} {fs : List (Nat × Nat)} {r : vw_C} (hc : vCl[c]? = some r) : (.inr (c, fs) : gL) ≠ .inr (99, []) := fun h => by
  cases h
  cases hc
theorem wd_len {cy : Nat → ClassId} {ad : Nat → Nat} {M : gM} : (wd cy ad M).length = nW := by simp [wd]
theorem gD {cy : Nat → ClassId} {ad : Nat → Nat} {M : gM} {sz : Nat} (hj : gJ ad) : va_D (gA ad sz) (wd cy ad M) := by
  refine ⟨fun i j x y hi hj2 h => ?_, fun k q hk => ?_⟩
  · have li : i < nW := by have := (List.getElem?_eq_some_iff.mp hi).1; rwa [wd_len] at this
    have lj : j < nW := by have := (List.getElem?_eq_some_iff.mp hj2).1; rwa [wd_len] at this
    rw [wd_get li] at hi
    rw [wd_get lj] at hj2
    cases hi
    cases hj2
    exact hj i j li lj h
  · have lk : k < nW := by have := (List.getElem?_eq_some_iff.mp hk).1; rwa [wd_len] at this
    rw [wd_get lk] at hk
    cases hk
    exact Or.inl ⟨k, lk, rfl⟩
theorem wd_set {cy : Nat → ClassId} {ad : Nat → Nat} {M M' : gM} {k : Nat} {e : va_E} (hk : k < nW) (he : e = gC cy ad M' k (lay k)) (ho : ∀ j, j ≠ k → ∀ L, gC cy ad M' j L = gC cy ad M j L) : (wd cy ad M).set k (ad k, e) = wd cy ad M' := by
  apply List.ext_getElem?
  intro j
  by_cases h : j = k
  · subst h
    rw [List.getElem?_set_self (by rw [wd_len]; exact hk), wd_get hk, he]
  · rw [List.getElem?_set_ne (Ne.symm h)]
    by_cases hj : j < nW
    · rw [wd_get hj, wd_get hj, ho j h]
    · rw [List.getElem?_eq_none (by rw [wd_len]; omega), List.getElem?_eq_none (by rw [wd_len]; omega)]
theorem gC_congr {cy : Nat → ClassId} {ad : Nat → Nat} {M M' : gM} {k : Nat} (h1 : M'.1 k = M.1 k) (h2 : M'.2 k = M.2 k) (L : gL) : gC cy ad M' k L = gC cy ad M k L := by
  have hF : gF ad M' k = gF ad M k := by
    funext q
    unfold gF
    rw [h1, h2]
  rcases L with ⟨t, n, a, d⟩ | ⟨c, fs⟩
  · match t with
    | 0 => show Sum.inl (cy 0, n, Sum.inl (M'.1 k)) = _; rw [h1]; rfl
    | 1 => show Sum.inl (cy 1, n, Sum.inr (Sum.inl (M'.2 k))) = _; rw [h2]; rfl
    | 2 => show Sum.inl (cy 2, n, Sum.inl (M'.1 k)) = _; rw [h1]; rfl
    | t + 3 => rfl
  · show Sum.inr (c, fs.map (gF ad M' k)) = _
    rw [hF]
    rfl
theorem wi_1n {M : gM} {k j a : Nat} {v : Int32} (h : a ≠ k) : (wi M k j v).1 a = M.1 a := by
  funext b
  simp [wi, h]
theorem wi_1s {M : gM} {k j : Nat} {v : Int32} : (wi M k j v).1 k = upd (M.1 k) j v := by
  funext b
  simp [wi, upd]
theorem wi_2 {M : gM} {k j : Nat} {v : Int32} : (wi M k j v).2 = M.2 := rfl
theorem wl_1 {M : gM} {k j : Nat} {v : Int64} : (wl M k j v).1 = M.1 := rfl
theorem wl_2n {M : gM} {k j a : Nat} {v : Int64} (h : a ≠ k) : (wl M k j v).2 a = M.2 a := by
  funext b
  simp [wl, h]
theorem wl_2s {M : gM} {k j : Nat} {v : Int64} : (wl M k j v).2 k = vp_updL (M.2 k) j v := by
  funext b
  simp [wl, vp_updL]
theorem wc_1n {M : gM} {k0 k1 sp dp n a : Nat} (h : a ≠ k1) : (wc M k0 k1 sp dp n).1 a = M.1 a := by
  funext b
  simp [wc, h]
theorem wc_1s {M : gM} {k0 k1 sp dp n : Nat} : (wc M k0 k1 sp dp n).1 k1 = va_cpy (M.1 k0) (M.1 k1) sp dp n := by
  funext b
  simp [wc]
theorem gF_seti {ad : Nat → Nat} {M : gM} {k j : Nat} {fs : List (Nat × Nat)} {x : Int32} (hok : ∀ (i : Nat) (q : Nat × Nat), fs[i]? = some q → q.1 ≠ 0 → q.2 = i) (hj : fs[j]? = some (1, j)) : (fs.map (gF ad M k)).set j (.int x) = fs.map (gF ad (wi M k j x) k) := by
  have hl := (List.getElem?_eq_some_iff.mp hj).1
  apply List.ext_getElem?
  intro i
  by_cases h : j = i
  · subst h
    rw [List.getElem?_set_self (by rw [List.length_map]; exact hl), List.getElem?_map, hj]
    simp [gF, wi]
  · rw [List.getElem?_set_ne h, List.getElem?_map, List.getElem?_map]
    cases hq : fs[i]? with
    | none => rfl
    | some q =>
      obtain ⟨t, z⟩ := q
      have := hok i _ hq
      match t, this with
      | 0, _ => rfl
      | 1, this =>
        have e : z = i := this (show (1 : Nat) ≠ 0 by decide)
        subst e
        simp [gF, wi, Ne.symm h]
      | t + 2, _ => rfl
theorem gF_setl {ad : Nat → Nat} {M : gM} {k j : Nat} {fs : List (Nat × Nat)} {x : Int64} (hok : ∀ (i : Nat) (q : Nat × Nat), fs[i]? = some q → q.1 ≠ 0 → q.2 = i) (hj : fs[j]? = some (2, j)) : (fs.map (gF ad M k)).set j (.long x) = fs.map (gF ad (wl M k j x) k) := by
  have hl := (List.getElem?_eq_some_iff.mp hj).1
  apply List.ext_getElem?
  intro i
  by_cases h : j = i
  · subst h
    rw [List.getElem?_set_self (by rw [List.length_map]; exact hl), List.getElem?_map, hj]
    simp [gF, wl]
  · rw [List.getElem?_set_ne h, List.getElem?_map, List.getElem?_map]
    cases hq : fs[i]? with
    | none => rfl
    | some q =>
      obtain ⟨t, z⟩ := q
      have := hok i _ hq
      match t, this with
      | 0, _ => rfl
      | 1, _ => rfl
      | t + 2, this =>
        have e : z = i := this (by omega)
        subst e
        simp [gF, wl, Ne.symm h]
/-- places of numbers among an object's fields bear their own number -/
def gOk (fs : List (Nat × Nat)) : Bool := (List.range fs.length).all fun i => match fs[i]? with
  | some q => q.1 == 0 || q.2 == i
  | none => true
theorem gOk_spec {fs : List (Nat × Nat)} (h : gOk fs = true) : ∀ (i : Nat) (q : Nat × Nat), fs[i]? = some q → q.1 ≠ 0 → q.2 = i := by
  intro i q hq hn
  have hl := (List.getElem?_eq_some_iff.mp hq).1
  have h2 := List.all_eq_true.mp h i (List.mem_range.mpr hl)
  rw [hq] at h2
  have h3 : (q.1 == 0 || q.2 == i) = true := h2
  rw [Bool.or_eq_true] at h3
  rcases h3 with h3 | h3
  · exact absurd (beq_iff_eq.mp h3) hn
  · exact beq_iff_eq.mp h3
theorem vi_lit (i : Int32) (n : Nat) (h : decide (¬ (i < 0 ∨ n ≤ i.toNatClampNeg)) = true) : vp_in i n := of_decide_eq_true (p := ¬ (i < 0 ∨ n ≤ i.toNatClampNeg)) h
theorem vi_lt {i : Int32} {n : Nat} (h : vp_in i n) : i.toNatClampNeg < n := Nat.not_le.mp fun q => h (Or.inr q)
/-- what a method's body may use -/
def Cx (p : Program) (s : State) (m : MethodId) (args : Array Value) (meth : Method) (c : Code) (cc : ByteArray) (nL : Nat) (ret : Option FieldType) (own : String) (D : va_G) (cy : Nat → ClassId) (ad : Nat → Nat) : Prop :=
  p.tables.exec = Jvm.exec ∧ c.code = cc ∧ c.maxLocals = nL ∧ s.vm.findClass own = some m.cls ∧ (∀ w ∈ gw_tbl, w.before args s = true) ∧ meth.sig.returnType = ret ∧ meth.locks = false ∧ va_K D vCl (gT cy) s ∧ gJ ad
/-- what holds of the heap at any point of a body -/
def gI (D : va_G) (cy : Nat → ClassId) (ad : Nat → Nat) (s : State) (M : gM) (H : Heap) (locs : List Loc) : Prop := va_P D vCl (wd cy ad M) H ∧ va_S (gA ad s.heap.size) s.heap H locs
def gP (D : va_G) (cy : Nat → ClassId) (ad : Nat → Nat) (av : List Value) (M : gM) (sz : Nat) : Array Value → State → Prop := va_Pc av (fun U => U.heap.size = sz ∧ va_P D vCl (wd cy ad M) U.heap ∧ va_K D vCl (gT cy) U)
def gB (D : va_G) (cy : Nat → ClassId) (ad : Nat → Nat) : gM → State → Prop := fun M t => va_P D vCl (wd cy ad M) t.heap
theorem gP_blind {D : va_G} {cy : Nat → ClassId} {ad : Nat → Nat} {av : List Value} {M : gM} {sz : Nat} : FrameBlind (gP D cy ad av M sz) := fun a U g mk q => ⟨q.1, q.2.1, q.2.2.1, va_K.moved (u := U) (U := U.calling g mk a) (Vm.Alike.refl U.vm) q.2.2.2⟩
/-- contracts: the method answers r and leaves the numbers M' so that Q r M' -/
def Ci (l : Launch) (y : MethodName) (b : ByteArray) (maxL : Nat) (ret : Option FieldType) (rm : Room) (D : va_G) (cy : Nat → ClassId) (ad : Nat → Nat) (av : List Value) (M : gM) (Q : Int32 → gM → Prop) : Prop := ∀ sz, Met l y (Cond.code y b maxL ret :: gw_tbl) rm (gP D cy ad av M sz) (va_Qi Q (gB D cy ad) (gA ad sz)) 0 0 (gA ad sz)
def Cl (l : Launch) (y : MethodName) (b : ByteArray) (maxL : Nat) (ret : Option FieldType) (rm : Room) (D : va_G) (cy : Nat → ClassId) (ad : Nat → Nat) (av : List Value) (M : gM) (Q : Int64 → gM → Prop) : Prop := ∀ sz, Met l y (Cond.code y b maxL ret :: gw_tbl) rm (gP D cy ad av M sz) (va_Ql Q (gB D cy ad) (gA ad sz)) 0 0 (gA ad sz)
def Cv (l : Launch) (y : MethodName) (b : ByteArray) (maxL : Nat) (ret : Option FieldType) (rm : Room) (D : va_G) (cy : Nat → ClassId) (ad : Nat → Nat) (av : List Value) (M : gM) (Q : gM → Prop) : Prop := ∀ sz, Met l y (Cond.code y b maxL ret :: gw_tbl) rm (gP D cy ad av M sz) (va_Qv Q (gB D cy ad) (gA ad sz)) 0 0 (gA ad sz)
section GW
variable {p : Program} {l : Launch} {e : Env} {R : Room} {s : State} {m : MethodId} {args : Array Value} {below : List Frame} {meth : Method} {c : Code} {H : Heap} {locs : List Loc} {cells slots : Nat} {Q : State → Prop}
variable {cc : ByteArray} {pc nL : Nat} {ls : Array Slot} {rest : List Value} {D : va_G} {cy : Nat → ClassId} {ad : Nat → Nat} {M : gM} {ret : Option FieldType} {own : String}
theorem gw_iald (C : Cx p s m args meth c cc nL ret own D cy ad) (hI : gI D cy ad s M H locs) {k n a d : Nat} (hk : lay k = .inl (0, n, a, d)) {i : Int32} {j : Nat} (hj : i.toNatClampNeg = j) (hin : vp_in i n) (hdg : decode cc pc = .ok (.iaload, 1))
    (kk : W p l e R s m args below meth c H locs cells slots Q (F0 m (pc + 1) ls (.int (M.1 k j) :: rest))) : W p l e R s m args below meth c H locs cells slots Q (F0 m pc ls (.int i :: .ref (ad k) :: rest)) := by
  subst hj
  obtain ⟨hx, hb, hml, hown, hts, hr, hlk, hK, hja⟩ := C
  exact va_iald hx hb hK hI.1 k 0 (wd_at hk lay_ne_l) rfl hin hdg kk
theorem gw_lald (C : Cx p s m args meth c cc nL ret own D cy ad) (hI : gI D cy ad s M H locs) {k n a d : Nat} (hk : lay k = .inl (1, n, a, d)) {i : Int32} {j : Nat} (hj : i.toNatClampNeg = j) (hin : vp_in i n) (hdg : decode cc pc = .ok (.laload, 1))
    (kk : W p l e R s m args below meth c H locs cells slots Q (F0 m (pc + 1) ls (.long (M.2 k j) :: rest))) : W p l e R s m args below meth c H locs cells slots Q (F0 m pc ls (.int i :: .ref (ad k) :: rest)) := by
  subst hj
  obtain ⟨hx, hb, hml, hown, hts, hr, hlk, hK, hja⟩ := C
  exact va_lald hx hb hK hI.1 k 1 (wd_at hk lay_ne_l) rfl hin hdg kk
theorem gw_zald (C : Cx p s m args meth c cc nL ret own D cy ad) (hI : gI D cy ad s M H locs) {k n a d : Nat} (hk : lay k = .inl (2, n, a, d)) {i : Int32} {j : Nat} (hj : i.toNatClampNeg = j) (hin : vp_in i n) (hdg : decode cc pc = .ok (.baload, 1))
    (kk : W p l e R s m args below meth c H locs cells slots Q (F0 m (pc + 1) ls (.int (M.1 k j) :: rest))) : W p l e R s m args below meth c H locs cells slots Q (F0 m pc ls (.int i :: .ref (ad k) :: rest)) := by
  subst hj
  obtain ⟨hx, hb, hml, hown, hts, hr, hlk, hK, hja⟩ := C
  exact va_zald hx hb hK hI.1 k 2 (wd_at hk lay_ne_l) rfl hin hdg kk
theorem gw_aald (C : Cx p s m args meth c cc nL ret own D cy ad) (hI : gI D cy ad s M H locs) {k n t a d : Nat} (hk : lay k = .inl (t + 3, n, a, d)) {ty : FieldType} (ht : (gT cy)[t + 3]? = some (cy (t + 3), ty)) (hty : ty.isReference = true) {i : Int32} {j : Nat} (hj : i.toNatClampNeg = j) (hin : vp_in i n) (hdg : decode cc pc = .ok (.aaload, 1))
    (kk : W p l e R s m args below meth c H locs cells slots Q (F0 m (pc + 1) ls (.ref (ad (a + d * j)) :: rest))) : W p l e R s m args below meth c H locs cells slots Q (F0 m pc ls (.int i :: .ref (ad k) :: rest)) := by
  subst hj
  obtain ⟨hx, hb, hml, hown, hts, hr, hlk, hK, hja⟩ := C
  have hlt := vi_lt hin
  refine W.aald (v := .ref (ad (a + d * i.toNatClampNeg))) (ty := ty) hx hb (hI.1 k _ (wd_at hk lay_ne_l)) ((hK.2 (t + 3) _ ht).1 n _) hty (fun q => by cases q) ?_ ?_ rfl rfl hdg kk
  · show ¬ (i < 0 ∨ (arrV _ _ _).slots.size ≤ _)
    rw [arrV_size]
    exact hin
  · show (arrV _ _ _).slots[_]? = _
    rw [arrV_read _ _ hlt]
    show some (va_rf (if i.toNatClampNeg < n then some (ad (a + d * i.toNatClampNeg)) else none)) = _
    rw [if_pos hlt]
    rfl
theorem gw_iast (C : Cx p s m args meth c cc nL ret own D cy ad) (hI : gI D cy ad s M H locs) {k n a d : Nat} (hk : lay k = .inl (0, n, a, d)) {i x : Int32} {j : Nat} (hj : i.toNatClampNeg = j) (hin : vp_in i n) (hdg : decode cc pc = .ok (.iastore, 1))
    (kk : ∀ (H1 : Heap) (locs1 : List Loc), gI D cy ad s (wi M k j x) H1 locs1 → W p l e R s m args below meth c H1 locs1 cells slots Q (F0 m (pc + 1) ls rest)) : W p l e R s m args below meth c H locs cells slots Q (F0 m pc ls (.int x :: .int i :: .ref (ad k) :: rest)) := by
  subst hj
  obtain ⟨hx, hb, hml, hown, hts, hr, hlk, hK, hja⟩ := C
  have hset : (wd cy ad M).set k (ad k, .inl (cy 0, n, .inl (upd (M.1 k) i.toNatClampNeg x))) = wd cy ad (wi M k i.toNatClampNeg x) := wd_set (lay_lt hk lay_ne_l) (by rw [hk]; show _ = Sum.inl (cy 0, n, Sum.inl ((wi M k i.toNatClampNeg x).1 k)); rw [wi_1s]) (fun j hj L => gC_congr (wi_1n hj) rfl L)
  exact va_iast hx hb hK hI.1 (gD hja) hI.2 k 0 (wd_at hk lay_ne_l) rfl hin hdg (fun H1 locs1 h1 _ h3 => kk H1 locs1 ⟨by rw [← hset]; exact h1, h3⟩)
theorem gw_last (C : Cx p s m args meth c cc nL ret own D cy ad) (hI : gI D cy ad s M H locs) {k n a d : Nat} (hk : lay k = .inl (1, n, a, d)) {i : Int32} {x : Int64} {j : Nat} (hj : i.toNatClampNeg = j) (hin : vp_in i n) (hdg : decode cc pc = .ok (.lastore, 1))
    (kk : ∀ (H1 : Heap) (locs1 : List Loc), gI D cy ad s (wl M k j x) H1 locs1 → W p l e R s m args below meth c H1 locs1 cells slots Q (F0 m (pc + 1) ls rest)) : W p l e R s m args below meth c H locs cells slots Q (F0 m pc ls (.long x :: .int i :: .ref (ad k) :: rest)) := by
  subst hj
  obtain ⟨hx, hb, hml, hown, hts, hr, hlk, hK, hja⟩ := C
  have hset : (wd cy ad M).set k (ad k, .inl (cy 1, n, .inr (.inl (vp_updL (M.2 k) i.toNatClampNeg x)))) = wd cy ad (wl M k i.toNatClampNeg x) := wd_set (lay_lt hk lay_ne_l) (by rw [hk]; show _ = Sum.inl (cy 1, n, Sum.inr (Sum.inl ((wl M k i.toNatClampNeg x).2 k))); rw [wl_2s]) (fun j hj L => gC_congr (M := M) (M' := wl M k _ x) rfl (wl_2n hj) L)
  exact va_last hx hb hK hI.1 (gD hja) hI.2 k 1 (wd_at hk lay_ne_l) rfl hin hdg (fun H1 locs1 h1 _ h3 => kk H1 locs1 ⟨by rw [← hset]; exact h1, h3⟩)
theorem gw_zast (C : Cx p s m args meth c cc nL ret own D cy ad) (hI : gI D cy ad s M H locs) {k n a d : Nat} (hk : lay k = .inl (2, n, a, d)) {i x : Int32} {j : Nat} (hj : i.toNatClampNeg = j) (hin : vp_in i n) (hdg : decode cc pc = .ok (.bastore, 1))
    (kk : ∀ (H1 : Heap) (locs1 : List Loc), gI D cy ad s (wi M k j (vp_nar .boolean x)) H1 locs1 → W p l e R s m args below meth c H1 locs1 cells slots Q (F0 m (pc + 1) ls rest)) : W p l e R s m args below meth c H locs cells slots Q (F0 m pc ls (.int x :: .int i :: .ref (ad k) :: rest)) := by
  subst hj
  obtain ⟨hx, hb, hml, hown, hts, hr, hlk, hK, hja⟩ := C
  have hset : (wd cy ad M).set k (ad k, .inl (cy 2, n, .inl (upd (M.1 k) i.toNatClampNeg (vp_nar .boolean x)))) = wd cy ad (wi M k i.toNatClampNeg (vp_nar .boolean x)) := wd_set (lay_lt hk lay_ne_l) (by rw [hk]; show _ = Sum.inl (cy 2, n, Sum.inl ((wi M k i.toNatClampNeg (vp_nar .boolean x)).1 k)); rw [wi_1s]) (fun j hj L => gC_congr (wi_1n hj) rfl L)
  exact va_zast hx hb hK hI.1 (gD hja) hI.2 k 2 (wd_at hk lay_ne_l) rfl hin hdg (fun H1 locs1 h1 _ h3 => kk H1 locs1 ⟨by rw [← hset]; exact h1, h3⟩)
theorem gw_get (C : Cx p s m args meth c cc nL ret own D cy ad) (hI : gI D cy ad s M H locs) {k ci : Nat} {fs : List (Nat × Nat)} (hk : lay k = .inr (ci, fs)) {C' : String} {T : u_T} {N : Nat} (hin : ∀ w ∈ u_ws C' T N, w ∈ gw_tbl) (hc : vCl[ci]? = some (C', T, N)) (j : Nat) (hj : j < N) {index : Nat} (hlink : Cond.fieldLink own index (T j).1 (T j).2.1 (T j).2.2.1 ∈ gw_tbl) {q : Nat × Nat} (hq : fs[j]? = some q) {v : Value} (hv : gF ad M k q = v) (hdg : decode cc pc = .ok (.getfield index, 3))
    (kk : W p l e R s m args below meth c H locs cells slots Q (F0 m (pc + 3) ls (v :: rest))) : W p l e R s m args below meth c H locs cells slots Q (F0 m pc ls (.ref (ad k) :: rest)) := by
  obtain ⟨hx, hb, hml, hown, hts, hr, hlk, hK, hja⟩ := C
  exact va_get hx hb hts hin hown hK hI.1 k (wd_at hk (lay_ne_r hc)) hc j hj (hts _ hlink) (fun _ h => h) (by rw [List.getElem?_map, hq]; exact congrArg some hv) hdg kk
theorem gw_puti (C : Cx p s m args meth c cc nL ret own D cy ad) (hI : gI D cy ad s M H locs) {k ci : Nat} {fs : List (Nat × Nat)} (hk : lay k = .inr (ci, fs)) {C' : String} {T : u_T} {N : Nat} (hin : ∀ w ∈ u_ws C' T N, w ∈ gw_tbl) (hc : vCl[ci]? = some (C', T, N)) {ty0 : Nat → FieldType} (hty : ∀ k, k < N → parseFieldDescriptor (T k).2.2.1 = some (ty0 k)) (hnm : ∀ a, a < N → ∀ b, b < N → a ≠ b → (T a).2.1 ≠ (T b).2.1) (j : Nat) (hj : j < N) {index : Nat} (hlink : Cond.fieldLink own index (T j).1 (T j).2.1 (T j).2.2.1 ∈ gw_tbl) (hfin : (T j).2.2.2 = false) (hok : gOk fs = true) (hq : fs[j]? = some (1, j)) {x : Int32} (hn : narrow (ty0 j) (.int x) = .int x) (hf : fits (ty0 j) (.int x) = true) (hdg : decode cc pc = .ok (.putfield index, 3))
    (kk : ∀ (H1 : Heap) (locs1 : List Loc), gI D cy ad s (wi M k j x) H1 locs1 → W p l e R s m args below meth c H1 locs1 cells slots Q (F0 m (pc + 3) ls rest)) : W p l e R s m args below meth c H locs cells slots Q (F0 m pc ls (.int x :: .ref (ad k) :: rest)) := by
  obtain ⟨hx, hb, hml, hown, hts, hr, hlk, hK, hja⟩ := C
  have hset : (wd cy ad M).set k (ad k, .inr (ci, (fs.map (gF ad M k)).set j (.int x))) = wd cy ad (wi M k j x) := wd_set (lay_lt hk (lay_ne_r hc)) (by rw [hk]; show _ = Sum.inr (ci, fs.map (gF ad (wi M k j x) k)); rw [gF_seti (gOk_spec hok) hq]) (fun j hj L => gC_congr (wi_1n hj) rfl L)
  exact va_put hx hb hts hin ty0 hty hnm hown hK hI.1 (gD hja) hI.2 k (wd_at hk (lay_ne_r hc)) hc j hj (hts _ hlink) (fun _ h => h) hfin (hty j hj) hn hf (by rw [List.length_map]; exact (List.getElem?_eq_some_iff.mp hq).1) hdg (fun H1 locs1 h1 _ h3 => kk H1 locs1 ⟨by rw [← hset]; exact h1, h3⟩)
theorem gw_putl (C : Cx p s m args meth c cc nL ret own D cy ad) (hI : gI D cy ad s M H locs) {k ci : Nat} {fs : List (Nat × Nat)} (hk : lay k = .inr (ci, fs)) {C' : String} {T : u_T} {N : Nat} (hin : ∀ w ∈ u_ws C' T N, w ∈ gw_tbl) (hc : vCl[ci]? = some (C', T, N)) {ty0 : Nat → FieldType} (hty : ∀ k, k < N → parseFieldDescriptor (T k).2.2.1 = some (ty0 k)) (hnm : ∀ a, a < N → ∀ b, b < N → a ≠ b → (T a).2.1 ≠ (T b).2.1) (j : Nat) (hj : j < N) {index : Nat} (hlink : Cond.fieldLink own index (T j).1 (T j).2.1 (T j).2.2.1 ∈ gw_tbl) (hfin : (T j).2.2.2 = false) (hok : gOk fs = true) (hq : fs[j]? = some (2, j)) {x : Int64} (hn : narrow (ty0 j) (.long x) = .long x) (hf : fits (ty0 j) (.long x) = true) (hdg : decode cc pc = .ok (.putfield index, 3))
    (kk : ∀ (H1 : Heap) (locs1 : List Loc), gI D cy ad s (wl M k j x) H1 locs1 → W p l e R s m args below meth c H1 locs1 cells slots Q (F0 m (pc + 3) ls rest)) : W p l e R s m args below meth c H locs cells slots Q (F0 m pc ls (.long x :: .ref (ad k) :: rest)) := by
  obtain ⟨hx, hb, hml, hown, hts, hr, hlk, hK, hja⟩ := C
  have hset : (wd cy ad M).set k (ad k, .inr (ci, (fs.map (gF ad M k)).set j (.long x))) = wd cy ad (wl M k j x) := wd_set (lay_lt hk (lay_ne_r hc)) (by rw [hk]; show _ = Sum.inr (ci, fs.map (gF ad (wl M k j x) k)); rw [gF_setl (gOk_spec hok) hq]) (fun j hj L => gC_congr (M := M) (M' := wl M k _ x) rfl (wl_2n hj) L)
  exact va_put hx hb hts hin ty0 hty hnm hown hK hI.1 (gD hja) hI.2 k (wd_at hk (lay_ne_r hc)) hc j hj (hts _ hlink) (fun _ h => h) hfin (hty j hj) hn hf (by rw [List.length_map]; exact (List.getElem?_eq_some_iff.mp hq).1) hdg (fun H1 locs1 h1 _ h3 => kk H1 locs1 ⟨by rw [← hset]; exact h1, h3⟩)
theorem gA_up {sz : Nat} (hI : gI D cy ad s M H locs) : ∀ q, gA ad H.size q → gA ad s.heap.size q := fun q h => h.elim Or.inl (fun h => Or.inr (Nat.le_trans hI.2.1 h))
theorem gGood {w : Cond} (h : w ∈ gw_tbl) : GoodIn gw_tbl (w :: gw_tbl) := fun v hv => by
  rcases List.mem_cons.mp hv with rfl | hv
  · exact ⟨h, gw_good _ h⟩
  · exact ⟨hv, gw_good _ hv⟩
theorem gCB {y : MethodName} {b : ByteArray} {maxL index : Nat} {ret' : Option FieldType} {rm : Room} {n : Nat} (hts : ∀ w ∈ gw_tbl, w.before args s = true) (h0 : rm.cells = 0 ∧ rm.slots = 0) (h1 : Cond.methodLink own index y ∈ gw_tbl) (h4 : Cond.initialized y.cls ∈ gw_tbl) (h5 : Cond.code y b maxL ret' ∈ gw_tbl)
    (hd : y.cls ≠ "java/lang/invoke/MethodHandle" ∧ y.cls ≠ "java/lang/invoke/VarHandle" ∧ (parseMethodDescriptor y.desc).map (fun d => d.parameters.length) = some n) (hR : rm.frames + 1 ≤ R.frames ∧ 8 + (maxL + 11) + rm.locals ≤ R.locals) : CallB R s args own index y b maxL ret' (Cond.code y b maxL ret' :: gw_tbl) rm 0 0 n :=
  callB_of n hts (gGood h5) rfl h0.1 h0.2 (hts _ h4) (hts _ h1) hd hR
end GW
section GW2
variable {p : Program} {l : Launch} {e : Env} {R : Room} {s : State} {m : MethodId} {args : Array Value} {below : List Frame} {meth : Method} {c : Code} {H : Heap} {locs : List Loc} {cells slots : Nat} {Q : State → Prop}
variable {cc : ByteArray} {pc nL : Nat} {ls : Array Slot} {rest : List Value} {D : va_G} {cy : Nat → ClassId} {ad : Nat → Nat} {M : gM} {ret : Option FieldType} {own : String}
theorem gPreV (C : Cx p s m args meth c cc nL ret own D cy ad) (hI : gI D cy ad s M H locs) {k ci N : Nat} {fs : List (Nat × Nat)} {T : u_T} {C' : String} {As : List Value} (hk : lay k = .inr (ci, fs)) (hc : vCl[ci]? = some (C', T, N)) : PreV s H C' (ad k) (gP D cy ad (.ref (ad k) :: As) M H.size) As := by
  obtain ⟨hx, hb, hml, hown, hts, hr, hlk, hK, hja⟩ := C
  exact ⟨gP_blind, va_recv hK hI.1 hc (wd_at hk (lay_ne_r hc)), fun U hU hW => ⟨rfl, by rw [hU], by rw [hU]; exact hI.1, va_K.moved hW.alike hK⟩⟩
theorem gPreS (C : Cx p s m args meth c cc nL ret own D cy ad) (hI : gI D cy ad s M H locs) {As : List Value} : PreS s H (gP D cy ad As M H.size) As := by
  obtain ⟨hx, hb, hml, hown, hts, hr, hlk, hK, hja⟩ := C
  exact ⟨gP_blind, fun U hU hW => ⟨rfl, by rw [hU], by rw [hU]; exact hI.1, va_K.moved hW.alike hK⟩⟩
/-- the words of a call on an object -/
def kV (own : String) (index : Nat) (y : MethodName) (b : ByteArray) (maxL : Nat) (ret : Option FieldType) (n : Nat) : Prop := Cond.methodLink own index y ∈ gw_tbl ∧ Cond.instanceMethod y ∈ gw_tbl ∧ Cond.selects y.cls y y ∈ gw_tbl ∧ Cond.initialized y.cls ∈ gw_tbl ∧ Cond.code y b maxL ret ∈ gw_tbl ∧ (y.cls ≠ "java/lang/invoke/MethodHandle" ∧ y.cls ≠ "java/lang/invoke/VarHandle" ∧ (parseMethodDescriptor y.desc).map (fun d => d.parameters.length) = some n)
def kS (own : String) (index : Nat) (y : MethodName) (b : ByteArray) (maxL : Nat) (ret : Option FieldType) (n : Nat) : Prop := Cond.methodLink own index y ∈ gw_tbl ∧ Cond.static y ∈ gw_tbl ∧ Cond.initialized y.cls ∈ gw_tbl ∧ Cond.code y b maxL ret ∈ gw_tbl ∧ (y.cls ≠ "java/lang/invoke/MethodHandle" ∧ y.cls ≠ "java/lang/invoke/VarHandle" ∧ (parseMethodDescriptor y.desc).map (fun d => d.parameters.length) = some n)
theorem gw_Vi (C : Cx p s m args meth c cc nL ret own D cy ad) (hI : gI D cy ad s M H locs) (hl : ls.size = nL) {k ci N : Nat} {fs : List (Nat × Nat)} {T : u_T} {As : List Value} {y : MethodName} {b : ByteArray} {maxL index n : Nat} {ret' : Option FieldType} {rm : Room} {Q1 : Int32 → gM → Prop}
    (hM : Ci l y b maxL ret' rm D cy ad (.ref (ad k) :: As) M Q1) (hw : kV own index y b maxL ret' n) (hk : lay k = .inr (ci, fs)) (hc : vCl[ci]? = some (y.cls, T, N)) (hn : As.length = n) (h0 : rm.cells = 0 ∧ rm.slots = 0) (hR : rm.frames + 1 ≤ R.frames ∧ 8 + (maxL + 11) + rm.locals ≤ R.locals) {st0 : List Value} (hst : st0 = As.reverse ++ .ref (ad k) :: rest) (hrest : (rest.map fun v => v.category).sum ≤ 8) (hcs : cells ≤ R.cells ∧ slots ≤ R.slots) (hdg : decode cc pc = .ok (.invokevirtual index, 3))
    (kk : ∀ (r : Int32) (M' : gM) (H1 : Heap) (locs1 : List Loc), Q1 r M' → gI D cy ad s M' H1 locs1 → W p l e R s m args below meth c H1 locs1 cells slots Q (F0 m (pc + 3) ls (.int r :: rest))) : W p l e R s m args below meth c H locs cells slots Q (F0 m pc ls st0) := by
  have hp := gPreV (As := As) C hI hk hc
  obtain ⟨hx, hb, hml, hown, hts, hr, hlk, hK, hja⟩ := C
  obtain ⟨h1, h2, h3, h4, h5, hd⟩ := hw
  exact va_calli (va_runV (Ts := gw_tbl) (nL := nL) ⟨hx, hb, hml, hown, hts⟩ (hM H.size) ⟨gCB hts h0 h1 h4 h5 hd hR, hts _ h2, hts _ h3⟩ hp rfl hn hl hst (lv_room hrest) hdg hcs) hI.2 (fun q _ h => gA_up (sz := 0) hI q h) (gA_up (sz := 0) hI) (fun r u t H1 locs1 ht hvm hq hB hz hkk hS => kk r u H1 locs1 hq ⟨by rw [← ht]; exact hB, hS⟩)
theorem gw_Vl (C : Cx p s m args meth c cc nL ret own D cy ad) (hI : gI D cy ad s M H locs) (hl : ls.size = nL) {k ci N : Nat} {fs : List (Nat × Nat)} {T : u_T} {As : List Value} {y : MethodName} {b : ByteArray} {maxL index n : Nat} {ret' : Option FieldType} {rm : Room} {Q1 : Int64 → gM → Prop}
    (hM : Cl l y b maxL ret' rm D cy ad (.ref (ad k) :: As) M Q1) (hw : kV own index y b maxL ret' n) (hk : lay k = .inr (ci, fs)) (hc : vCl[ci]? = some (y.cls, T, N)) (hn : As.length = n) (h0 : rm.cells = 0 ∧ rm.slots = 0) (hR : rm.frames + 1 ≤ R.frames ∧ 8 + (maxL + 11) + rm.locals ≤ R.locals) {st0 : List Value} (hst : st0 = As.reverse ++ .ref (ad k) :: rest) (hrest : (rest.map fun v => v.category).sum ≤ 8) (hcs : cells ≤ R.cells ∧ slots ≤ R.slots) (hdg : decode cc pc = .ok (.invokevirtual index, 3))
    (kk : ∀ (r : Int64) (M' : gM) (H1 : Heap) (locs1 : List Loc), Q1 r M' → gI D cy ad s M' H1 locs1 → W p l e R s m args below meth c H1 locs1 cells slots Q (F0 m (pc + 3) ls (.long r :: rest))) : W p l e R s m args below meth c H locs cells slots Q (F0 m pc ls st0) := by
  have hp := gPreV (As := As) C hI hk hc
  obtain ⟨hx, hb, hml, hown, hts, hr, hlk, hK, hja⟩ := C
  obtain ⟨h1, h2, h3, h4, h5, hd⟩ := hw
  exact va_calll (va_runV (Ts := gw_tbl) (nL := nL) ⟨hx, hb, hml, hown, hts⟩ (hM H.size) ⟨gCB hts h0 h1 h4 h5 hd hR, hts _ h2, hts _ h3⟩ hp rfl hn hl hst (lv_room hrest) hdg hcs) hI.2 (fun q _ h => gA_up (sz := 0) hI q h) (gA_up (sz := 0) hI) (fun r u t H1 locs1 ht hvm hq hB hz hkk hS => kk r u H1 locs1 hq ⟨by rw [← ht]; exact hB, hS⟩)
theorem gw_Vv (C : Cx p s m args meth c cc nL ret own D cy ad) (hI : gI D cy ad s M H locs) (hl : ls.size = nL) {k ci N : Nat} {fs : List (Nat × Nat)} {T : u_T} {As : List Value} {y : MethodName} {b : ByteArray} {maxL index n : Nat} {ret' : Option FieldType} {rm : Room} {Q1 : gM → Prop}
    (hM : Cv l y b maxL ret' rm D cy ad (.ref (ad k) :: As) M Q1) (hw : kV own index y b maxL ret' n) (hk : lay k = .inr (ci, fs)) (hc : vCl[ci]? = some (y.cls, T, N)) (hn : As.length = n) (h0 : rm.cells = 0 ∧ rm.slots = 0) (hR : rm.frames + 1 ≤ R.frames ∧ 8 + (maxL + 11) + rm.locals ≤ R.locals) {st0 : List Value} (hst : st0 = As.reverse ++ .ref (ad k) :: rest) (hrest : (rest.map fun v => v.category).sum ≤ 8) (hcs : cells ≤ R.cells ∧ slots ≤ R.slots) (hdg : decode cc pc = .ok (.invokevirtual index, 3))
    (kk : ∀ (M' : gM) (H1 : Heap) (locs1 : List Loc), Q1 M' → gI D cy ad s M' H1 locs1 → W p l e R s m args below meth c H1 locs1 cells slots Q (F0 m (pc + 3) ls rest)) : W p l e R s m args below meth c H locs cells slots Q (F0 m pc ls st0) := by
  have hp := gPreV (As := As) C hI hk hc
  obtain ⟨hx, hb, hml, hown, hts, hr, hlk, hK, hja⟩ := C
  obtain ⟨h1, h2, h3, h4, h5, hd⟩ := hw
  exact va_callv (va_runV (Ts := gw_tbl) (nL := nL) ⟨hx, hb, hml, hown, hts⟩ (hM H.size) ⟨gCB hts h0 h1 h4 h5 hd hR, hts _ h2, hts _ h3⟩ hp rfl hn hl hst (lv_room hrest) hdg hcs) hI.2 (fun q _ h => gA_up (sz := 0) hI q h) (gA_up (sz := 0) hI) (fun u t H1 locs1 ht hvm hq hB hz hkk hS => kk u H1 locs1 hq ⟨by rw [← ht]; exact hB, hS⟩)
theorem gw_Si (C : Cx p s m args meth c cc nL ret own D cy ad) (hI : gI D cy ad s M H locs) (hl : ls.size = nL) {As : List Value} {y : MethodName} {b : ByteArray} {maxL index n : Nat} {ret' : Option FieldType} {rm : Room} {Q1 : Int32 → gM → Prop}
    (hM : Ci l y b maxL ret' rm D cy ad As M Q1) (hw : kS own index y b maxL ret' n) (hn : As.length = n) (h0 : rm.cells = 0 ∧ rm.slots = 0) (hR : rm.frames + 1 ≤ R.frames ∧ 8 + (maxL + 11) + rm.locals ≤ R.locals) {st0 : List Value} (hst : st0 = As.reverse ++ rest) (hrest : (rest.map fun v => v.category).sum ≤ 8) (hcs : cells ≤ R.cells ∧ slots ≤ R.slots) (hdg : decode cc pc = .ok (.invokestatic index, 3))
    (kk : ∀ (r : Int32) (M' : gM) (H1 : Heap) (locs1 : List Loc), Q1 r M' → gI D cy ad s M' H1 locs1 → W p l e R s m args below meth c H1 locs1 cells slots Q (F0 m (pc + 3) ls (.int r :: rest))) : W p l e R s m args below meth c H locs cells slots Q (F0 m pc ls st0) := by
  have hp := gPreS (As := As) C hI
  obtain ⟨hx, hb, hml, hown, hts, hr, hlk, hK, hja⟩ := C
  obtain ⟨h1, h2, h4, h5, hd⟩ := hw
  exact va_calli (va_runS (Ts := gw_tbl) (nL := nL) ⟨hx, hb, hml, hown, hts⟩ (hM H.size) ⟨gCB hts h0 h1 h4 h5 hd hR, hts _ h2⟩ hp rfl hn hl hst (lv_room hrest) hdg hcs) hI.2 (fun q _ h => gA_up (sz := 0) hI q h) (gA_up (sz := 0) hI) (fun r u t H1 locs1 ht hvm hq hB hz hkk hS => kk r u H1 locs1 hq ⟨by rw [← ht]; exact hB, hS⟩)
theorem gw_Sl (C : Cx p s m args meth c cc nL ret own D cy ad) (hI : gI D cy ad s M H locs) (hl : ls.size = nL) {As : List Value} {y : MethodName} {b : ByteArray} {maxL index n : Nat} {ret' : Option FieldType} {rm : Room} {Q1 : Int64 → gM → Prop}
    (hM : Cl l y b maxL ret' rm D cy ad As M Q1) (hw : kS own index y b maxL ret' n) (hn : As.length = n) (h0 : rm.cells = 0 ∧ rm.slots = 0) (hR : rm.frames + 1 ≤ R.frames ∧ 8 + (maxL + 11) + rm.locals ≤ R.locals) {st0 : List Value} (hst : st0 = As.reverse ++ rest) (hrest : (rest.map fun v => v.category).sum ≤ 8) (hcs : cells ≤ R.cells ∧ slots ≤ R.slots) (hdg : decode cc pc = .ok (.invokestatic index, 3))
    (kk : ∀ (r : Int64) (M' : gM) (H1 : Heap) (locs1 : List Loc), Q1 r M' → gI D cy ad s M' H1 locs1 → W p l e R s m args below meth c H1 locs1 cells slots Q (F0 m (pc + 3) ls (.long r :: rest))) : W p l e R s m args below meth c H locs cells slots Q (F0 m pc ls st0) := by
  have hp := gPreS (As := As) C hI
  obtain ⟨hx, hb, hml, hown, hts, hr, hlk, hK, hja⟩ := C
  obtain ⟨h1, h2, h4, h5, hd⟩ := hw
  exact va_calll (va_runS (Ts := gw_tbl) (nL := nL) ⟨hx, hb, hml, hown, hts⟩ (hM H.size) ⟨gCB hts h0 h1 h4 h5 hd hR, hts _ h2⟩ hp rfl hn hl hst (lv_room hrest) hdg hcs) hI.2 (fun q _ h => gA_up (sz := 0) hI q h) (gA_up (sz := 0) hI) (fun r u t H1 locs1 ht hvm hq hB hz hkk hS => kk r u H1 locs1 hq ⟨by rw [← ht]; exact hB, hS⟩)
theorem gr_i (C : Cx p s m args meth c cc nL (some .int) own D cy ad) (hI : gI D cy ad s M H locs) {Qr : Int32 → gM → Prop} {v : Int32} (hq : Qr v M) (hdg : decode cc pc = .ok (.ireturn, 1)) : W p l e R s m args below meth c H locs cells slots (MQ below (va_Qi Qr (gB D cy ad) (gA ad s.heap.size)) args s cells slots (gA ad s.heap.size)) (F0 m pc ls [.int v]) := by
  obtain ⟨hx, hb, hml, hown, hts, hr, hlk, hK, hja⟩ := C
  exact W.iret hx hb hr (fun t ht hW => ⟨⟨v, M, rfl, hq, by unfold gB; rw [ht]; exact hI.1⟩, hI.2.F ht⟩) hI.2.2.2 hdg hlk
theorem gr_z (C : Cx p s m args meth c cc nL (some .boolean) own D cy ad) (hI : gI D cy ad s M H locs) {Qr : Int32 → gM → Prop} {v : Int32} (hn : narrow .boolean (.int v) = .int v) (hq : Qr v M) (hdg : decode cc pc = .ok (.ireturn, 1)) : W p l e R s m args below meth c H locs cells slots (MQ below (va_Qi Qr (gB D cy ad) (gA ad s.heap.size)) args s cells slots (gA ad s.heap.size)) (F0 m pc ls [.int v]) := by
  obtain ⟨hx, hb, hml, hown, hts, hr, hlk, hK, hja⟩ := C
  exact W.zret hx hb hr hn (fun t ht hW => ⟨⟨v, M, rfl, hq, by unfold gB; rw [ht]; exact hI.1⟩, hI.2.F ht⟩) hI.2.2.2 hdg hlk
theorem gr_l (C : Cx p s m args meth c cc nL (some .long) own D cy ad) (hI : gI D cy ad s M H locs) {Qr : Int64 → gM → Prop} {v : Int64} (hq : Qr v M) (hdg : decode cc pc = .ok (.lreturn, 1)) : W p l e R s m args below meth c H locs cells slots (MQ below (va_Ql Qr (gB D cy ad) (gA ad s.heap.size)) args s cells slots (gA ad s.heap.size)) (F0 m pc ls [.long v]) := by
  obtain ⟨hx, hb, hml, hown, hts, hr, hlk, hK, hja⟩ := C
  exact W.lret hx hb hr (fun t ht hW => ⟨⟨v, M, rfl, hq, by unfold gB; rw [ht]; exact hI.1⟩, hI.2.F ht⟩) hI.2.2.2 hdg hlk
theorem gr_v (C : Cx p s m args meth c cc nL none own D cy ad) (hI : gI D cy ad s M H locs) {Qr : gM → Prop} (hq : Qr M) (hdg : decode cc pc = .ok (.return_, 1)) : W p l e R s m args below meth c H locs cells slots (MQ below (va_Qv Qr (gB D cy ad) (gA ad s.heap.size)) args s cells slots (gA ad s.heap.size)) (F0 m pc ls []) := by
  obtain ⟨hx, hb, hml, hown, hts, hr, hlk, hK, hja⟩ := C
  exact W.vret hx hb hr (fun t ht hW => ⟨⟨M, rfl, hq, by unfold gB; rw [ht]; exact hI.1⟩, hI.2.F ht⟩) hI.2.2.2 hdg hlk
/-- a contract out of the walk of the body -/
theorem gm {y : MethodName} {maxL : Nat} {rm : Room} {av : List Value} {Qc : Nat → Array Value → State → Outcome → State → Prop} (hy : plainName y.cls = true) (hj : gJ ad) (hlen : (lg_sl av).length ≤ maxL)
    (body : ∀ (p : Program) (e : Env) (s : State) (m : MethodId) (args : Array Value) (below : List Frame) (meth : Method) (c : Code) (ls : Array Slot), Cx p s m args meth c cc maxL ret y.cls D cy ad → lv_has ls maxL (lv_args 0 av) → gI D cy ad s M s.heap [] → W p l e rm s m args below meth c s.heap [] 0 0 (MQ below (Qc s.heap.size) args s 0 0 (gA ad s.heap.size)) (F0 m 0 ls [])) : ∀ sz, Met l y (Cond.code y cc maxL ret :: gw_tbl) rm (gP D cy ad av M sz) (Qc sz) 0 0 (gA ad sz) := by
  intro sz
  refine Met.ofW (cc := cc) (maxL := maxL) (ret := ret) hy rfl ?_
  intro p e s m args below meth c s₁ B hml hv
  obtain ⟨rfl, hsz, hP, hK⟩ := hv
  have hts := atoms_spec (ws := Cond.code y cc maxL ret :: gw_tbl) B.pre
  subst hsz
  rw [lg_entry_eq]
  exact body p e s m _ below meth c _ ⟨B.exec, B.bytes, hml, findClass_of_methodNamed B.named, fun w hw => hts w (List.mem_cons_of_mem _ hw), B.returns, B.notSynchronized, hK, hj⟩ (lv_entry av hlen) ⟨hP, va_S.rf⟩
theorem gl_ge (C : Cx p s m args meth c cc nL ret own D cy ad) {x y : Int64} {off : Int} {tgt : Nat} (h1 : decode cc pc = .ok (.lcmp, 1)) (h2 : decode cc (pc + 1) = .ok (.ifCond .ge off, 3)) (ht : ((pc + 1 : Nat) : Int) + off = (tgt : Int)) (kt : y ≤ x → W p l e R s m args below meth c H locs cells slots Q (F0 m tgt ls rest)) (kf : ¬ y ≤ x → W p l e R s m args below meth c H locs cells slots Q (F0 m (pc + 1 + 3) ls rest)) : W p l e R s m args below meth c H locs cells slots Q (F0 m pc ls (.long y :: .long x :: rest)) :=
  W.lcmp C.1 C.2.1 h1 (lv_if_ge C.1 C.2.1 h2 ht (fun h => kt ((lg_cmp_ge x y).mp h)) (fun h => kf (fun q => h ((lg_cmp_ge x y).mpr q))))
theorem gl_gt (C : Cx p s m args meth c cc nL ret own D cy ad) {x y : Int64} {off : Int} {tgt : Nat} (h1 : decode cc pc = .ok (.lcmp, 1)) (h2 : decode cc (pc + 1) = .ok (.ifCond .gt off, 3)) (ht : ((pc + 1 : Nat) : Int) + off = (tgt : Int)) (kt : y < x → W p l e R s m args below meth c H locs cells slots Q (F0 m tgt ls rest)) (kf : ¬ y < x → W p l e R s m args below meth c H locs cells slots Q (F0 m (pc + 1 + 3) ls rest)) : W p l e R s m args below meth c H locs cells slots Q (F0 m pc ls (.long y :: .long x :: rest)) :=
  W.lcmp C.1 C.2.1 h1 (lv_if_gt C.1 C.2.1 h2 ht (fun h => kt ((lg_cmp_gt x y).mp h)) (fun h => kf (fun q => h ((lg_cmp_gt x y).mpr q))))
theorem gl_le (C : Cx p s m args meth c cc nL ret own D cy ad) {x y : Int64} {off : Int} {tgt : Nat} (h1 : decode cc pc = .ok (.lcmp, 1)) (h2 : decode cc (pc + 1) = .ok (.ifCond .le off, 3)) (ht : ((pc + 1 : Nat) : Int) + off = (tgt : Int)) (kt : x ≤ y → W p l e R s m args below meth c H locs cells slots Q (F0 m tgt ls rest)) (kf : ¬ x ≤ y → W p l e R s m args below meth c H locs cells slots Q (F0 m (pc + 1 + 3) ls rest)) : W p l e R s m args below meth c H locs cells slots Q (F0 m pc ls (.long y :: .long x :: rest)) :=
  W.lcmp C.1 C.2.1 h1 (lv_if_le C.1 C.2.1 h2 ht (fun h => kt ((lg_cmp_le x y).mp h)) (fun h => kf (fun q => h ((lg_cmp_le x y).mpr q))))
theorem gl_lt (C : Cx p s m args meth c cc nL ret own D cy ad) {x y : Int64} {off : Int} {tgt : Nat} (h1 : decode cc pc = .ok (.lcmp, 1)) (h2 : decode cc (pc + 1) = .ok (.ifCond .lt off, 3)) (ht : ((pc + 1 : Nat) : Int) + off = (tgt : Int)) (kt : x < y → W p l e R s m args below meth c H locs cells slots Q (F0 m tgt ls rest)) (kf : ¬ x < y → W p l e R s m args below meth c H locs cells slots Q (F0 m (pc + 1 + 3) ls rest)) : W p l e R s m args below meth c H locs cells slots Q (F0 m pc ls (.long y :: .long x :: rest)) :=
  W.lcmp C.1 C.2.1 h1 (lv_if_lt C.1 C.2.1 h2 ht (fun h => kt ((lg_cmp_lt x y).mp h)) (fun h => kf (fun q => h ((lg_cmp_lt x y).mpr q))))
theorem gl_eq (C : Cx p s m args meth c cc nL ret own D cy ad) {x y : Int64} {off : Int} {tgt : Nat} (h1 : decode cc pc = .ok (.lcmp, 1)) (h2 : decode cc (pc + 1) = .ok (.ifCond .eq off, 3)) (ht : ((pc + 1 : Nat) : Int) + off = (tgt : Int)) (kt : x = y → W p l e R s m args below meth c H locs cells slots Q (F0 m tgt ls rest)) (kf : ¬ x = y → W p l e R s m args below meth c H locs cells slots Q (F0 m (pc + 1 + 3) ls rest)) : W p l e R s m args below meth c H locs cells slots Q (F0 m pc ls (.long y :: .long x :: rest)) :=
  W.lcmp C.1 C.2.1 h1 (lv_if_eq C.1 C.2.1 h2 ht (fun h => kt ((lg_cmp_eq x y).mp h)) (fun h => kf (fun q => h ((lg_cmp_eq x y).mpr q))))
theorem gl_ne (C : Cx p s m args meth c cc nL ret own D cy ad) {x y : Int64} {off : Int} {tgt : Nat} (h1 : decode cc pc = .ok (.lcmp, 1)) (h2 : decode cc (pc + 1) = .ok (.ifCond .ne off, 3)) (ht : ((pc + 1 : Nat) : Int) + off = (tgt : Int)) (kt : ¬ x = y → W p l e R s m args below meth c H locs cells slots Q (F0 m tgt ls rest)) (kf : x = y → W p l e R s m args below meth c H locs cells slots Q (F0 m (pc + 1 + 3) ls rest)) : W p l e R s m args below meth c H locs cells slots Q (F0 m pc ls (.long y :: .long x :: rest)) :=
  W.lcmp C.1 C.2.1 h1 (lv_if_ne C.1 C.2.1 h2 ht (fun h => kt (fun q => h ((lg_cmp_eq x y).mpr q))) (fun h => kf ((lg_cmp_eq x y).mp h)))
theorem gw_copy (C : Cx p s m args meth c cc nL ret own D cy ad) (hI : gI D cy ad s M H locs) (hl : ls.size = nL) {index k0 k1 n0 n1 a0 d0 a1 d1 : Nat} (h1 : Cond.methodLink own index arraycopyName ∈ gw_tbl) (h2 : Cond.native arraycopyName ∈ gw_tbl) (h3 : Cond.static arraycopyName ∈ gw_tbl) (h4 : Cond.initialized "java/lang/System" ∈ gw_tbl) (hk0 : lay k0 = .inl (0, n0, a0, d0)) (hk1 : lay k1 = .inl (0, n1, a1, d1))
    {sp dp n : Int32} {sp' dp' n' : Nat} (e1 : sp.toNatClampNeg = sp') (e2 : dp.toNatClampNeg = dp') (e3 : n.toNatClampNeg = n') (g1 : ¬ sp < 0) (g2 : ¬ dp < 0) (g3 : ¬ n < 0) (g4 : sp' + n' ≤ n0) (g5 : dp' + n' ≤ n1) (hframes : 1 ≤ R.frames) (hlocals : (rest.map fun v => v.category).sum + (nativeFrameWords "java/lang/System" "arraycopy" 5 + 11) ≤ R.locals) (hdg : decode cc pc = .ok (.invokestatic index, 3))
    (kk : ∀ (H1 : Heap) (locs1 : List Loc), gI D cy ad s (wc M k0 k1 sp' dp' n') H1 locs1 → W p l e R s m args below meth c H1 locs1 cells slots Q (F0 m (pc + 3) ls rest)) : W p l e R s m args below meth c H locs cells slots Q (F0 m pc ls (.int n :: .int dp :: .ref (ad k1) :: .int sp :: .ref (ad k0) :: rest)) := by
  subst e1; subst e2; subst e3
  obtain ⟨hx, hb, hml, hown, hts, hr, hlk, hK, hja⟩ := C
  have hset : (wd cy ad M).set k1 (ad k1, .inl (cy 0, n1, .inl (va_cpy (M.1 k0) (M.1 k1) sp.toNatClampNeg dp.toNatClampNeg n.toNatClampNeg))) = wd cy ad (wc M k0 k1 sp.toNatClampNeg dp.toNatClampNeg n.toNatClampNeg) := wd_set (lay_lt hk1 lay_ne_l) (by rw [hk1]; show _ = Sum.inl (cy 0, n1, Sum.inl ((wc M k0 k1 sp.toNatClampNeg dp.toNatClampNeg n.toNatClampNeg).1 k1)); rw [wc_1s]) (fun j hj L => gC_congr (wc_1n hj) rfl L)
  exact va_copyi (ty := .int) hx hb (hml.trans hl.symm) hown (hts _ h1) (hts _ h2) (hts _ h3) (hts _ h4) hK hI.1 (gD hja) hI.2 k0 k1 0 0 (wd_at hk0 lay_ne_l) (wd_at hk1 lay_ne_l) rfl rfl rfl g1 g2 g3 g4 g5 (fun i _ => rfl) hframes hlocals hdg (fun H1 locs1 q1 _ q3 => kk H1 locs1 ⟨by rw [← hset]; exact q1, q3⟩)
end GW2
end

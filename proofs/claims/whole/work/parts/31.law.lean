theorem kV_LW_13 : kV "BoostForestsLaw" 13 y_BF_row b_BF_row 7 (some .int) 6 := ⟨kw_2_5, kw_2_6, kw_2_7, kw_1_1, kw_2_8, ⟨by decide, by decide, by decide +kernel⟩⟩
theorem kV_LW_17 : kV "BoostForestsLaw" 17 y_MD_row b_MD_row 8 (some .int) 6 := ⟨kw_3_168, kw_3_169, kw_3_170, kw_1_8, kw_3_171, ⟨by decide, by decide, by decide +kernel⟩⟩
theorem kV_LW_18 : kV "BoostForestsLaw" 18 y_BF_hold b_BF_hold 4 (some .int) 2 := ⟨kw_2_26, kw_2_27, kw_2_28, kw_1_1, kw_2_29, ⟨by decide, by decide, by decide +kernel⟩⟩
theorem kV_LW_22 : kV "BoostForestsLaw" 22 y_MD_hold b_MD_hold 4 (some .int) 2 := ⟨kw_3_181, kw_3_182, kw_3_183, kw_1_8, kw_3_184, ⟨by decide, by decide, by decide +kernel⟩⟩
theorem kV_LW_23 : kV "BoostForestsLaw" 23 y_BF_set b_BF_set 4 (some .int) 2 := ⟨kw_2_33, kw_2_34, kw_2_35, kw_1_1, kw_2_36, ⟨by decide, by decide, by decide +kernel⟩⟩
theorem kV_LW_26 : kV "BoostForestsLaw" 26 y_MD_set b_MD_set 4 (some .int) 2 := ⟨kw_3_185, kw_3_186, kw_3_187, kw_1_8, kw_3_188, ⟨by decide, by decide, by decide +kernel⟩⟩
theorem kV_LW_27 : kV "BoostForestsLaw" 27 y_BF_clear b_BF_clear 2 (some .int) 0 := ⟨kw_2_41, kw_2_42, kw_2_43, kw_1_1, kw_2_44, ⟨by decide, by decide, by decide +kernel⟩⟩
theorem kV_LW_31 : kV "BoostForestsLaw" 31 y_MD_clear b_MD_clear 2 (some .int) 0 := ⟨kw_3_193, kw_3_194, kw_3_195, kw_1_8, kw_3_196, ⟨by decide, by decide, by decide +kernel⟩⟩
theorem kV_LW_32 : kV "BoostForestsLaw" 32 y_BF_train b_BF_train 1 (some .int) 0 := ⟨kw_2_45, kw_2_46, kw_2_47, kw_1_1, kw_2_48, ⟨by decide, by decide, by decide +kernel⟩⟩
theorem kV_LW_35 : kV "BoostForestsLaw" 35 y_MD_train b_MD_train 8 (some .int) 0 := ⟨kw_3_197, kw_3_198, kw_3_199, kw_1_8, kw_3_200, ⟨by decide, by decide, by decide +kernel⟩⟩
theorem kV_LW_36 : kV "BoostForestsLaw" 36 y_BF_node b_BF_node 4 (some .int) 3 := ⟨kw_2_199, kw_2_200, kw_2_201, kw_1_1, kw_2_202, ⟨by decide, by decide, by decide +kernel⟩⟩
theorem kV_LW_40 : kV "BoostForestsLaw" 40 y_MD_node b_MD_node 5 (some .int) 3 := ⟨kw_4_18, kw_4_19, kw_4_20, kw_1_8, kw_4_21, ⟨by decide, by decide, by decide +kernel⟩⟩
theorem kV_LW_41 : kV "BoostForestsLaw" 41 y_BF_sum b_BF_sum 4 (some .long) 3 := ⟨kw_2_207, kw_2_208, kw_2_209, kw_1_1, kw_2_210, ⟨by decide, by decide, by decide +kernel⟩⟩
theorem kV_LW_45 : kV "BoostForestsLaw" 45 y_MD_sum b_MD_sum 5 (some .long) 3 := ⟨kw_4_30, kw_4_31, kw_4_32, kw_1_8, kw_4_33, ⟨by decide, by decide, by decide +kernel⟩⟩
theorem kV_LW_46 : kV "BoostForestsLaw" 46 y_BF_size b_BF_size 2 (some .int) 1 := ⟨kw_2_211, kw_2_212, kw_2_213, kw_1_1, kw_2_214, ⟨by decide, by decide, by decide +kernel⟩⟩
theorem kV_LW_50 : kV "BoostForestsLaw" 50 y_MD_size b_MD_size 2 (some .int) 1 := ⟨kw_4_34, kw_4_35, kw_4_36, kw_1_8, kw_4_37, ⟨by decide, by decide, by decide +kernel⟩⟩
theorem kV_LW_51 : kV "BoostForestsLaw" 51 y_BF_leaf b_BF_leaf 6 (some .int) 5 := ⟨kw_2_215, kw_2_216, kw_2_217, kw_1_1, kw_2_218, ⟨by decide, by decide, by decide +kernel⟩⟩
theorem kV_LW_55 : kV "BoostForestsLaw" 55 y_MD_leaf b_MD_leaf 6 (some .int) 5 := ⟨kw_4_38, kw_4_39, kw_4_40, kw_1_8, kw_4_41, ⟨by decide, by decide, by decide +kernel⟩⟩
theorem kV_LW_56 : kV "BoostForestsLaw" 56 y_BF_answer b_BF_answer 6 (some .long) 5 := ⟨kw_2_220, kw_2_221, kw_2_222, kw_1_1, kw_2_223, ⟨by decide, by decide, by decide +kernel⟩⟩
theorem kV_LW_60 : kV "BoostForestsLaw" 60 y_MD_answer b_MD_answer 9 (some .long) 5 := ⟨kw_4_42, kw_4_43, kw_4_44, kw_1_8, kw_4_45, ⟨by decide, by decide, by decide +kernel⟩⟩
theorem kV_LW_61 : kV "BoostForestsLaw" 61 y_BF_loss b_BF_loss 3 (some .long) 2 := ⟨kw_2_228, kw_2_229, kw_2_230, kw_1_1, kw_2_231, ⟨by decide, by decide, by decide +kernel⟩⟩
theorem kV_LW_65 : kV "BoostForestsLaw" 65 y_MD_loss b_MD_loss 3 (some .long) 2 := ⟨kw_4_46, kw_4_47, kw_4_48, kw_1_8, kw_4_49, ⟨by decide, by decide, by decide +kernel⟩⟩
theorem kV_LW_66 : kV "BoostForestsLaw" 66 y_BF_best b_BF_best 1 (some .int) 0 := ⟨kw_2_233, kw_2_234, kw_2_235, kw_1_1, kw_2_236, ⟨by decide, by decide, by decide +kernel⟩⟩
theorem kV_LW_69 : kV "BoostForestsLaw" 69 y_MD_best b_MD_best 4 (some .int) 0 := ⟨kw_4_51, kw_4_52, kw_4_53, kw_1_8, kw_4_54, ⟨by decide, by decide, by decide +kernel⟩⟩
theorem kV_LW_70 : kV "BoostForestsLaw" 70 y_BF_without b_BF_without 2 (some .long) 1 := ⟨kw_3_1, kw_3_2, kw_3_3, kw_1_1, kw_3_4, ⟨by decide, by decide, by decide +kernel⟩⟩
theorem kV_LW_74 : kV "BoostForestsLaw" 74 y_MD_without b_MD_without 5 (some .long) 1 := ⟨kw_4_55, kw_4_56, kw_4_57, kw_1_8, kw_4_58, ⟨by decide, by decide, by decide +kernel⟩⟩
theorem kV_LW_75 : kV "BoostForestsLaw" 75 y_BF_took b_BF_took 2 (some .int) 1 := ⟨kw_3_13, kw_3_14, kw_3_15, kw_1_1, kw_3_16, ⟨by decide, by decide, by decide +kernel⟩⟩
theorem kV_LW_78 : kV "BoostForestsLaw" 78 y_MD_took b_MD_took 4 (some .int) 1 := ⟨kw_4_59, kw_4_60, kw_4_61, kw_1_8, kw_4_62, ⟨by decide, by decide, by decide +kernel⟩⟩
theorem kV_LW_79 : kV "BoostForestsLaw" 79 y_BF_gain b_BF_gain 2 (some .long) 1 := ⟨kw_3_23, kw_3_24, kw_3_25, kw_1_1, kw_3_26, ⟨by decide, by decide, by decide +kernel⟩⟩
theorem kV_LW_82 : kV "BoostForestsLaw" 82 y_MD_gain b_MD_gain 7 (some .long) 1 := ⟨kw_4_63, kw_4_64, kw_4_65, kw_1_8, kw_4_66, ⟨by decide, by decide, by decide +kernel⟩⟩
theorem kV_LW_83 : kV "BoostForestsLaw" 83 y_BF_told b_BF_told 6 (some .long) 5 := ⟨kw_3_31, kw_3_32, kw_3_33, kw_1_1, kw_3_34, ⟨by decide, by decide, by decide +kernel⟩⟩
theorem kV_LW_86 : kV "BoostForestsLaw" 86 y_MD_told b_MD_told 6 (some .long) 5 := ⟨kw_4_67, kw_4_68, kw_4_69, kw_1_8, kw_4_70, ⟨by decide, by decide, by decide +kernel⟩⟩
theorem kV_LW_87 : kV "BoostForestsLaw" 87 y_BF_share b_BF_share 6 (some .long) 5 := ⟨kw_3_51, kw_3_52, kw_3_53, kw_1_1, kw_3_54, ⟨by decide, by decide, by decide +kernel⟩⟩
theorem kV_LW_90 : kV "BoostForestsLaw" 90 y_MD_share b_MD_share 12 (some .long) 5 := ⟨kw_4_82, kw_4_83, kw_4_84, kw_1_8, kw_4_85, ⟨by decide, by decide, by decide +kernel⟩⟩
theorem kV_LW_91 : kV "BoostForestsLaw" 91 y_BF_count b_BF_count 2 (some .int) 1 := ⟨kw_3_61, kw_3_62, kw_3_63, kw_1_1, kw_3_64, ⟨by decide, by decide, by decide +kernel⟩⟩
theorem kV_LW_94 : kV "BoostForestsLaw" 94 y_MD_count b_MD_count 4 (some .int) 1 := ⟨kw_4_88, kw_4_89, kw_4_90, kw_1_8, kw_4_91, ⟨by decide, by decide, by decide +kernel⟩⟩
def wp_LW_law_793 (Q : Int32 → gM → Prop) (xs : Nat → Int32) (L : Nat) (k18 : Int32 → gM → Prop) (x3 : Int32) (M : gM) : Prop := k18 (x3 + 7) M
def wp_LW_law_18 (Q : Int32 → gM → Prop) (xs : Nat → Int32) (L : Nat) : Nat → Int32 → gM → Prop
  | 0 => fun _ _ => False
  | n + 1 => fun x3 M => (((Int32.ofNat L) - (7 : Int32)) < x3 → (Q (1 : Int32) M)) ∧ (¬ ((Int32.ofNat L) - (7 : Int32)) < x3 → (vp_in x3 L ∧ ((((xs x3.toNatClampNeg) &&& (31 : Int32)) = 0 → (vp_in (x3 + (1 : Int32)) L ∧ (vp_in (x3 + (2 : Int32)) L ∧ (vp_in (x3 + (3 : Int32)) L ∧ (vp_in (x3 + (4 : Int32)) L ∧ (vp_in (x3 + (5 : Int32)) L ∧ (vp_in (x3 + (6 : Int32)) L ∧ (wp_BF_row (fun (r9 : Int32) (M10 : gM) => wp_MD_row (fun (r11 : Int32) (M12 : gM) => (r9 = r11 → (wp_LW_law_793 Q xs L (wp_LW_law_18 Q xs L n) x3 M12)) ∧ (¬ r9 = r11 → (Q (0 : Int32) M12))) (xs ((x3 + (1 : Int32)).toNatClampNeg)) (xs ((x3 + (2 : Int32)).toNatClampNeg)) (xs ((x3 + (3 : Int32)).toNatClampNeg)) (xs ((x3 + (4 : Int32)).toNatClampNeg)) (xs ((x3 + (5 : Int32)).toNatClampNeg)) (xs ((x3 + (6 : Int32)).toNatClampNeg)) M10) (xs ((x3 + (1 : Int32)).toNatClampNeg)) (xs ((x3 + (2 : Int32)).toNatClampNeg)) (xs ((x3 + (3 : Int32)).toNatClampNeg)) (xs ((x3 + (4 : Int32)).toNatClampNeg)) (xs ((x3 + (5 : Int32)).toNatClampNeg)) (xs ((x3 + (6 : Int32)).toNatClampNeg)) M)))))))) ∧ (¬ ((xs x3.toNatClampNeg) &&& (31 : Int32)) = 0 → ((((xs x3.toNatClampNeg) &&& (31 : Int32)) = 1 → (vp_in (x3 + (1 : Int32)) L ∧ (vp_in (x3 + (2 : Int32)) L ∧ (wp_BF_hold (fun (r17 : Int32) (M18 : gM) => wp_MD_hold (fun (r19 : Int32) (M20 : gM) => (r17 = r19 → (wp_LW_law_793 Q xs L (wp_LW_law_18 Q xs L n) x3 M20)) ∧ (¬ r17 = r19 → (Q (0 : Int32) M20))) (xs ((x3 + (1 : Int32)).toNatClampNeg)) (xs ((x3 + (2 : Int32)).toNatClampNeg)) M18) (xs ((x3 + (1 : Int32)).toNatClampNeg)) (xs ((x3 + (2 : Int32)).toNatClampNeg)) M)))) ∧ (¬ ((xs x3.toNatClampNeg) &&& (31 : Int32)) = 1 → ((((xs x3.toNatClampNeg) &&& (31 : Int32)) = 2 → (vp_in (x3 + (1 : Int32)) L ∧ (vp_in (x3 + (2 : Int32)) L ∧ (wp_BF_set (fun (r25 : Int32) (M26 : gM) => wp_MD_set (fun (r27 : Int32) (M28 : gM) => (r25 = r27 → (wp_LW_law_793 Q xs L (wp_LW_law_18 Q xs L n) x3 M28)) ∧ (¬ r25 = r27 → (Q (0 : Int32) M28))) (xs ((x3 + (1 : Int32)).toNatClampNeg)) (xs ((x3 + (2 : Int32)).toNatClampNeg)) M26) (xs ((x3 + (1 : Int32)).toNatClampNeg)) (xs ((x3 + (2 : Int32)).toNatClampNeg)) M)))) ∧ (¬ ((xs x3.toNatClampNeg) &&& (31 : Int32)) = 2 → ((((xs x3.toNatClampNeg) &&& (31 : Int32)) = 3 → (wp_BF_clear (fun (r31 : Int32) (M32 : gM) => wp_MD_clear (fun (r33 : Int32) (M34 : gM) => (r31 = r33 → (wp_LW_law_793 Q xs L (wp_LW_law_18 Q xs L n) x3 M34)) ∧ (¬ r31 = r33 → (Q (0 : Int32) M34))) M32) M)) ∧ (¬ ((xs x3.toNatClampNeg) &&& (31 : Int32)) = 3 → ((((xs x3.toNatClampNeg) &&& (31 : Int32)) = 4 → (wp_BF_train (fun (r37 : Int32) (M38 : gM) => wp_MD_train (fun (r39 : Int32) (M40 : gM) => (r37 = r39 → (wp_LW_law_793 Q xs L (wp_LW_law_18 Q xs L n) x3 M40)) ∧ (¬ r37 = r39 → (Q (0 : Int32) M40))) M38) M)) ∧ (¬ ((xs x3.toNatClampNeg) &&& (31 : Int32)) = 4 → ((((xs x3.toNatClampNeg) &&& (31 : Int32)) = 5 → (vp_in (x3 + (1 : Int32)) L ∧ (vp_in (x3 + (2 : Int32)) L ∧ (vp_in (x3 + (3 : Int32)) L ∧ (wp_BF_node (fun (r46 : Int32) (M47 : gM) => wp_MD_node (fun (r48 : Int32) (M49 : gM) => (r46 = r48 → (wp_LW_law_793 Q xs L (wp_LW_law_18 Q xs L n) x3 M49)) ∧ (¬ r46 = r48 → (Q (0 : Int32) M49))) (xs ((x3 + (1 : Int32)).toNatClampNeg)) (xs ((x3 + (2 : Int32)).toNatClampNeg)) (xs ((x3 + (3 : Int32)).toNatClampNeg)) M47) (xs ((x3 + (1 : Int32)).toNatClampNeg)) (xs ((x3 + (2 : Int32)).toNatClampNeg)) (xs ((x3 + (3 : Int32)).toNatClampNeg)) M))))) ∧ (¬ ((xs x3.toNatClampNeg) &&& (31 : Int32)) = 5 → ((((xs x3.toNatClampNeg) &&& (31 : Int32)) = 6 → (vp_in (x3 + (1 : Int32)) L ∧ (vp_in (x3 + (2 : Int32)) L ∧ (vp_in (x3 + (3 : Int32)) L ∧ (wp_BF_sum (fun (r55 : Int64) (M56 : gM) => wp_MD_sum (fun (r57 : Int64) (M58 : gM) => (r55 = r57 → (wp_LW_law_793 Q xs L (wp_LW_law_18 Q xs L n) x3 M58)) ∧ (¬ r55 = r57 → (Q (0 : Int32) M58))) (xs ((x3 + (1 : Int32)).toNatClampNeg)) (xs ((x3 + (2 : Int32)).toNatClampNeg)) (xs ((x3 + (3 : Int32)).toNatClampNeg)) M56) (xs ((x3 + (1 : Int32)).toNatClampNeg)) (xs ((x3 + (2 : Int32)).toNatClampNeg)) (xs ((x3 + (3 : Int32)).toNatClampNeg)) M))))) ∧ (¬ ((xs x3.toNatClampNeg) &&& (31 : Int32)) = 6 → ((((xs x3.toNatClampNeg) &&& (31 : Int32)) = 7 → (vp_in (x3 + (1 : Int32)) L ∧ (wp_BF_size (fun (r62 : Int32) (M63 : gM) => wp_MD_size (fun (r64 : Int32) (M65 : gM) => (r62 = r64 → (wp_LW_law_793 Q xs L (wp_LW_law_18 Q xs L n) x3 M65)) ∧ (¬ r62 = r64 → (Q (0 : Int32) M65))) (xs ((x3 + (1 : Int32)).toNatClampNeg)) M63) (xs ((x3 + (1 : Int32)).toNatClampNeg)) M))) ∧ (¬ ((xs x3.toNatClampNeg) &&& (31 : Int32)) = 7 → ((((xs x3.toNatClampNeg) &&& (31 : Int32)) = 8 → (vp_in (x3 + (1 : Int32)) L ∧ (vp_in (x3 + (2 : Int32)) L ∧ (vp_in (x3 + (3 : Int32)) L ∧ (vp_in (x3 + (4 : Int32)) L ∧ (vp_in (x3 + (5 : Int32)) L ∧ (wp_BF_leaf (fun (r73 : Int32) (M74 : gM) => wp_MD_leaf (fun (r75 : Int32) (M76 : gM) => (r73 = r75 → (wp_LW_law_793 Q xs L (wp_LW_law_18 Q xs L n) x3 M76)) ∧ (¬ r73 = r75 → (Q (0 : Int32) M76))) (xs ((x3 + (1 : Int32)).toNatClampNeg)) (xs ((x3 + (2 : Int32)).toNatClampNeg)) (xs ((x3 + (3 : Int32)).toNatClampNeg)) (xs ((x3 + (4 : Int32)).toNatClampNeg)) (xs ((x3 + (5 : Int32)).toNatClampNeg)) M74) (xs ((x3 + (1 : Int32)).toNatClampNeg)) (xs ((x3 + (2 : Int32)).toNatClampNeg)) (xs ((x3 + (3 : Int32)).toNatClampNeg)) (xs ((x3 + (4 : Int32)).toNatClampNeg)) (xs ((x3 + (5 : Int32)).toNatClampNeg)) M))))))) ∧ (¬ ((xs x3.toNatClampNeg) &&& (31 : Int32)) = 8 → ((((xs x3.toNatClampNeg) &&& (31 : Int32)) = 9 → (vp_in (x3 + (1 : Int32)) L ∧ (vp_in (x3 + (2 : Int32)) L ∧ (vp_in (x3 + (3 : Int32)) L ∧ (vp_in (x3 + (4 : Int32)) L ∧ (vp_in (x3 + (5 : Int32)) L ∧ (wp_BF_answer (fun (r84 : Int64) (M85 : gM) => wp_MD_answer (fun (r86 : Int64) (M87 : gM) => (r84 = r86 → (wp_LW_law_793 Q xs L (wp_LW_law_18 Q xs L n) x3 M87)) ∧ (¬ r84 = r86 → (Q (0 : Int32) M87))) (xs ((x3 + (1 : Int32)).toNatClampNeg)) (xs ((x3 + (2 : Int32)).toNatClampNeg)) (xs ((x3 + (3 : Int32)).toNatClampNeg)) (xs ((x3 + (4 : Int32)).toNatClampNeg)) (xs ((x3 + (5 : Int32)).toNatClampNeg)) M85) (xs ((x3 + (1 : Int32)).toNatClampNeg)) (xs ((x3 + (2 : Int32)).toNatClampNeg)) (xs ((x3 + (3 : Int32)).toNatClampNeg)) (xs ((x3 + (4 : Int32)).toNatClampNeg)) (xs ((x3 + (5 : Int32)).toNatClampNeg)) M))))))) ∧ (¬ ((xs x3.toNatClampNeg) &&& (31 : Int32)) = 9 → ((((xs x3.toNatClampNeg) &&& (31 : Int32)) = 10 → (vp_in (x3 + (1 : Int32)) L ∧ (vp_in (x3 + (2 : Int32)) L ∧ (wp_BF_loss (fun (r92 : Int64) (M93 : gM) => wp_MD_loss (fun (r94 : Int64) (M95 : gM) => (r92 = r94 → (wp_LW_law_793 Q xs L (wp_LW_law_18 Q xs L n) x3 M95)) ∧ (¬ r92 = r94 → (Q (0 : Int32) M95))) (xs ((x3 + (1 : Int32)).toNatClampNeg)) (xs ((x3 + (2 : Int32)).toNatClampNeg)) M93) (xs ((x3 + (1 : Int32)).toNatClampNeg)) (xs ((x3 + (2 : Int32)).toNatClampNeg)) M)))) ∧ (¬ ((xs x3.toNatClampNeg) &&& (31 : Int32)) = 10 → ((((xs x3.toNatClampNeg) &&& (31 : Int32)) = 11 → (wp_BF_best (fun (r98 : Int32) (M99 : gM) => wp_MD_best (fun (r100 : Int32) (M101 : gM) => (r98 = r100 → (wp_LW_law_793 Q xs L (wp_LW_law_18 Q xs L n) x3 M101)) ∧ (¬ r98 = r100 → (Q (0 : Int32) M101))) M99) M)) ∧ (¬ ((xs x3.toNatClampNeg) &&& (31 : Int32)) = 11 → ((((xs x3.toNatClampNeg) &&& (31 : Int32)) = 12 → (vp_in (x3 + (1 : Int32)) L ∧ (wp_BF_without (fun (r105 : Int64) (M106 : gM) => wp_MD_without (fun (r107 : Int64) (M108 : gM) => (r105 = r107 → (wp_LW_law_793 Q xs L (wp_LW_law_18 Q xs L n) x3 M108)) ∧ (¬ r105 = r107 → (Q (0 : Int32) M108))) (xs ((x3 + (1 : Int32)).toNatClampNeg)) M106) (xs ((x3 + (1 : Int32)).toNatClampNeg)) M))) ∧ (¬ ((xs x3.toNatClampNeg) &&& (31 : Int32)) = 12 → ((((xs x3.toNatClampNeg) &&& (31 : Int32)) = 13 → (vp_in (x3 + (1 : Int32)) L ∧ (wp_BF_took (fun (r112 : Int32) (M113 : gM) => wp_MD_took (fun (r114 : Int32) (M115 : gM) => (r112 = r114 → (wp_LW_law_793 Q xs L (wp_LW_law_18 Q xs L n) x3 M115)) ∧ (¬ r112 = r114 → (Q (0 : Int32) M115))) (xs ((x3 + (1 : Int32)).toNatClampNeg)) M113) (xs ((x3 + (1 : Int32)).toNatClampNeg)) M))) ∧ (¬ ((xs x3.toNatClampNeg) &&& (31 : Int32)) = 13 → ((((xs x3.toNatClampNeg) &&& (31 : Int32)) = 14 → (vp_in (x3 + (1 : Int32)) L ∧ (wp_BF_gain (fun (r119 : Int64) (M120 : gM) => wp_MD_gain (fun (r121 : Int64) (M122 : gM) => (r119 = r121 → (wp_LW_law_793 Q xs L (wp_LW_law_18 Q xs L n) x3 M122)) ∧ (¬ r119 = r121 → (Q (0 : Int32) M122))) (xs ((x3 + (1 : Int32)).toNatClampNeg)) M120) (xs ((x3 + (1 : Int32)).toNatClampNeg)) M))) ∧ (¬ ((xs x3.toNatClampNeg) &&& (31 : Int32)) = 14 → ((((xs x3.toNatClampNeg) &&& (31 : Int32)) = 15 → (vp_in (x3 + (1 : Int32)) L ∧ (vp_in (x3 + (2 : Int32)) L ∧ (vp_in (x3 + (3 : Int32)) L ∧ (vp_in (x3 + (4 : Int32)) L ∧ (vp_in (x3 + (5 : Int32)) L ∧ (wp_BF_told (fun (r130 : Int64) (M131 : gM) => wp_MD_told (fun (r132 : Int64) (M133 : gM) => (r130 = r132 → (wp_LW_law_793 Q xs L (wp_LW_law_18 Q xs L n) x3 M133)) ∧ (¬ r130 = r132 → (Q (0 : Int32) M133))) (xs ((x3 + (1 : Int32)).toNatClampNeg)) (xs ((x3 + (2 : Int32)).toNatClampNeg)) (xs ((x3 + (3 : Int32)).toNatClampNeg)) (xs ((x3 + (4 : Int32)).toNatClampNeg)) (xs ((x3 + (5 : Int32)).toNatClampNeg)) M131) (xs ((x3 + (1 : Int32)).toNatClampNeg)) (xs ((x3 + (2 : Int32)).toNatClampNeg)) (xs ((x3 + (3 : Int32)).toNatClampNeg)) (xs ((x3 + (4 : Int32)).toNatClampNeg)) (xs ((x3 + (5 : Int32)).toNatClampNeg)) M))))))) ∧ (¬ ((xs x3.toNatClampNeg) &&& (31 : Int32)) = 15 → ((((xs x3.toNatClampNeg) &&& (31 : Int32)) = 16 → (vp_in (x3 + (1 : Int32)) L ∧ (vp_in (x3 + (2 : Int32)) L ∧ (vp_in (x3 + (3 : Int32)) L ∧ (vp_in (x3 + (4 : Int32)) L ∧ (vp_in (x3 + (5 : Int32)) L ∧ (wp_BF_share (fun (r141 : Int64) (M142 : gM) => wp_MD_share (fun (r143 : Int64) (M144 : gM) => (r141 = r143 → (wp_LW_law_793 Q xs L (wp_LW_law_18 Q xs L n) x3 M144)) ∧ (¬ r141 = r143 → (Q (0 : Int32) M144))) (xs ((x3 + (1 : Int32)).toNatClampNeg)) (xs ((x3 + (2 : Int32)).toNatClampNeg)) (xs ((x3 + (3 : Int32)).toNatClampNeg)) (xs ((x3 + (4 : Int32)).toNatClampNeg)) (xs ((x3 + (5 : Int32)).toNatClampNeg)) M142) (xs ((x3 + (1 : Int32)).toNatClampNeg)) (xs ((x3 + (2 : Int32)).toNatClampNeg)) (xs ((x3 + (3 : Int32)).toNatClampNeg)) (xs ((x3 + (4 : Int32)).toNatClampNeg)) (xs ((x3 + (5 : Int32)).toNatClampNeg)) M))))))) ∧ (¬ ((xs x3.toNatClampNeg) &&& (31 : Int32)) = 16 → ((((xs x3.toNatClampNeg) &&& (31 : Int32)) = 17 → (vp_in (x3 + (1 : Int32)) L ∧ (wp_BF_count (fun (r148 : Int32) (M149 : gM) => wp_MD_count (fun (r150 : Int32) (M151 : gM) => (r148 = r150 → (wp_LW_law_793 Q xs L (wp_LW_law_18 Q xs L n) x3 M151)) ∧ (¬ r148 = r150 → (Q (0 : Int32) M151))) (xs ((x3 + (1 : Int32)).toNatClampNeg)) M149) (xs ((x3 + (1 : Int32)).toNatClampNeg)) M))) ∧ (¬ ((xs x3.toNatClampNeg) &&& (31 : Int32)) = 17 → (wp_LW_law_793 Q xs L (wp_LW_law_18 Q xs L n) x3 M)))))))))))))))))))))))))))))))))))))))
set_option maxHeartbeats 4000000 in
set_option maxRecDepth 100000 in
theorem L_LW_law_793 {p : Program} {l : Launch} {e : Env} {s : State} {m : MethodId} {below : List Frame} {meth : Method} {c : Code} {D : va_G} {cy : Nat → ClassId} {ad : Nat → Nat} {b L cells slots t_LOWEST t_HIGHEST : Nat} {xs : Nat → Int32} (C : Cx p s m #[Value.ref b] meth c code 4 ret "BoostForestsLaw" D cy ad) (hX : va_X b L xs s s.heap) (hbl : b < s.heap.size) (hbA : ¬ gA ad s.heap.size b) (had : ∀ k, k < nW → s.heap.size ≤ ad k) (hc1 : cells ≤ 600000) (hc2 : slots ≤ 7302250) (hZ_LOWEST : va_Z "BoostForests" "LOWEST" "[I" (.ref t_LOWEST) (gA ad s.heap.size) s s.heap) (hT_LOWEST : va_T .int t_LOWEST 15 (fun k => .int (c_LOWEST k)) (gA ad s.heap.size) s s.heap) (hZ_HIGHEST : va_Z "BoostForests" "HIGHEST" "[I" (.ref t_HIGHEST) (gA ad s.heap.size) s s.heap) (hT_HIGHEST : va_T .int t_HIGHEST 15 (fun k => .int (c_HIGHEST k)) (gA ad s.heap.size) s s.heap) {Q : Int32 → gM → Prop} (hQ : ∀ v M, Q v M → v = 1) {x3 : Int32} {k18 : Int32 → gM → Prop} (K18 : ∀ (x3 : Int32) (M : gM) (H : Heap) (locs : List Loc) (ls : Array Slot), k18 x3 M → gI D cy ad s M H locs → lv_has ls 4 [(0, .ref b), (1, .ref (ad 0)), (2, .ref (ad 273)), (3, .int x3)] → W p l e room_1 s m #[Value.ref b] below meth c H locs cells slots (lw_Z below #[Value.ref b] s) (F0 m 18 ls [])) {M : gM} {H : Heap} {locs : List Loc} {ls : Array Slot} (h : wp_LW_law_793 Q xs L k18 x3 M) (hI : gI D cy ad s M H locs) (hl : lv_has ls 4 [(0, .ref b), (1, .ref (ad 0)), (2, .ref (ad 273)), (3, .int x3)]) : W p l e room_1 s m #[Value.ref b] below meth c H locs cells slots (lw_Z below #[Value.ref b] s) (F0 m 793 ls []) := by
  obtain ⟨hx, hb, hml, hown, hts, hr, hlk, hK, hja⟩ := id C
  refine lv_iinc (v := x3 + 7) (lv' := [(3, .int (x3 + 7)), (0, .ref b), (1, .ref (ad 0)), (2, .ref (ad 273))]) hx hb d_LW_law_793 hl (k := 3) rfl rfl (by decide) rfl (fun ls hl => ?_)
  refine lv_goto (tgt := 18) hx hb d_LW_law_796 (by decide) ?_
  exact K18 (x3 + 7) M _ _ _ h hI (lv_sub hl [1, 2, 3, 0] rfl)
set_option maxHeartbeats 4000000 in
set_option maxRecDepth 100000 in
theorem L_LW_law_18 {p : Program} {l : Launch} {e : Env} {s : State} {m : MethodId} {below : List Frame} {meth : Method} {c : Code} {D : va_G} {cy : Nat → ClassId} {ad : Nat → Nat} {b L cells slots t_LOWEST t_HIGHEST : Nat} {xs : Nat → Int32} (C : Cx p s m #[Value.ref b] meth c code 4 ret "BoostForestsLaw" D cy ad) (hX : va_X b L xs s s.heap) (hbl : b < s.heap.size) (hbA : ¬ gA ad s.heap.size b) (had : ∀ k, k < nW → s.heap.size ≤ ad k) (hc1 : cells ≤ 600000) (hc2 : slots ≤ 7302250) (hZ_LOWEST : va_Z "BoostForests" "LOWEST" "[I" (.ref t_LOWEST) (gA ad s.heap.size) s s.heap) (hT_LOWEST : va_T .int t_LOWEST 15 (fun k => .int (c_LOWEST k)) (gA ad s.heap.size) s s.heap) (hZ_HIGHEST : va_Z "BoostForests" "HIGHEST" "[I" (.ref t_HIGHEST) (gA ad s.heap.size) s s.heap) (hT_HIGHEST : va_T .int t_HIGHEST 15 (fun k => .int (c_HIGHEST k)) (gA ad s.heap.size) s s.heap) {Q : Int32 → gM → Prop} (hQ : ∀ v M, Q v M → v = 1) (n : Nat) : ∀ (x3 : Int32) (M : gM) (H : Heap) (locs : List Loc) (ls : Array Slot), wp_LW_law_18 Q xs L n x3 M → gI D cy ad s M H locs → lv_has ls 4 [(0, .ref b), (1, .ref (ad 0)), (2, .ref (ad 273)), (3, .int x3)] → W p l e room_1 s m #[Value.ref b] below meth c H locs cells slots (lw_Z below #[Value.ref b] s) (F0 m 18 ls []) := by
  obtain ⟨hx, hb, hml, hown, hts, hr, hlk, hK, hja⟩ := id C
  induction n with
  | zero => exact fun _ _ _ _ _ h _ _ => h.elim
  | succ n ih =>
    intro x3 M H locs ls h hI hl
    have h := h
    refine lv_iload_n hx hb d_LW_law_18 rfl (lv_at hl 3 rfl) ?_
    refine lv_aload_n hx hb d_LW_law_19 rfl (lv_at hl 0 rfl) ?_
    refine va_slen hx hb hX hbl hbA hI.2 d_LW_law_20 ?_
    refine lv_bipush (v := (7 : Int32)) hx hb d_LW_law_21 (by decide) ?_
    refine lv_isub hx hb d_LW_law_23 ?_
    refine lv_icmp_gt (tgt := 799) hx hb d_LW_law_24 (by decide) (fun c153 => ?_) (fun c153 => ?_)
    · have h := h.1 c153
      refine lv_iconst (v := (1 : Int32)) hx hb d_LW_law_799 (by decide) ?_
      exact lw_end C hc1 hc2 (hQ _ _ h) hI had d_LW_law_800
    · have h := h.2 c153
      refine lv_aload_n hx hb d_LW_law_27 rfl (lv_at hl 0 rfl) ?_
      refine lv_iload_n hx hb d_LW_law_28 rfl (lv_at hl 3 rfl) ?_
      obtain ⟨g1, h⟩ := h
      refine va_sld hx hb hX hbl hbA hI.2 g1 d_LW_law_29 ?_
      refine lv_bipush (v := (31 : Int32)) hx hb d_LW_law_30 (by decide) ?_
      refine lv_iand hx hb d_LW_law_32 ?_
      rcases Classical.em (((xs x3.toNatClampNeg) &&& (31 : Int32)) = 0) with c2 | c2
      · have h := h.1 c2
        refine lv_tableIn (tgt := 120) hx hb d_LW_law_33 (by rw [c2]; decide) (by rw [c2]; decide) (by rw [c2]; rfl) (by decide) ?_
        refine lv_aload_n hx hb d_LW_law_120 rfl (lv_at hl 1 rfl) ?_
        refine lv_aload_n hx hb d_LW_law_121 rfl (lv_at hl 0 rfl) ?_
        refine lv_iload_n hx hb d_LW_law_122 rfl (lv_at hl 3 rfl) ?_
        refine lv_iconst (v := (1 : Int32)) hx hb d_LW_law_123 (by decide) ?_
        refine lv_iadd hx hb d_LW_law_124 ?_
        obtain ⟨g3, h⟩ := h
        refine va_sld hx hb hX hbl hbA hI.2 g3 d_LW_law_125 ?_
        refine lv_aload_n hx hb d_LW_law_126 rfl (lv_at hl 0 rfl) ?_
        refine lv_iload_n hx hb d_LW_law_127 rfl (lv_at hl 3 rfl) ?_
        refine lv_iconst (v := (2 : Int32)) hx hb d_LW_law_128 (by decide) ?_
        refine lv_iadd hx hb d_LW_law_129 ?_
        obtain ⟨g4, h⟩ := h
        refine va_sld hx hb hX hbl hbA hI.2 g4 d_LW_law_130 ?_
        refine lv_aload_n hx hb d_LW_law_131 rfl (lv_at hl 0 rfl) ?_
        refine lv_iload_n hx hb d_LW_law_132 rfl (lv_at hl 3 rfl) ?_
        refine lv_iconst (v := (3 : Int32)) hx hb d_LW_law_133 (by decide) ?_
        refine lv_iadd hx hb d_LW_law_134 ?_
        obtain ⟨g5, h⟩ := h
        refine va_sld hx hb hX hbl hbA hI.2 g5 d_LW_law_135 ?_
        refine lv_aload_n hx hb d_LW_law_136 rfl (lv_at hl 0 rfl) ?_
        refine lv_iload_n hx hb d_LW_law_137 rfl (lv_at hl 3 rfl) ?_
        refine lv_iconst (v := (4 : Int32)) hx hb d_LW_law_138 (by decide) ?_
        refine lv_iadd hx hb d_LW_law_139 ?_
        obtain ⟨g6, h⟩ := h
        refine va_sld hx hb hX hbl hbA hI.2 g6 d_LW_law_140 ?_
        refine lv_aload_n hx hb d_LW_law_141 rfl (lv_at hl 0 rfl) ?_
        refine lv_iload_n hx hb d_LW_law_142 rfl (lv_at hl 3 rfl) ?_
        refine lv_iconst (v := (5 : Int32)) hx hb d_LW_law_143 (by decide) ?_
        refine lv_iadd hx hb d_LW_law_144 ?_
        obtain ⟨g7, h⟩ := h
        refine va_sld hx hb hX hbl hbA hI.2 g7 d_LW_law_145 ?_
        refine lv_aload_n hx hb d_LW_law_146 rfl (lv_at hl 0 rfl) ?_
        refine lv_iload_n hx hb d_LW_law_147 rfl (lv_at hl 3 rfl) ?_
        refine lv_bipush (v := (6 : Int32)) hx hb d_LW_law_148 (by decide) ?_
        refine lv_iadd hx hb d_LW_law_150 ?_
        obtain ⟨g8, h⟩ := h
        refine va_sld hx hb hX hbl hbA hI.2 g8 d_LW_law_151 ?_
        refine gw_Vi C hI hl.1 (As := [.int (xs ((x3 + (1 : Int32)).toNatClampNeg)), .int (xs ((x3 + (2 : Int32)).toNatClampNeg)), .int (xs ((x3 + (3 : Int32)).toNatClampNeg)), .int (xs ((x3 + (4 : Int32)).toNatClampNeg)), .int (xs ((x3 + (5 : Int32)).toNatClampNeg)), .int (xs ((x3 + (6 : Int32)).toNatClampNeg))]) (rest := []) (c_BF_row hja h) kV_LW_13 lay_0 rfl rfl ⟨rfl, rfl⟩ ⟨Nat.le_of_ble_eq_true rfl, Nat.le_of_ble_eq_true rfl⟩ rfl (Nat.le_of_ble_eq_true rfl) ⟨hc1, hc2⟩ d_LW_law_152 (fun r9 M10 H locs h hI => ?_)
        refine lv_aload_n hx hb d_LW_law_155 rfl (lv_at hl 2 rfl) ?_
        refine lv_aload_n hx hb d_LW_law_156 rfl (lv_at hl 0 rfl) ?_
        refine lv_iload_n hx hb d_LW_law_157 rfl (lv_at hl 3 rfl) ?_
        refine lv_iconst (v := (1 : Int32)) hx hb d_LW_law_158 (by decide) ?_
        refine lv_iadd hx hb d_LW_law_159 ?_
        refine va_sld hx hb hX hbl hbA hI.2 g3 d_LW_law_160 ?_
        refine lv_aload_n hx hb d_LW_law_161 rfl (lv_at hl 0 rfl) ?_
        refine lv_iload_n hx hb d_LW_law_162 rfl (lv_at hl 3 rfl) ?_
        refine lv_iconst (v := (2 : Int32)) hx hb d_LW_law_163 (by decide) ?_
        refine lv_iadd hx hb d_LW_law_164 ?_
        refine va_sld hx hb hX hbl hbA hI.2 g4 d_LW_law_165 ?_
        refine lv_aload_n hx hb d_LW_law_166 rfl (lv_at hl 0 rfl) ?_
        refine lv_iload_n hx hb d_LW_law_167 rfl (lv_at hl 3 rfl) ?_
        refine lv_iconst (v := (3 : Int32)) hx hb d_LW_law_168 (by decide) ?_
        refine lv_iadd hx hb d_LW_law_169 ?_
        refine va_sld hx hb hX hbl hbA hI.2 g5 d_LW_law_170 ?_
        refine lv_aload_n hx hb d_LW_law_171 rfl (lv_at hl 0 rfl) ?_
        refine lv_iload_n hx hb d_LW_law_172 rfl (lv_at hl 3 rfl) ?_
        refine lv_iconst (v := (4 : Int32)) hx hb d_LW_law_173 (by decide) ?_
        refine lv_iadd hx hb d_LW_law_174 ?_
        refine va_sld hx hb hX hbl hbA hI.2 g6 d_LW_law_175 ?_
        refine lv_aload_n hx hb d_LW_law_176 rfl (lv_at hl 0 rfl) ?_
        refine lv_iload_n hx hb d_LW_law_177 rfl (lv_at hl 3 rfl) ?_
        refine lv_iconst (v := (5 : Int32)) hx hb d_LW_law_178 (by decide) ?_
        refine lv_iadd hx hb d_LW_law_179 ?_
        refine va_sld hx hb hX hbl hbA hI.2 g7 d_LW_law_180 ?_
        refine lv_aload_n hx hb d_LW_law_181 rfl (lv_at hl 0 rfl) ?_
        refine lv_iload_n hx hb d_LW_law_182 rfl (lv_at hl 3 rfl) ?_
        refine lv_bipush (v := (6 : Int32)) hx hb d_LW_law_183 (by decide) ?_
        refine lv_iadd hx hb d_LW_law_185 ?_
        refine va_sld hx hb hX hbl hbA hI.2 g8 d_LW_law_186 ?_
        refine gw_Vi C hI hl.1 (As := [.int (xs ((x3 + (1 : Int32)).toNatClampNeg)), .int (xs ((x3 + (2 : Int32)).toNatClampNeg)), .int (xs ((x3 + (3 : Int32)).toNatClampNeg)), .int (xs ((x3 + (4 : Int32)).toNatClampNeg)), .int (xs ((x3 + (5 : Int32)).toNatClampNeg)), .int (xs ((x3 + (6 : Int32)).toNatClampNeg))]) (rest := [.int r9]) (c_MD_row hja h) kV_LW_17 lay_273 rfl rfl ⟨rfl, rfl⟩ ⟨Nat.le_of_ble_eq_true rfl, Nat.le_of_ble_eq_true rfl⟩ rfl (Nat.le_of_ble_eq_true rfl) ⟨hc1, hc2⟩ d_LW_law_187 (fun r11 M12 H locs h hI => ?_)
        refine lv_icmp_eq (tgt := 793) hx hb d_LW_law_190 (by decide) (fun c13 => ?_) (fun c13 => ?_)
        · have h := h.1 c13
          exact L_LW_law_793 C hX hbl hbA had hc1 hc2 hZ_LOWEST hT_LOWEST hZ_HIGHEST hT_HIGHEST hQ ih h hI (lv_sub hl [0, 1, 2, 3] rfl)
        · have h := h.2 c13
          refine lv_iconst (v := (0 : Int32)) hx hb d_LW_law_193 (by decide) ?_
          exact lw_end C hc1 hc2 (hQ _ _ h) hI had d_LW_law_194
      · have h := h.2 c2
        rcases Classical.em (((xs x3.toNatClampNeg) &&& (31 : Int32)) = 1) with c14 | c14
        · have h := h.1 c14
          refine lv_tableIn (tgt := 195) hx hb d_LW_law_33 (by rw [c14]; decide) (by rw [c14]; decide) (by rw [c14]; rfl) (by decide) ?_
          refine lv_aload_n hx hb d_LW_law_195 rfl (lv_at hl 1 rfl) ?_
          refine lv_aload_n hx hb d_LW_law_196 rfl (lv_at hl 0 rfl) ?_
          refine lv_iload_n hx hb d_LW_law_197 rfl (lv_at hl 3 rfl) ?_
          refine lv_iconst (v := (1 : Int32)) hx hb d_LW_law_198 (by decide) ?_
          refine lv_iadd hx hb d_LW_law_199 ?_
          obtain ⟨g15, h⟩ := h
          refine va_sld hx hb hX hbl hbA hI.2 g15 d_LW_law_200 ?_
          refine lv_aload_n hx hb d_LW_law_201 rfl (lv_at hl 0 rfl) ?_
          refine lv_iload_n hx hb d_LW_law_202 rfl (lv_at hl 3 rfl) ?_
          refine lv_iconst (v := (2 : Int32)) hx hb d_LW_law_203 (by decide) ?_
          refine lv_iadd hx hb d_LW_law_204 ?_
          obtain ⟨g16, h⟩ := h
          refine va_sld hx hb hX hbl hbA hI.2 g16 d_LW_law_205 ?_
          refine gw_Vi C hI hl.1 (As := [.int (xs ((x3 + (1 : Int32)).toNatClampNeg)), .int (xs ((x3 + (2 : Int32)).toNatClampNeg))]) (rest := []) (c_BF_hold hja h) kV_LW_18 lay_0 rfl rfl ⟨rfl, rfl⟩ ⟨Nat.le_of_ble_eq_true rfl, Nat.le_of_ble_eq_true rfl⟩ rfl (Nat.le_of_ble_eq_true rfl) ⟨hc1, hc2⟩ d_LW_law_206 (fun r17 M18 H locs h hI => ?_)
          refine lv_aload_n hx hb d_LW_law_209 rfl (lv_at hl 2 rfl) ?_
          refine lv_aload_n hx hb d_LW_law_210 rfl (lv_at hl 0 rfl) ?_
          refine lv_iload_n hx hb d_LW_law_211 rfl (lv_at hl 3 rfl) ?_
          refine lv_iconst (v := (1 : Int32)) hx hb d_LW_law_212 (by decide) ?_
          refine lv_iadd hx hb d_LW_law_213 ?_
          refine va_sld hx hb hX hbl hbA hI.2 g15 d_LW_law_214 ?_
          refine lv_aload_n hx hb d_LW_law_215 rfl (lv_at hl 0 rfl) ?_
          refine lv_iload_n hx hb d_LW_law_216 rfl (lv_at hl 3 rfl) ?_
          refine lv_iconst (v := (2 : Int32)) hx hb d_LW_law_217 (by decide) ?_
          refine lv_iadd hx hb d_LW_law_218 ?_
          refine va_sld hx hb hX hbl hbA hI.2 g16 d_LW_law_219 ?_
          refine gw_Vi C hI hl.1 (As := [.int (xs ((x3 + (1 : Int32)).toNatClampNeg)), .int (xs ((x3 + (2 : Int32)).toNatClampNeg))]) (rest := [.int r17]) (c_MD_hold hja h) kV_LW_22 lay_273 rfl rfl ⟨rfl, rfl⟩ ⟨Nat.le_of_ble_eq_true rfl, Nat.le_of_ble_eq_true rfl⟩ rfl (Nat.le_of_ble_eq_true rfl) ⟨hc1, hc2⟩ d_LW_law_220 (fun r19 M20 H locs h hI => ?_)
          refine lv_icmp_eq (tgt := 793) hx hb d_LW_law_223 (by decide) (fun c21 => ?_) (fun c21 => ?_)
          · have h := h.1 c21
            exact L_LW_law_793 C hX hbl hbA had hc1 hc2 hZ_LOWEST hT_LOWEST hZ_HIGHEST hT_HIGHEST hQ ih h hI (lv_sub hl [0, 1, 2, 3] rfl)
          · have h := h.2 c21
            refine lv_iconst (v := (0 : Int32)) hx hb d_LW_law_226 (by decide) ?_
            exact lw_end C hc1 hc2 (hQ _ _ h) hI had d_LW_law_227
        · have h := h.2 c14
          rcases Classical.em (((xs x3.toNatClampNeg) &&& (31 : Int32)) = 2) with c22 | c22
          · have h := h.1 c22
            refine lv_tableIn (tgt := 228) hx hb d_LW_law_33 (by rw [c22]; decide) (by rw [c22]; decide) (by rw [c22]; rfl) (by decide) ?_
            refine lv_aload_n hx hb d_LW_law_228 rfl (lv_at hl 1 rfl) ?_
            refine lv_aload_n hx hb d_LW_law_229 rfl (lv_at hl 0 rfl) ?_
            refine lv_iload_n hx hb d_LW_law_230 rfl (lv_at hl 3 rfl) ?_
            refine lv_iconst (v := (1 : Int32)) hx hb d_LW_law_231 (by decide) ?_
            refine lv_iadd hx hb d_LW_law_232 ?_
            obtain ⟨g23, h⟩ := h
            refine va_sld hx hb hX hbl hbA hI.2 g23 d_LW_law_233 ?_
            refine lv_aload_n hx hb d_LW_law_234 rfl (lv_at hl 0 rfl) ?_
            refine lv_iload_n hx hb d_LW_law_235 rfl (lv_at hl 3 rfl) ?_
            refine lv_iconst (v := (2 : Int32)) hx hb d_LW_law_236 (by decide) ?_
            refine lv_iadd hx hb d_LW_law_237 ?_
            obtain ⟨g24, h⟩ := h
            refine va_sld hx hb hX hbl hbA hI.2 g24 d_LW_law_238 ?_
            refine gw_VS C hI hl.1 hZ_LOWEST hT_LOWEST hZ_HIGHEST hT_HIGHEST (As := [.int (xs ((x3 + (1 : Int32)).toNatClampNeg)), .int (xs ((x3 + (2 : Int32)).toNatClampNeg))]) (rest := []) (c_BF_set hja h) kV_LW_23 lay_0 rfl rfl ⟨rfl, rfl⟩ ⟨Nat.le_of_ble_eq_true rfl, Nat.le_of_ble_eq_true rfl⟩ rfl (Nat.le_of_ble_eq_true rfl) ⟨hc1, hc2⟩ d_LW_law_239 (fun r25 M26 H locs h hI => ?_)
            refine lv_aload_n hx hb d_LW_law_242 rfl (lv_at hl 2 rfl) ?_
            refine lv_aload_n hx hb d_LW_law_243 rfl (lv_at hl 0 rfl) ?_
            refine lv_iload_n hx hb d_LW_law_244 rfl (lv_at hl 3 rfl) ?_
            refine lv_iconst (v := (1 : Int32)) hx hb d_LW_law_245 (by decide) ?_
            refine lv_iadd hx hb d_LW_law_246 ?_
            refine va_sld hx hb hX hbl hbA hI.2 g23 d_LW_law_247 ?_
            refine lv_aload_n hx hb d_LW_law_248 rfl (lv_at hl 0 rfl) ?_
            refine lv_iload_n hx hb d_LW_law_249 rfl (lv_at hl 3 rfl) ?_
            refine lv_iconst (v := (2 : Int32)) hx hb d_LW_law_250 (by decide) ?_
            refine lv_iadd hx hb d_LW_law_251 ?_
            refine va_sld hx hb hX hbl hbA hI.2 g24 d_LW_law_252 ?_
            refine gw_Vi C hI hl.1 (As := [.int (xs ((x3 + (1 : Int32)).toNatClampNeg)), .int (xs ((x3 + (2 : Int32)).toNatClampNeg))]) (rest := [.int r25]) (c_MD_set hja h) kV_LW_26 lay_273 rfl rfl ⟨rfl, rfl⟩ ⟨Nat.le_of_ble_eq_true rfl, Nat.le_of_ble_eq_true rfl⟩ rfl (Nat.le_of_ble_eq_true rfl) ⟨hc1, hc2⟩ d_LW_law_253 (fun r27 M28 H locs h hI => ?_)
            refine lv_icmp_eq (tgt := 793) hx hb d_LW_law_256 (by decide) (fun c29 => ?_) (fun c29 => ?_)
            · have h := h.1 c29
              exact L_LW_law_793 C hX hbl hbA had hc1 hc2 hZ_LOWEST hT_LOWEST hZ_HIGHEST hT_HIGHEST hQ ih h hI (lv_sub hl [0, 1, 2, 3] rfl)
            · have h := h.2 c29
              refine lv_iconst (v := (0 : Int32)) hx hb d_LW_law_259 (by decide) ?_
              exact lw_end C hc1 hc2 (hQ _ _ h) hI had d_LW_law_260
          · have h := h.2 c22
            rcases Classical.em (((xs x3.toNatClampNeg) &&& (31 : Int32)) = 3) with c30 | c30
            · have h := h.1 c30
              refine lv_tableIn (tgt := 261) hx hb d_LW_law_33 (by rw [c30]; decide) (by rw [c30]; decide) (by rw [c30]; rfl) (by decide) ?_
              refine lv_aload_n hx hb d_LW_law_261 rfl (lv_at hl 1 rfl) ?_
              refine gw_Vi C hI hl.1 (As := []) (rest := []) (c_BF_clear hja h) kV_LW_27 lay_0 rfl rfl ⟨rfl, rfl⟩ ⟨Nat.le_of_ble_eq_true rfl, Nat.le_of_ble_eq_true rfl⟩ rfl (Nat.le_of_ble_eq_true rfl) ⟨hc1, hc2⟩ d_LW_law_262 (fun r31 M32 H locs h hI => ?_)
              refine lv_aload_n hx hb d_LW_law_265 rfl (lv_at hl 2 rfl) ?_
              refine gw_Vi C hI hl.1 (As := []) (rest := [.int r31]) (c_MD_clear hja h) kV_LW_31 lay_273 rfl rfl ⟨rfl, rfl⟩ ⟨Nat.le_of_ble_eq_true rfl, Nat.le_of_ble_eq_true rfl⟩ rfl (Nat.le_of_ble_eq_true rfl) ⟨hc1, hc2⟩ d_LW_law_266 (fun r33 M34 H locs h hI => ?_)
              refine lv_icmp_eq (tgt := 793) hx hb d_LW_law_269 (by decide) (fun c35 => ?_) (fun c35 => ?_)
              · have h := h.1 c35
                exact L_LW_law_793 C hX hbl hbA had hc1 hc2 hZ_LOWEST hT_LOWEST hZ_HIGHEST hT_HIGHEST hQ ih h hI (lv_sub hl [0, 1, 2, 3] rfl)
              · have h := h.2 c35
                refine lv_iconst (v := (0 : Int32)) hx hb d_LW_law_272 (by decide) ?_
                exact lw_end C hc1 hc2 (hQ _ _ h) hI had d_LW_law_273
            · have h := h.2 c30
              rcases Classical.em (((xs x3.toNatClampNeg) &&& (31 : Int32)) = 4) with c36 | c36
              · have h := h.1 c36
                refine lv_tableIn (tgt := 274) hx hb d_LW_law_33 (by rw [c36]; decide) (by rw [c36]; decide) (by rw [c36]; rfl) (by decide) ?_
                refine lv_aload_n hx hb d_LW_law_274 rfl (lv_at hl 1 rfl) ?_
                refine gw_Vi C hI hl.1 (As := []) (rest := []) (c_BF_train hja h) kV_LW_32 lay_0 rfl rfl ⟨rfl, rfl⟩ ⟨Nat.le_of_ble_eq_true rfl, Nat.le_of_ble_eq_true rfl⟩ rfl (Nat.le_of_ble_eq_true rfl) ⟨hc1, hc2⟩ d_LW_law_275 (fun r37 M38 H locs h hI => ?_)
                refine lv_aload_n hx hb d_LW_law_278 rfl (lv_at hl 2 rfl) ?_
                refine gw_Vi C hI hl.1 (As := []) (rest := [.int r37]) (c_MD_train hja h) kV_LW_35 lay_273 rfl rfl ⟨rfl, rfl⟩ ⟨Nat.le_of_ble_eq_true rfl, Nat.le_of_ble_eq_true rfl⟩ rfl (Nat.le_of_ble_eq_true rfl) ⟨hc1, hc2⟩ d_LW_law_279 (fun r39 M40 H locs h hI => ?_)
                refine lv_icmp_eq (tgt := 793) hx hb d_LW_law_282 (by decide) (fun c41 => ?_) (fun c41 => ?_)
                · have h := h.1 c41
                  exact L_LW_law_793 C hX hbl hbA had hc1 hc2 hZ_LOWEST hT_LOWEST hZ_HIGHEST hT_HIGHEST hQ ih h hI (lv_sub hl [0, 1, 2, 3] rfl)
                · have h := h.2 c41
                  refine lv_iconst (v := (0 : Int32)) hx hb d_LW_law_285 (by decide) ?_
                  exact lw_end C hc1 hc2 (hQ _ _ h) hI had d_LW_law_286
              · have h := h.2 c36
                rcases Classical.em (((xs x3.toNatClampNeg) &&& (31 : Int32)) = 5) with c42 | c42
                · have h := h.1 c42
                  refine lv_tableIn (tgt := 287) hx hb d_LW_law_33 (by rw [c42]; decide) (by rw [c42]; decide) (by rw [c42]; rfl) (by decide) ?_
                  refine lv_aload_n hx hb d_LW_law_287 rfl (lv_at hl 1 rfl) ?_
                  refine lv_aload_n hx hb d_LW_law_288 rfl (lv_at hl 0 rfl) ?_
                  refine lv_iload_n hx hb d_LW_law_289 rfl (lv_at hl 3 rfl) ?_
                  refine lv_iconst (v := (1 : Int32)) hx hb d_LW_law_290 (by decide) ?_
                  refine lv_iadd hx hb d_LW_law_291 ?_
                  obtain ⟨g43, h⟩ := h
                  refine va_sld hx hb hX hbl hbA hI.2 g43 d_LW_law_292 ?_
                  refine lv_aload_n hx hb d_LW_law_293 rfl (lv_at hl 0 rfl) ?_
                  refine lv_iload_n hx hb d_LW_law_294 rfl (lv_at hl 3 rfl) ?_
                  refine lv_iconst (v := (2 : Int32)) hx hb d_LW_law_295 (by decide) ?_
                  refine lv_iadd hx hb d_LW_law_296 ?_
                  obtain ⟨g44, h⟩ := h
                  refine va_sld hx hb hX hbl hbA hI.2 g44 d_LW_law_297 ?_
                  refine lv_aload_n hx hb d_LW_law_298 rfl (lv_at hl 0 rfl) ?_
                  refine lv_iload_n hx hb d_LW_law_299 rfl (lv_at hl 3 rfl) ?_
                  refine lv_iconst (v := (3 : Int32)) hx hb d_LW_law_300 (by decide) ?_
                  refine lv_iadd hx hb d_LW_law_301 ?_
                  obtain ⟨g45, h⟩ := h
                  refine va_sld hx hb hX hbl hbA hI.2 g45 d_LW_law_302 ?_
                  refine gw_Vi C hI hl.1 (As := [.int (xs ((x3 + (1 : Int32)).toNatClampNeg)), .int (xs ((x3 + (2 : Int32)).toNatClampNeg)), .int (xs ((x3 + (3 : Int32)).toNatClampNeg))]) (rest := []) (c_BF_node hja h) kV_LW_36 lay_0 rfl rfl ⟨rfl, rfl⟩ ⟨Nat.le_of_ble_eq_true rfl, Nat.le_of_ble_eq_true rfl⟩ rfl (Nat.le_of_ble_eq_true rfl) ⟨hc1, hc2⟩ d_LW_law_303 (fun r46 M47 H locs h hI => ?_)
                  refine lv_aload_n hx hb d_LW_law_306 rfl (lv_at hl 2 rfl) ?_
                  refine lv_aload_n hx hb d_LW_law_307 rfl (lv_at hl 0 rfl) ?_
                  refine lv_iload_n hx hb d_LW_law_308 rfl (lv_at hl 3 rfl) ?_
                  refine lv_iconst (v := (1 : Int32)) hx hb d_LW_law_309 (by decide) ?_
                  refine lv_iadd hx hb d_LW_law_310 ?_
                  refine va_sld hx hb hX hbl hbA hI.2 g43 d_LW_law_311 ?_
                  refine lv_aload_n hx hb d_LW_law_312 rfl (lv_at hl 0 rfl) ?_
                  refine lv_iload_n hx hb d_LW_law_313 rfl (lv_at hl 3 rfl) ?_
                  refine lv_iconst (v := (2 : Int32)) hx hb d_LW_law_314 (by decide) ?_
                  refine lv_iadd hx hb d_LW_law_315 ?_
                  refine va_sld hx hb hX hbl hbA hI.2 g44 d_LW_law_316 ?_
                  refine lv_aload_n hx hb d_LW_law_317 rfl (lv_at hl 0 rfl) ?_
                  refine lv_iload_n hx hb d_LW_law_318 rfl (lv_at hl 3 rfl) ?_
                  refine lv_iconst (v := (3 : Int32)) hx hb d_LW_law_319 (by decide) ?_
                  refine lv_iadd hx hb d_LW_law_320 ?_
                  refine va_sld hx hb hX hbl hbA hI.2 g45 d_LW_law_321 ?_
                  refine gw_Vi C hI hl.1 (As := [.int (xs ((x3 + (1 : Int32)).toNatClampNeg)), .int (xs ((x3 + (2 : Int32)).toNatClampNeg)), .int (xs ((x3 + (3 : Int32)).toNatClampNeg))]) (rest := [.int r46]) (c_MD_node hja h) kV_LW_40 lay_273 rfl rfl ⟨rfl, rfl⟩ ⟨Nat.le_of_ble_eq_true rfl, Nat.le_of_ble_eq_true rfl⟩ rfl (Nat.le_of_ble_eq_true rfl) ⟨hc1, hc2⟩ d_LW_law_322 (fun r48 M49 H locs h hI => ?_)
                  refine lv_icmp_eq (tgt := 793) hx hb d_LW_law_325 (by decide) (fun c50 => ?_) (fun c50 => ?_)
                  · have h := h.1 c50
                    exact L_LW_law_793 C hX hbl hbA had hc1 hc2 hZ_LOWEST hT_LOWEST hZ_HIGHEST hT_HIGHEST hQ ih h hI (lv_sub hl [0, 1, 2, 3] rfl)
                  · have h := h.2 c50
                    refine lv_iconst (v := (0 : Int32)) hx hb d_LW_law_328 (by decide) ?_
                    exact lw_end C hc1 hc2 (hQ _ _ h) hI had d_LW_law_329
                · have h := h.2 c42
                  rcases Classical.em (((xs x3.toNatClampNeg) &&& (31 : Int32)) = 6) with c51 | c51
                  · have h := h.1 c51
                    refine lv_tableIn (tgt := 330) hx hb d_LW_law_33 (by rw [c51]; decide) (by rw [c51]; decide) (by rw [c51]; rfl) (by decide) ?_
                    refine lv_aload_n hx hb d_LW_law_330 rfl (lv_at hl 1 rfl) ?_
                    refine lv_aload_n hx hb d_LW_law_331 rfl (lv_at hl 0 rfl) ?_
                    refine lv_iload_n hx hb d_LW_law_332 rfl (lv_at hl 3 rfl) ?_
                    refine lv_iconst (v := (1 : Int32)) hx hb d_LW_law_333 (by decide) ?_
                    refine lv_iadd hx hb d_LW_law_334 ?_
                    obtain ⟨g52, h⟩ := h
                    refine va_sld hx hb hX hbl hbA hI.2 g52 d_LW_law_335 ?_
                    refine lv_aload_n hx hb d_LW_law_336 rfl (lv_at hl 0 rfl) ?_
                    refine lv_iload_n hx hb d_LW_law_337 rfl (lv_at hl 3 rfl) ?_
                    refine lv_iconst (v := (2 : Int32)) hx hb d_LW_law_338 (by decide) ?_
                    refine lv_iadd hx hb d_LW_law_339 ?_
                    obtain ⟨g53, h⟩ := h
                    refine va_sld hx hb hX hbl hbA hI.2 g53 d_LW_law_340 ?_
                    refine lv_aload_n hx hb d_LW_law_341 rfl (lv_at hl 0 rfl) ?_
                    refine lv_iload_n hx hb d_LW_law_342 rfl (lv_at hl 3 rfl) ?_
                    refine lv_iconst (v := (3 : Int32)) hx hb d_LW_law_343 (by decide) ?_
                    refine lv_iadd hx hb d_LW_law_344 ?_
                    obtain ⟨g54, h⟩ := h
                    refine va_sld hx hb hX hbl hbA hI.2 g54 d_LW_law_345 ?_
                    refine gw_Vl C hI hl.1 (As := [.int (xs ((x3 + (1 : Int32)).toNatClampNeg)), .int (xs ((x3 + (2 : Int32)).toNatClampNeg)), .int (xs ((x3 + (3 : Int32)).toNatClampNeg))]) (rest := []) (c_BF_sum hja h) kV_LW_41 lay_0 rfl rfl ⟨rfl, rfl⟩ ⟨Nat.le_of_ble_eq_true rfl, Nat.le_of_ble_eq_true rfl⟩ rfl (Nat.le_of_ble_eq_true rfl) ⟨hc1, hc2⟩ d_LW_law_346 (fun r55 M56 H locs h hI => ?_)
                    refine lv_aload_n hx hb d_LW_law_349 rfl (lv_at hl 2 rfl) ?_
                    refine lv_aload_n hx hb d_LW_law_350 rfl (lv_at hl 0 rfl) ?_
                    refine lv_iload_n hx hb d_LW_law_351 rfl (lv_at hl 3 rfl) ?_
                    refine lv_iconst (v := (1 : Int32)) hx hb d_LW_law_352 (by decide) ?_
                    refine lv_iadd hx hb d_LW_law_353 ?_
                    refine va_sld hx hb hX hbl hbA hI.2 g52 d_LW_law_354 ?_
                    refine lv_aload_n hx hb d_LW_law_355 rfl (lv_at hl 0 rfl) ?_
                    refine lv_iload_n hx hb d_LW_law_356 rfl (lv_at hl 3 rfl) ?_
                    refine lv_iconst (v := (2 : Int32)) hx hb d_LW_law_357 (by decide) ?_
                    refine lv_iadd hx hb d_LW_law_358 ?_
                    refine va_sld hx hb hX hbl hbA hI.2 g53 d_LW_law_359 ?_
                    refine lv_aload_n hx hb d_LW_law_360 rfl (lv_at hl 0 rfl) ?_
                    refine lv_iload_n hx hb d_LW_law_361 rfl (lv_at hl 3 rfl) ?_
                    refine lv_iconst (v := (3 : Int32)) hx hb d_LW_law_362 (by decide) ?_
                    refine lv_iadd hx hb d_LW_law_363 ?_
                    refine va_sld hx hb hX hbl hbA hI.2 g54 d_LW_law_364 ?_
                    refine gw_Vl C hI hl.1 (As := [.int (xs ((x3 + (1 : Int32)).toNatClampNeg)), .int (xs ((x3 + (2 : Int32)).toNatClampNeg)), .int (xs ((x3 + (3 : Int32)).toNatClampNeg))]) (rest := [.long r55]) (c_MD_sum hja h) kV_LW_45 lay_273 rfl rfl ⟨rfl, rfl⟩ ⟨Nat.le_of_ble_eq_true rfl, Nat.le_of_ble_eq_true rfl⟩ rfl (Nat.le_of_ble_eq_true rfl) ⟨hc1, hc2⟩ d_LW_law_365 (fun r57 M58 H locs h hI => ?_)
                    refine gl_eq (tgt := 793) C d_LW_law_368 d_LW_law_369 (by decide) (fun c59 => ?_) (fun c59 => ?_)
                    · have h := h.1 c59
                      exact L_LW_law_793 C hX hbl hbA had hc1 hc2 hZ_LOWEST hT_LOWEST hZ_HIGHEST hT_HIGHEST hQ ih h hI (lv_sub hl [0, 1, 2, 3] rfl)
                    · have h := h.2 c59
                      refine lv_iconst (v := (0 : Int32)) hx hb d_LW_law_372 (by decide) ?_
                      exact lw_end C hc1 hc2 (hQ _ _ h) hI had d_LW_law_373
                  · have h := h.2 c51
                    rcases Classical.em (((xs x3.toNatClampNeg) &&& (31 : Int32)) = 7) with c60 | c60
                    · have h := h.1 c60
                      refine lv_tableIn (tgt := 374) hx hb d_LW_law_33 (by rw [c60]; decide) (by rw [c60]; decide) (by rw [c60]; rfl) (by decide) ?_
                      refine lv_aload_n hx hb d_LW_law_374 rfl (lv_at hl 1 rfl) ?_
                      refine lv_aload_n hx hb d_LW_law_375 rfl (lv_at hl 0 rfl) ?_
                      refine lv_iload_n hx hb d_LW_law_376 rfl (lv_at hl 3 rfl) ?_
                      refine lv_iconst (v := (1 : Int32)) hx hb d_LW_law_377 (by decide) ?_
                      refine lv_iadd hx hb d_LW_law_378 ?_
                      obtain ⟨g61, h⟩ := h
                      refine va_sld hx hb hX hbl hbA hI.2 g61 d_LW_law_379 ?_
                      refine gw_Vi C hI hl.1 (As := [.int (xs ((x3 + (1 : Int32)).toNatClampNeg))]) (rest := []) (c_BF_size hja h) kV_LW_46 lay_0 rfl rfl ⟨rfl, rfl⟩ ⟨Nat.le_of_ble_eq_true rfl, Nat.le_of_ble_eq_true rfl⟩ rfl (Nat.le_of_ble_eq_true rfl) ⟨hc1, hc2⟩ d_LW_law_380 (fun r62 M63 H locs h hI => ?_)
                      refine lv_aload_n hx hb d_LW_law_383 rfl (lv_at hl 2 rfl) ?_
                      refine lv_aload_n hx hb d_LW_law_384 rfl (lv_at hl 0 rfl) ?_
                      refine lv_iload_n hx hb d_LW_law_385 rfl (lv_at hl 3 rfl) ?_
                      refine lv_iconst (v := (1 : Int32)) hx hb d_LW_law_386 (by decide) ?_
                      refine lv_iadd hx hb d_LW_law_387 ?_
                      refine va_sld hx hb hX hbl hbA hI.2 g61 d_LW_law_388 ?_
                      refine gw_Vi C hI hl.1 (As := [.int (xs ((x3 + (1 : Int32)).toNatClampNeg))]) (rest := [.int r62]) (c_MD_size hja h) kV_LW_50 lay_273 rfl rfl ⟨rfl, rfl⟩ ⟨Nat.le_of_ble_eq_true rfl, Nat.le_of_ble_eq_true rfl⟩ rfl (Nat.le_of_ble_eq_true rfl) ⟨hc1, hc2⟩ d_LW_law_389 (fun r64 M65 H locs h hI => ?_)
                      refine lv_icmp_eq (tgt := 793) hx hb d_LW_law_392 (by decide) (fun c66 => ?_) (fun c66 => ?_)
                      · have h := h.1 c66
                        exact L_LW_law_793 C hX hbl hbA had hc1 hc2 hZ_LOWEST hT_LOWEST hZ_HIGHEST hT_HIGHEST hQ ih h hI (lv_sub hl [0, 1, 2, 3] rfl)
                      · have h := h.2 c66
                        refine lv_iconst (v := (0 : Int32)) hx hb d_LW_law_395 (by decide) ?_
                        exact lw_end C hc1 hc2 (hQ _ _ h) hI had d_LW_law_396
                    · have h := h.2 c60
                      rcases Classical.em (((xs x3.toNatClampNeg) &&& (31 : Int32)) = 8) with c67 | c67
                      · have h := h.1 c67
                        refine lv_tableIn (tgt := 397) hx hb d_LW_law_33 (by rw [c67]; decide) (by rw [c67]; decide) (by rw [c67]; rfl) (by decide) ?_
                        refine lv_aload_n hx hb d_LW_law_397 rfl (lv_at hl 1 rfl) ?_
                        refine lv_aload_n hx hb d_LW_law_398 rfl (lv_at hl 0 rfl) ?_
                        refine lv_iload_n hx hb d_LW_law_399 rfl (lv_at hl 3 rfl) ?_
                        refine lv_iconst (v := (1 : Int32)) hx hb d_LW_law_400 (by decide) ?_
                        refine lv_iadd hx hb d_LW_law_401 ?_
                        obtain ⟨g68, h⟩ := h
                        refine va_sld hx hb hX hbl hbA hI.2 g68 d_LW_law_402 ?_
                        refine lv_aload_n hx hb d_LW_law_403 rfl (lv_at hl 0 rfl) ?_
                        refine lv_iload_n hx hb d_LW_law_404 rfl (lv_at hl 3 rfl) ?_
                        refine lv_iconst (v := (2 : Int32)) hx hb d_LW_law_405 (by decide) ?_
                        refine lv_iadd hx hb d_LW_law_406 ?_
                        obtain ⟨g69, h⟩ := h
                        refine va_sld hx hb hX hbl hbA hI.2 g69 d_LW_law_407 ?_
                        refine lv_aload_n hx hb d_LW_law_408 rfl (lv_at hl 0 rfl) ?_
                        refine lv_iload_n hx hb d_LW_law_409 rfl (lv_at hl 3 rfl) ?_
                        refine lv_iconst (v := (3 : Int32)) hx hb d_LW_law_410 (by decide) ?_
                        refine lv_iadd hx hb d_LW_law_411 ?_
                        obtain ⟨g70, h⟩ := h
                        refine va_sld hx hb hX hbl hbA hI.2 g70 d_LW_law_412 ?_
                        refine lv_aload_n hx hb d_LW_law_413 rfl (lv_at hl 0 rfl) ?_
                        refine lv_iload_n hx hb d_LW_law_414 rfl (lv_at hl 3 rfl) ?_
                        refine lv_iconst (v := (4 : Int32)) hx hb d_LW_law_415 (by decide) ?_
                        refine lv_iadd hx hb d_LW_law_416 ?_
                        obtain ⟨g71, h⟩ := h
                        refine va_sld hx hb hX hbl hbA hI.2 g71 d_LW_law_417 ?_
                        refine lv_aload_n hx hb d_LW_law_418 rfl (lv_at hl 0 rfl) ?_
                        refine lv_iload_n hx hb d_LW_law_419 rfl (lv_at hl 3 rfl) ?_
                        refine lv_iconst (v := (5 : Int32)) hx hb d_LW_law_420 (by decide) ?_
                        refine lv_iadd hx hb d_LW_law_421 ?_
                        obtain ⟨g72, h⟩ := h
                        refine va_sld hx hb hX hbl hbA hI.2 g72 d_LW_law_422 ?_
                        refine gw_Vi C hI hl.1 (As := [.int (xs ((x3 + (1 : Int32)).toNatClampNeg)), .int (xs ((x3 + (2 : Int32)).toNatClampNeg)), .int (xs ((x3 + (3 : Int32)).toNatClampNeg)), .int (xs ((x3 + (4 : Int32)).toNatClampNeg)), .int (xs ((x3 + (5 : Int32)).toNatClampNeg))]) (rest := []) (c_BF_leaf hja h) kV_LW_51 lay_0 rfl rfl ⟨rfl, rfl⟩ ⟨Nat.le_of_ble_eq_true rfl, Nat.le_of_ble_eq_true rfl⟩ rfl (Nat.le_of_ble_eq_true rfl) ⟨hc1, hc2⟩ d_LW_law_423 (fun r73 M74 H locs h hI => ?_)
                        refine lv_aload_n hx hb d_LW_law_426 rfl (lv_at hl 2 rfl) ?_
                        refine lv_aload_n hx hb d_LW_law_427 rfl (lv_at hl 0 rfl) ?_
                        refine lv_iload_n hx hb d_LW_law_428 rfl (lv_at hl 3 rfl) ?_
                        refine lv_iconst (v := (1 : Int32)) hx hb d_LW_law_429 (by decide) ?_
                        refine lv_iadd hx hb d_LW_law_430 ?_
                        refine va_sld hx hb hX hbl hbA hI.2 g68 d_LW_law_431 ?_
                        refine lv_aload_n hx hb d_LW_law_432 rfl (lv_at hl 0 rfl) ?_
                        refine lv_iload_n hx hb d_LW_law_433 rfl (lv_at hl 3 rfl) ?_
                        refine lv_iconst (v := (2 : Int32)) hx hb d_LW_law_434 (by decide) ?_
                        refine lv_iadd hx hb d_LW_law_435 ?_
                        refine va_sld hx hb hX hbl hbA hI.2 g69 d_LW_law_436 ?_
                        refine lv_aload_n hx hb d_LW_law_437 rfl (lv_at hl 0 rfl) ?_
                        refine lv_iload_n hx hb d_LW_law_438 rfl (lv_at hl 3 rfl) ?_
                        refine lv_iconst (v := (3 : Int32)) hx hb d_LW_law_439 (by decide) ?_
                        refine lv_iadd hx hb d_LW_law_440 ?_
                        refine va_sld hx hb hX hbl hbA hI.2 g70 d_LW_law_441 ?_
                        refine lv_aload_n hx hb d_LW_law_442 rfl (lv_at hl 0 rfl) ?_
                        refine lv_iload_n hx hb d_LW_law_443 rfl (lv_at hl 3 rfl) ?_
                        refine lv_iconst (v := (4 : Int32)) hx hb d_LW_law_444 (by decide) ?_
                        refine lv_iadd hx hb d_LW_law_445 ?_
                        refine va_sld hx hb hX hbl hbA hI.2 g71 d_LW_law_446 ?_
                        refine lv_aload_n hx hb d_LW_law_447 rfl (lv_at hl 0 rfl) ?_
                        refine lv_iload_n hx hb d_LW_law_448 rfl (lv_at hl 3 rfl) ?_
                        refine lv_iconst (v := (5 : Int32)) hx hb d_LW_law_449 (by decide) ?_
                        refine lv_iadd hx hb d_LW_law_450 ?_
                        refine va_sld hx hb hX hbl hbA hI.2 g72 d_LW_law_451 ?_
                        refine gw_Vi C hI hl.1 (As := [.int (xs ((x3 + (1 : Int32)).toNatClampNeg)), .int (xs ((x3 + (2 : Int32)).toNatClampNeg)), .int (xs ((x3 + (3 : Int32)).toNatClampNeg)), .int (xs ((x3 + (4 : Int32)).toNatClampNeg)), .int (xs ((x3 + (5 : Int32)).toNatClampNeg))]) (rest := [.int r73]) (c_MD_leaf hja h) kV_LW_55 lay_273 rfl rfl ⟨rfl, rfl⟩ ⟨Nat.le_of_ble_eq_true rfl, Nat.le_of_ble_eq_true rfl⟩ rfl (Nat.le_of_ble_eq_true rfl) ⟨hc1, hc2⟩ d_LW_law_452 (fun r75 M76 H locs h hI => ?_)
                        refine lv_icmp_eq (tgt := 793) hx hb d_LW_law_455 (by decide) (fun c77 => ?_) (fun c77 => ?_)
                        · have h := h.1 c77
                          exact L_LW_law_793 C hX hbl hbA had hc1 hc2 hZ_LOWEST hT_LOWEST hZ_HIGHEST hT_HIGHEST hQ ih h hI (lv_sub hl [0, 1, 2, 3] rfl)
                        · have h := h.2 c77
                          refine lv_iconst (v := (0 : Int32)) hx hb d_LW_law_458 (by decide) ?_
                          exact lw_end C hc1 hc2 (hQ _ _ h) hI had d_LW_law_459
                      · have h := h.2 c67
                        rcases Classical.em (((xs x3.toNatClampNeg) &&& (31 : Int32)) = 9) with c78 | c78
                        · have h := h.1 c78
                          refine lv_tableIn (tgt := 460) hx hb d_LW_law_33 (by rw [c78]; decide) (by rw [c78]; decide) (by rw [c78]; rfl) (by decide) ?_
                          refine lv_aload_n hx hb d_LW_law_460 rfl (lv_at hl 1 rfl) ?_
                          refine lv_aload_n hx hb d_LW_law_461 rfl (lv_at hl 0 rfl) ?_
                          refine lv_iload_n hx hb d_LW_law_462 rfl (lv_at hl 3 rfl) ?_
                          refine lv_iconst (v := (1 : Int32)) hx hb d_LW_law_463 (by decide) ?_
                          refine lv_iadd hx hb d_LW_law_464 ?_
                          obtain ⟨g79, h⟩ := h
                          refine va_sld hx hb hX hbl hbA hI.2 g79 d_LW_law_465 ?_
                          refine lv_aload_n hx hb d_LW_law_466 rfl (lv_at hl 0 rfl) ?_
                          refine lv_iload_n hx hb d_LW_law_467 rfl (lv_at hl 3 rfl) ?_
                          refine lv_iconst (v := (2 : Int32)) hx hb d_LW_law_468 (by decide) ?_
                          refine lv_iadd hx hb d_LW_law_469 ?_
                          obtain ⟨g80, h⟩ := h
                          refine va_sld hx hb hX hbl hbA hI.2 g80 d_LW_law_470 ?_
                          refine lv_aload_n hx hb d_LW_law_471 rfl (lv_at hl 0 rfl) ?_
                          refine lv_iload_n hx hb d_LW_law_472 rfl (lv_at hl 3 rfl) ?_
                          refine lv_iconst (v := (3 : Int32)) hx hb d_LW_law_473 (by decide) ?_
                          refine lv_iadd hx hb d_LW_law_474 ?_
                          obtain ⟨g81, h⟩ := h
                          refine va_sld hx hb hX hbl hbA hI.2 g81 d_LW_law_475 ?_
                          refine lv_aload_n hx hb d_LW_law_476 rfl (lv_at hl 0 rfl) ?_
                          refine lv_iload_n hx hb d_LW_law_477 rfl (lv_at hl 3 rfl) ?_
                          refine lv_iconst (v := (4 : Int32)) hx hb d_LW_law_478 (by decide) ?_
                          refine lv_iadd hx hb d_LW_law_479 ?_
                          obtain ⟨g82, h⟩ := h
                          refine va_sld hx hb hX hbl hbA hI.2 g82 d_LW_law_480 ?_
                          refine lv_aload_n hx hb d_LW_law_481 rfl (lv_at hl 0 rfl) ?_
                          refine lv_iload_n hx hb d_LW_law_482 rfl (lv_at hl 3 rfl) ?_
                          refine lv_iconst (v := (5 : Int32)) hx hb d_LW_law_483 (by decide) ?_
                          refine lv_iadd hx hb d_LW_law_484 ?_
                          obtain ⟨g83, h⟩ := h
                          refine va_sld hx hb hX hbl hbA hI.2 g83 d_LW_law_485 ?_
                          refine gw_Vl C hI hl.1 (As := [.int (xs ((x3 + (1 : Int32)).toNatClampNeg)), .int (xs ((x3 + (2 : Int32)).toNatClampNeg)), .int (xs ((x3 + (3 : Int32)).toNatClampNeg)), .int (xs ((x3 + (4 : Int32)).toNatClampNeg)), .int (xs ((x3 + (5 : Int32)).toNatClampNeg))]) (rest := []) (c_BF_answer hja h) kV_LW_56 lay_0 rfl rfl ⟨rfl, rfl⟩ ⟨Nat.le_of_ble_eq_true rfl, Nat.le_of_ble_eq_true rfl⟩ rfl (Nat.le_of_ble_eq_true rfl) ⟨hc1, hc2⟩ d_LW_law_486 (fun r84 M85 H locs h hI => ?_)
                          refine lv_aload_n hx hb d_LW_law_489 rfl (lv_at hl 2 rfl) ?_
                          refine lv_aload_n hx hb d_LW_law_490 rfl (lv_at hl 0 rfl) ?_
                          refine lv_iload_n hx hb d_LW_law_491 rfl (lv_at hl 3 rfl) ?_
                          refine lv_iconst (v := (1 : Int32)) hx hb d_LW_law_492 (by decide) ?_
                          refine lv_iadd hx hb d_LW_law_493 ?_
                          refine va_sld hx hb hX hbl hbA hI.2 g79 d_LW_law_494 ?_
                          refine lv_aload_n hx hb d_LW_law_495 rfl (lv_at hl 0 rfl) ?_
                          refine lv_iload_n hx hb d_LW_law_496 rfl (lv_at hl 3 rfl) ?_
                          refine lv_iconst (v := (2 : Int32)) hx hb d_LW_law_497 (by decide) ?_
                          refine lv_iadd hx hb d_LW_law_498 ?_
                          refine va_sld hx hb hX hbl hbA hI.2 g80 d_LW_law_499 ?_
                          refine lv_aload_n hx hb d_LW_law_500 rfl (lv_at hl 0 rfl) ?_
                          refine lv_iload_n hx hb d_LW_law_501 rfl (lv_at hl 3 rfl) ?_
                          refine lv_iconst (v := (3 : Int32)) hx hb d_LW_law_502 (by decide) ?_
                          refine lv_iadd hx hb d_LW_law_503 ?_
                          refine va_sld hx hb hX hbl hbA hI.2 g81 d_LW_law_504 ?_
                          refine lv_aload_n hx hb d_LW_law_505 rfl (lv_at hl 0 rfl) ?_
                          refine lv_iload_n hx hb d_LW_law_506 rfl (lv_at hl 3 rfl) ?_
                          refine lv_iconst (v := (4 : Int32)) hx hb d_LW_law_507 (by decide) ?_
                          refine lv_iadd hx hb d_LW_law_508 ?_
                          refine va_sld hx hb hX hbl hbA hI.2 g82 d_LW_law_509 ?_
                          refine lv_aload_n hx hb d_LW_law_510 rfl (lv_at hl 0 rfl) ?_
                          refine lv_iload_n hx hb d_LW_law_511 rfl (lv_at hl 3 rfl) ?_
                          refine lv_iconst (v := (5 : Int32)) hx hb d_LW_law_512 (by decide) ?_
                          refine lv_iadd hx hb d_LW_law_513 ?_
                          refine va_sld hx hb hX hbl hbA hI.2 g83 d_LW_law_514 ?_
                          refine gw_Vl C hI hl.1 (As := [.int (xs ((x3 + (1 : Int32)).toNatClampNeg)), .int (xs ((x3 + (2 : Int32)).toNatClampNeg)), .int (xs ((x3 + (3 : Int32)).toNatClampNeg)), .int (xs ((x3 + (4 : Int32)).toNatClampNeg)), .int (xs ((x3 + (5 : Int32)).toNatClampNeg))]) (rest := [.long r84]) (c_MD_answer hja h) kV_LW_60 lay_273 rfl rfl ⟨rfl, rfl⟩ ⟨Nat.le_of_ble_eq_true rfl, Nat.le_of_ble_eq_true rfl⟩ rfl (Nat.le_of_ble_eq_true rfl) ⟨hc1, hc2⟩ d_LW_law_515 (fun r86 M87 H locs h hI => ?_)
                          refine gl_eq (tgt := 793) C d_LW_law_518 d_LW_law_519 (by decide) (fun c88 => ?_) (fun c88 => ?_)
                          · have h := h.1 c88
                            exact L_LW_law_793 C hX hbl hbA had hc1 hc2 hZ_LOWEST hT_LOWEST hZ_HIGHEST hT_HIGHEST hQ ih h hI (lv_sub hl [0, 1, 2, 3] rfl)
                          · have h := h.2 c88
                            refine lv_iconst (v := (0 : Int32)) hx hb d_LW_law_522 (by decide) ?_
                            exact lw_end C hc1 hc2 (hQ _ _ h) hI had d_LW_law_523
                        · have h := h.2 c78
                          rcases Classical.em (((xs x3.toNatClampNeg) &&& (31 : Int32)) = 10) with c89 | c89
                          · have h := h.1 c89
                            refine lv_tableIn (tgt := 524) hx hb d_LW_law_33 (by rw [c89]; decide) (by rw [c89]; decide) (by rw [c89]; rfl) (by decide) ?_
                            refine lv_aload_n hx hb d_LW_law_524 rfl (lv_at hl 1 rfl) ?_
                            refine lv_aload_n hx hb d_LW_law_525 rfl (lv_at hl 0 rfl) ?_
                            refine lv_iload_n hx hb d_LW_law_526 rfl (lv_at hl 3 rfl) ?_
                            refine lv_iconst (v := (1 : Int32)) hx hb d_LW_law_527 (by decide) ?_
                            refine lv_iadd hx hb d_LW_law_528 ?_
                            obtain ⟨g90, h⟩ := h
                            refine va_sld hx hb hX hbl hbA hI.2 g90 d_LW_law_529 ?_
                            refine lv_aload_n hx hb d_LW_law_530 rfl (lv_at hl 0 rfl) ?_
                            refine lv_iload_n hx hb d_LW_law_531 rfl (lv_at hl 3 rfl) ?_
                            refine lv_iconst (v := (2 : Int32)) hx hb d_LW_law_532 (by decide) ?_
                            refine lv_iadd hx hb d_LW_law_533 ?_
                            obtain ⟨g91, h⟩ := h
                            refine va_sld hx hb hX hbl hbA hI.2 g91 d_LW_law_534 ?_
                            refine gw_Vl C hI hl.1 (As := [.int (xs ((x3 + (1 : Int32)).toNatClampNeg)), .int (xs ((x3 + (2 : Int32)).toNatClampNeg))]) (rest := []) (c_BF_loss hja h) kV_LW_61 lay_0 rfl rfl ⟨rfl, rfl⟩ ⟨Nat.le_of_ble_eq_true rfl, Nat.le_of_ble_eq_true rfl⟩ rfl (Nat.le_of_ble_eq_true rfl) ⟨hc1, hc2⟩ d_LW_law_535 (fun r92 M93 H locs h hI => ?_)
                            refine lv_aload_n hx hb d_LW_law_538 rfl (lv_at hl 2 rfl) ?_
                            refine lv_aload_n hx hb d_LW_law_539 rfl (lv_at hl 0 rfl) ?_
                            refine lv_iload_n hx hb d_LW_law_540 rfl (lv_at hl 3 rfl) ?_
                            refine lv_iconst (v := (1 : Int32)) hx hb d_LW_law_541 (by decide) ?_
                            refine lv_iadd hx hb d_LW_law_542 ?_
                            refine va_sld hx hb hX hbl hbA hI.2 g90 d_LW_law_543 ?_
                            refine lv_aload_n hx hb d_LW_law_544 rfl (lv_at hl 0 rfl) ?_
                            refine lv_iload_n hx hb d_LW_law_545 rfl (lv_at hl 3 rfl) ?_
                            refine lv_iconst (v := (2 : Int32)) hx hb d_LW_law_546 (by decide) ?_
                            refine lv_iadd hx hb d_LW_law_547 ?_
                            refine va_sld hx hb hX hbl hbA hI.2 g91 d_LW_law_548 ?_
                            refine gw_Vl C hI hl.1 (As := [.int (xs ((x3 + (1 : Int32)).toNatClampNeg)), .int (xs ((x3 + (2 : Int32)).toNatClampNeg))]) (rest := [.long r92]) (c_MD_loss hja h) kV_LW_65 lay_273 rfl rfl ⟨rfl, rfl⟩ ⟨Nat.le_of_ble_eq_true rfl, Nat.le_of_ble_eq_true rfl⟩ rfl (Nat.le_of_ble_eq_true rfl) ⟨hc1, hc2⟩ d_LW_law_549 (fun r94 M95 H locs h hI => ?_)
                            refine gl_eq (tgt := 793) C d_LW_law_552 d_LW_law_553 (by decide) (fun c96 => ?_) (fun c96 => ?_)
                            · have h := h.1 c96
                              exact L_LW_law_793 C hX hbl hbA had hc1 hc2 hZ_LOWEST hT_LOWEST hZ_HIGHEST hT_HIGHEST hQ ih h hI (lv_sub hl [0, 1, 2, 3] rfl)
                            · have h := h.2 c96
                              refine lv_iconst (v := (0 : Int32)) hx hb d_LW_law_556 (by decide) ?_
                              exact lw_end C hc1 hc2 (hQ _ _ h) hI had d_LW_law_557
                          · have h := h.2 c89
                            rcases Classical.em (((xs x3.toNatClampNeg) &&& (31 : Int32)) = 11) with c97 | c97
                            · have h := h.1 c97
                              refine lv_tableIn (tgt := 558) hx hb d_LW_law_33 (by rw [c97]; decide) (by rw [c97]; decide) (by rw [c97]; rfl) (by decide) ?_
                              refine lv_aload_n hx hb d_LW_law_558 rfl (lv_at hl 1 rfl) ?_
                              refine gw_Vi C hI hl.1 (As := []) (rest := []) (c_BF_best hja h) kV_LW_66 lay_0 rfl rfl ⟨rfl, rfl⟩ ⟨Nat.le_of_ble_eq_true rfl, Nat.le_of_ble_eq_true rfl⟩ rfl (Nat.le_of_ble_eq_true rfl) ⟨hc1, hc2⟩ d_LW_law_559 (fun r98 M99 H locs h hI => ?_)
                              refine lv_aload_n hx hb d_LW_law_562 rfl (lv_at hl 2 rfl) ?_
                              refine gw_Vi C hI hl.1 (As := []) (rest := [.int r98]) (c_MD_best hja h) kV_LW_69 lay_273 rfl rfl ⟨rfl, rfl⟩ ⟨Nat.le_of_ble_eq_true rfl, Nat.le_of_ble_eq_true rfl⟩ rfl (Nat.le_of_ble_eq_true rfl) ⟨hc1, hc2⟩ d_LW_law_563 (fun r100 M101 H locs h hI => ?_)
                              refine lv_icmp_eq (tgt := 793) hx hb d_LW_law_566 (by decide) (fun c102 => ?_) (fun c102 => ?_)
                              · have h := h.1 c102
                                exact L_LW_law_793 C hX hbl hbA had hc1 hc2 hZ_LOWEST hT_LOWEST hZ_HIGHEST hT_HIGHEST hQ ih h hI (lv_sub hl [0, 1, 2, 3] rfl)
                              · have h := h.2 c102
                                refine lv_iconst (v := (0 : Int32)) hx hb d_LW_law_569 (by decide) ?_
                                exact lw_end C hc1 hc2 (hQ _ _ h) hI had d_LW_law_570
                            · have h := h.2 c97
                              rcases Classical.em (((xs x3.toNatClampNeg) &&& (31 : Int32)) = 12) with c103 | c103
                              · have h := h.1 c103
                                refine lv_tableIn (tgt := 571) hx hb d_LW_law_33 (by rw [c103]; decide) (by rw [c103]; decide) (by rw [c103]; rfl) (by decide) ?_
                                refine lv_aload_n hx hb d_LW_law_571 rfl (lv_at hl 1 rfl) ?_
                                refine lv_aload_n hx hb d_LW_law_572 rfl (lv_at hl 0 rfl) ?_
                                refine lv_iload_n hx hb d_LW_law_573 rfl (lv_at hl 3 rfl) ?_
                                refine lv_iconst (v := (1 : Int32)) hx hb d_LW_law_574 (by decide) ?_
                                refine lv_iadd hx hb d_LW_law_575 ?_
                                obtain ⟨g104, h⟩ := h
                                refine va_sld hx hb hX hbl hbA hI.2 g104 d_LW_law_576 ?_
                                refine gw_Vl C hI hl.1 (As := [.int (xs ((x3 + (1 : Int32)).toNatClampNeg))]) (rest := []) (c_BF_without hja h) kV_LW_70 lay_0 rfl rfl ⟨rfl, rfl⟩ ⟨Nat.le_of_ble_eq_true rfl, Nat.le_of_ble_eq_true rfl⟩ rfl (Nat.le_of_ble_eq_true rfl) ⟨hc1, hc2⟩ d_LW_law_577 (fun r105 M106 H locs h hI => ?_)
                                refine lv_aload_n hx hb d_LW_law_580 rfl (lv_at hl 2 rfl) ?_
                                refine lv_aload_n hx hb d_LW_law_581 rfl (lv_at hl 0 rfl) ?_
                                refine lv_iload_n hx hb d_LW_law_582 rfl (lv_at hl 3 rfl) ?_
                                refine lv_iconst (v := (1 : Int32)) hx hb d_LW_law_583 (by decide) ?_
                                refine lv_iadd hx hb d_LW_law_584 ?_
                                refine va_sld hx hb hX hbl hbA hI.2 g104 d_LW_law_585 ?_
                                refine gw_Vl C hI hl.1 (As := [.int (xs ((x3 + (1 : Int32)).toNatClampNeg))]) (rest := [.long r105]) (c_MD_without hja h) kV_LW_74 lay_273 rfl rfl ⟨rfl, rfl⟩ ⟨Nat.le_of_ble_eq_true rfl, Nat.le_of_ble_eq_true rfl⟩ rfl (Nat.le_of_ble_eq_true rfl) ⟨hc1, hc2⟩ d_LW_law_586 (fun r107 M108 H locs h hI => ?_)
                                refine gl_eq (tgt := 793) C d_LW_law_589 d_LW_law_590 (by decide) (fun c109 => ?_) (fun c109 => ?_)
                                · have h := h.1 c109
                                  exact L_LW_law_793 C hX hbl hbA had hc1 hc2 hZ_LOWEST hT_LOWEST hZ_HIGHEST hT_HIGHEST hQ ih h hI (lv_sub hl [0, 1, 2, 3] rfl)
                                · have h := h.2 c109
                                  refine lv_iconst (v := (0 : Int32)) hx hb d_LW_law_593 (by decide) ?_
                                  exact lw_end C hc1 hc2 (hQ _ _ h) hI had d_LW_law_594
                              · have h := h.2 c103
                                rcases Classical.em (((xs x3.toNatClampNeg) &&& (31 : Int32)) = 13) with c110 | c110
                                · have h := h.1 c110
                                  refine lv_tableIn (tgt := 595) hx hb d_LW_law_33 (by rw [c110]; decide) (by rw [c110]; decide) (by rw [c110]; rfl) (by decide) ?_
                                  refine lv_aload_n hx hb d_LW_law_595 rfl (lv_at hl 1 rfl) ?_
                                  refine lv_aload_n hx hb d_LW_law_596 rfl (lv_at hl 0 rfl) ?_
                                  refine lv_iload_n hx hb d_LW_law_597 rfl (lv_at hl 3 rfl) ?_
                                  refine lv_iconst (v := (1 : Int32)) hx hb d_LW_law_598 (by decide) ?_
                                  refine lv_iadd hx hb d_LW_law_599 ?_
                                  obtain ⟨g111, h⟩ := h
                                  refine va_sld hx hb hX hbl hbA hI.2 g111 d_LW_law_600 ?_
                                  refine gw_Vi C hI hl.1 (As := [.int (xs ((x3 + (1 : Int32)).toNatClampNeg))]) (rest := []) (c_BF_took hja h) kV_LW_75 lay_0 rfl rfl ⟨rfl, rfl⟩ ⟨Nat.le_of_ble_eq_true rfl, Nat.le_of_ble_eq_true rfl⟩ rfl (Nat.le_of_ble_eq_true rfl) ⟨hc1, hc2⟩ d_LW_law_601 (fun r112 M113 H locs h hI => ?_)
                                  refine lv_aload_n hx hb d_LW_law_604 rfl (lv_at hl 2 rfl) ?_
                                  refine lv_aload_n hx hb d_LW_law_605 rfl (lv_at hl 0 rfl) ?_
                                  refine lv_iload_n hx hb d_LW_law_606 rfl (lv_at hl 3 rfl) ?_
                                  refine lv_iconst (v := (1 : Int32)) hx hb d_LW_law_607 (by decide) ?_
                                  refine lv_iadd hx hb d_LW_law_608 ?_
                                  refine va_sld hx hb hX hbl hbA hI.2 g111 d_LW_law_609 ?_
                                  refine gw_Vi C hI hl.1 (As := [.int (xs ((x3 + (1 : Int32)).toNatClampNeg))]) (rest := [.int r112]) (c_MD_took hja h) kV_LW_78 lay_273 rfl rfl ⟨rfl, rfl⟩ ⟨Nat.le_of_ble_eq_true rfl, Nat.le_of_ble_eq_true rfl⟩ rfl (Nat.le_of_ble_eq_true rfl) ⟨hc1, hc2⟩ d_LW_law_610 (fun r114 M115 H locs h hI => ?_)
                                  refine lv_icmp_eq (tgt := 793) hx hb d_LW_law_613 (by decide) (fun c116 => ?_) (fun c116 => ?_)
                                  · have h := h.1 c116
                                    exact L_LW_law_793 C hX hbl hbA had hc1 hc2 hZ_LOWEST hT_LOWEST hZ_HIGHEST hT_HIGHEST hQ ih h hI (lv_sub hl [0, 1, 2, 3] rfl)
                                  · have h := h.2 c116
                                    refine lv_iconst (v := (0 : Int32)) hx hb d_LW_law_616 (by decide) ?_
                                    exact lw_end C hc1 hc2 (hQ _ _ h) hI had d_LW_law_617
                                · have h := h.2 c110
                                  rcases Classical.em (((xs x3.toNatClampNeg) &&& (31 : Int32)) = 14) with c117 | c117
                                  · have h := h.1 c117
                                    refine lv_tableIn (tgt := 618) hx hb d_LW_law_33 (by rw [c117]; decide) (by rw [c117]; decide) (by rw [c117]; rfl) (by decide) ?_
                                    refine lv_aload_n hx hb d_LW_law_618 rfl (lv_at hl 1 rfl) ?_
                                    refine lv_aload_n hx hb d_LW_law_619 rfl (lv_at hl 0 rfl) ?_
                                    refine lv_iload_n hx hb d_LW_law_620 rfl (lv_at hl 3 rfl) ?_
                                    refine lv_iconst (v := (1 : Int32)) hx hb d_LW_law_621 (by decide) ?_
                                    refine lv_iadd hx hb d_LW_law_622 ?_
                                    obtain ⟨g118, h⟩ := h
                                    refine va_sld hx hb hX hbl hbA hI.2 g118 d_LW_law_623 ?_
                                    refine gw_Vl C hI hl.1 (As := [.int (xs ((x3 + (1 : Int32)).toNatClampNeg))]) (rest := []) (c_BF_gain hja h) kV_LW_79 lay_0 rfl rfl ⟨rfl, rfl⟩ ⟨Nat.le_of_ble_eq_true rfl, Nat.le_of_ble_eq_true rfl⟩ rfl (Nat.le_of_ble_eq_true rfl) ⟨hc1, hc2⟩ d_LW_law_624 (fun r119 M120 H locs h hI => ?_)
                                    refine lv_aload_n hx hb d_LW_law_627 rfl (lv_at hl 2 rfl) ?_
                                    refine lv_aload_n hx hb d_LW_law_628 rfl (lv_at hl 0 rfl) ?_
                                    refine lv_iload_n hx hb d_LW_law_629 rfl (lv_at hl 3 rfl) ?_
                                    refine lv_iconst (v := (1 : Int32)) hx hb d_LW_law_630 (by decide) ?_
                                    refine lv_iadd hx hb d_LW_law_631 ?_
                                    refine va_sld hx hb hX hbl hbA hI.2 g118 d_LW_law_632 ?_
                                    refine gw_Vl C hI hl.1 (As := [.int (xs ((x3 + (1 : Int32)).toNatClampNeg))]) (rest := [.long r119]) (c_MD_gain hja h) kV_LW_82 lay_273 rfl rfl ⟨rfl, rfl⟩ ⟨Nat.le_of_ble_eq_true rfl, Nat.le_of_ble_eq_true rfl⟩ rfl (Nat.le_of_ble_eq_true rfl) ⟨hc1, hc2⟩ d_LW_law_633 (fun r121 M122 H locs h hI => ?_)
                                    refine gl_eq (tgt := 793) C d_LW_law_636 d_LW_law_637 (by decide) (fun c123 => ?_) (fun c123 => ?_)
                                    · have h := h.1 c123
                                      exact L_LW_law_793 C hX hbl hbA had hc1 hc2 hZ_LOWEST hT_LOWEST hZ_HIGHEST hT_HIGHEST hQ ih h hI (lv_sub hl [0, 1, 2, 3] rfl)
                                    · have h := h.2 c123
                                      refine lv_iconst (v := (0 : Int32)) hx hb d_LW_law_640 (by decide) ?_
                                      exact lw_end C hc1 hc2 (hQ _ _ h) hI had d_LW_law_641
                                  · have h := h.2 c117
                                    rcases Classical.em (((xs x3.toNatClampNeg) &&& (31 : Int32)) = 15) with c124 | c124
                                    · have h := h.1 c124
                                      refine lv_tableIn (tgt := 642) hx hb d_LW_law_33 (by rw [c124]; decide) (by rw [c124]; decide) (by rw [c124]; rfl) (by decide) ?_
                                      refine lv_aload_n hx hb d_LW_law_642 rfl (lv_at hl 1 rfl) ?_
                                      refine lv_aload_n hx hb d_LW_law_643 rfl (lv_at hl 0 rfl) ?_
                                      refine lv_iload_n hx hb d_LW_law_644 rfl (lv_at hl 3 rfl) ?_
                                      refine lv_iconst (v := (1 : Int32)) hx hb d_LW_law_645 (by decide) ?_
                                      refine lv_iadd hx hb d_LW_law_646 ?_
                                      obtain ⟨g125, h⟩ := h
                                      refine va_sld hx hb hX hbl hbA hI.2 g125 d_LW_law_647 ?_
                                      refine lv_aload_n hx hb d_LW_law_648 rfl (lv_at hl 0 rfl) ?_
                                      refine lv_iload_n hx hb d_LW_law_649 rfl (lv_at hl 3 rfl) ?_
                                      refine lv_iconst (v := (2 : Int32)) hx hb d_LW_law_650 (by decide) ?_
                                      refine lv_iadd hx hb d_LW_law_651 ?_
                                      obtain ⟨g126, h⟩ := h
                                      refine va_sld hx hb hX hbl hbA hI.2 g126 d_LW_law_652 ?_
                                      refine lv_aload_n hx hb d_LW_law_653 rfl (lv_at hl 0 rfl) ?_
                                      refine lv_iload_n hx hb d_LW_law_654 rfl (lv_at hl 3 rfl) ?_
                                      refine lv_iconst (v := (3 : Int32)) hx hb d_LW_law_655 (by decide) ?_
                                      refine lv_iadd hx hb d_LW_law_656 ?_
                                      obtain ⟨g127, h⟩ := h
                                      refine va_sld hx hb hX hbl hbA hI.2 g127 d_LW_law_657 ?_
                                      refine lv_aload_n hx hb d_LW_law_658 rfl (lv_at hl 0 rfl) ?_
                                      refine lv_iload_n hx hb d_LW_law_659 rfl (lv_at hl 3 rfl) ?_
                                      refine lv_iconst (v := (4 : Int32)) hx hb d_LW_law_660 (by decide) ?_
                                      refine lv_iadd hx hb d_LW_law_661 ?_
                                      obtain ⟨g128, h⟩ := h
                                      refine va_sld hx hb hX hbl hbA hI.2 g128 d_LW_law_662 ?_
                                      refine lv_aload_n hx hb d_LW_law_663 rfl (lv_at hl 0 rfl) ?_
                                      refine lv_iload_n hx hb d_LW_law_664 rfl (lv_at hl 3 rfl) ?_
                                      refine lv_iconst (v := (5 : Int32)) hx hb d_LW_law_665 (by decide) ?_
                                      refine lv_iadd hx hb d_LW_law_666 ?_
                                      obtain ⟨g129, h⟩ := h
                                      refine va_sld hx hb hX hbl hbA hI.2 g129 d_LW_law_667 ?_
                                      refine gw_Vl C hI hl.1 (As := [.int (xs ((x3 + (1 : Int32)).toNatClampNeg)), .int (xs ((x3 + (2 : Int32)).toNatClampNeg)), .int (xs ((x3 + (3 : Int32)).toNatClampNeg)), .int (xs ((x3 + (4 : Int32)).toNatClampNeg)), .int (xs ((x3 + (5 : Int32)).toNatClampNeg))]) (rest := []) (c_BF_told hja h) kV_LW_83 lay_0 rfl rfl ⟨rfl, rfl⟩ ⟨Nat.le_of_ble_eq_true rfl, Nat.le_of_ble_eq_true rfl⟩ rfl (Nat.le_of_ble_eq_true rfl) ⟨hc1, hc2⟩ d_LW_law_668 (fun r130 M131 H locs h hI => ?_)
                                      refine lv_aload_n hx hb d_LW_law_671 rfl (lv_at hl 2 rfl) ?_
                                      refine lv_aload_n hx hb d_LW_law_672 rfl (lv_at hl 0 rfl) ?_
                                      refine lv_iload_n hx hb d_LW_law_673 rfl (lv_at hl 3 rfl) ?_
                                      refine lv_iconst (v := (1 : Int32)) hx hb d_LW_law_674 (by decide) ?_
                                      refine lv_iadd hx hb d_LW_law_675 ?_
                                      refine va_sld hx hb hX hbl hbA hI.2 g125 d_LW_law_676 ?_
                                      refine lv_aload_n hx hb d_LW_law_677 rfl (lv_at hl 0 rfl) ?_
                                      refine lv_iload_n hx hb d_LW_law_678 rfl (lv_at hl 3 rfl) ?_
                                      refine lv_iconst (v := (2 : Int32)) hx hb d_LW_law_679 (by decide) ?_
                                      refine lv_iadd hx hb d_LW_law_680 ?_
                                      refine va_sld hx hb hX hbl hbA hI.2 g126 d_LW_law_681 ?_
                                      refine lv_aload_n hx hb d_LW_law_682 rfl (lv_at hl 0 rfl) ?_
                                      refine lv_iload_n hx hb d_LW_law_683 rfl (lv_at hl 3 rfl) ?_
                                      refine lv_iconst (v := (3 : Int32)) hx hb d_LW_law_684 (by decide) ?_
                                      refine lv_iadd hx hb d_LW_law_685 ?_
                                      refine va_sld hx hb hX hbl hbA hI.2 g127 d_LW_law_686 ?_
                                      refine lv_aload_n hx hb d_LW_law_687 rfl (lv_at hl 0 rfl) ?_
                                      refine lv_iload_n hx hb d_LW_law_688 rfl (lv_at hl 3 rfl) ?_
                                      refine lv_iconst (v := (4 : Int32)) hx hb d_LW_law_689 (by decide) ?_
                                      refine lv_iadd hx hb d_LW_law_690 ?_
                                      refine va_sld hx hb hX hbl hbA hI.2 g128 d_LW_law_691 ?_
                                      refine lv_aload_n hx hb d_LW_law_692 rfl (lv_at hl 0 rfl) ?_
                                      refine lv_iload_n hx hb d_LW_law_693 rfl (lv_at hl 3 rfl) ?_
                                      refine lv_iconst (v := (5 : Int32)) hx hb d_LW_law_694 (by decide) ?_
                                      refine lv_iadd hx hb d_LW_law_695 ?_
                                      refine va_sld hx hb hX hbl hbA hI.2 g129 d_LW_law_696 ?_
                                      refine gw_Vl C hI hl.1 (As := [.int (xs ((x3 + (1 : Int32)).toNatClampNeg)), .int (xs ((x3 + (2 : Int32)).toNatClampNeg)), .int (xs ((x3 + (3 : Int32)).toNatClampNeg)), .int (xs ((x3 + (4 : Int32)).toNatClampNeg)), .int (xs ((x3 + (5 : Int32)).toNatClampNeg))]) (rest := [.long r130]) (c_MD_told hja h) kV_LW_86 lay_273 rfl rfl ⟨rfl, rfl⟩ ⟨Nat.le_of_ble_eq_true rfl, Nat.le_of_ble_eq_true rfl⟩ rfl (Nat.le_of_ble_eq_true rfl) ⟨hc1, hc2⟩ d_LW_law_697 (fun r132 M133 H locs h hI => ?_)
                                      refine gl_eq (tgt := 793) C d_LW_law_700 d_LW_law_701 (by decide) (fun c134 => ?_) (fun c134 => ?_)
                                      · have h := h.1 c134
                                        exact L_LW_law_793 C hX hbl hbA had hc1 hc2 hZ_LOWEST hT_LOWEST hZ_HIGHEST hT_HIGHEST hQ ih h hI (lv_sub hl [0, 1, 2, 3] rfl)
                                      · have h := h.2 c134
                                        refine lv_iconst (v := (0 : Int32)) hx hb d_LW_law_704 (by decide) ?_
                                        exact lw_end C hc1 hc2 (hQ _ _ h) hI had d_LW_law_705
                                    · have h := h.2 c124
                                      rcases Classical.em (((xs x3.toNatClampNeg) &&& (31 : Int32)) = 16) with c135 | c135
                                      · have h := h.1 c135
                                        refine lv_tableIn (tgt := 706) hx hb d_LW_law_33 (by rw [c135]; decide) (by rw [c135]; decide) (by rw [c135]; rfl) (by decide) ?_
                                        refine lv_aload_n hx hb d_LW_law_706 rfl (lv_at hl 1 rfl) ?_
                                        refine lv_aload_n hx hb d_LW_law_707 rfl (lv_at hl 0 rfl) ?_
                                        refine lv_iload_n hx hb d_LW_law_708 rfl (lv_at hl 3 rfl) ?_
                                        refine lv_iconst (v := (1 : Int32)) hx hb d_LW_law_709 (by decide) ?_
                                        refine lv_iadd hx hb d_LW_law_710 ?_
                                        obtain ⟨g136, h⟩ := h
                                        refine va_sld hx hb hX hbl hbA hI.2 g136 d_LW_law_711 ?_
                                        refine lv_aload_n hx hb d_LW_law_712 rfl (lv_at hl 0 rfl) ?_
                                        refine lv_iload_n hx hb d_LW_law_713 rfl (lv_at hl 3 rfl) ?_
                                        refine lv_iconst (v := (2 : Int32)) hx hb d_LW_law_714 (by decide) ?_
                                        refine lv_iadd hx hb d_LW_law_715 ?_
                                        obtain ⟨g137, h⟩ := h
                                        refine va_sld hx hb hX hbl hbA hI.2 g137 d_LW_law_716 ?_
                                        refine lv_aload_n hx hb d_LW_law_717 rfl (lv_at hl 0 rfl) ?_
                                        refine lv_iload_n hx hb d_LW_law_718 rfl (lv_at hl 3 rfl) ?_
                                        refine lv_iconst (v := (3 : Int32)) hx hb d_LW_law_719 (by decide) ?_
                                        refine lv_iadd hx hb d_LW_law_720 ?_
                                        obtain ⟨g138, h⟩ := h
                                        refine va_sld hx hb hX hbl hbA hI.2 g138 d_LW_law_721 ?_
                                        refine lv_aload_n hx hb d_LW_law_722 rfl (lv_at hl 0 rfl) ?_
                                        refine lv_iload_n hx hb d_LW_law_723 rfl (lv_at hl 3 rfl) ?_
                                        refine lv_iconst (v := (4 : Int32)) hx hb d_LW_law_724 (by decide) ?_
                                        refine lv_iadd hx hb d_LW_law_725 ?_
                                        obtain ⟨g139, h⟩ := h
                                        refine va_sld hx hb hX hbl hbA hI.2 g139 d_LW_law_726 ?_
                                        refine lv_aload_n hx hb d_LW_law_727 rfl (lv_at hl 0 rfl) ?_
                                        refine lv_iload_n hx hb d_LW_law_728 rfl (lv_at hl 3 rfl) ?_
                                        refine lv_iconst (v := (5 : Int32)) hx hb d_LW_law_729 (by decide) ?_
                                        refine lv_iadd hx hb d_LW_law_730 ?_
                                        obtain ⟨g140, h⟩ := h
                                        refine va_sld hx hb hX hbl hbA hI.2 g140 d_LW_law_731 ?_
                                        refine gw_Vl C hI hl.1 (As := [.int (xs ((x3 + (1 : Int32)).toNatClampNeg)), .int (xs ((x3 + (2 : Int32)).toNatClampNeg)), .int (xs ((x3 + (3 : Int32)).toNatClampNeg)), .int (xs ((x3 + (4 : Int32)).toNatClampNeg)), .int (xs ((x3 + (5 : Int32)).toNatClampNeg))]) (rest := []) (c_BF_share hja h) kV_LW_87 lay_0 rfl rfl ⟨rfl, rfl⟩ ⟨Nat.le_of_ble_eq_true rfl, Nat.le_of_ble_eq_true rfl⟩ rfl (Nat.le_of_ble_eq_true rfl) ⟨hc1, hc2⟩ d_LW_law_732 (fun r141 M142 H locs h hI => ?_)
                                        refine lv_aload_n hx hb d_LW_law_735 rfl (lv_at hl 2 rfl) ?_
                                        refine lv_aload_n hx hb d_LW_law_736 rfl (lv_at hl 0 rfl) ?_
                                        refine lv_iload_n hx hb d_LW_law_737 rfl (lv_at hl 3 rfl) ?_
                                        refine lv_iconst (v := (1 : Int32)) hx hb d_LW_law_738 (by decide) ?_
                                        refine lv_iadd hx hb d_LW_law_739 ?_
                                        refine va_sld hx hb hX hbl hbA hI.2 g136 d_LW_law_740 ?_
                                        refine lv_aload_n hx hb d_LW_law_741 rfl (lv_at hl 0 rfl) ?_
                                        refine lv_iload_n hx hb d_LW_law_742 rfl (lv_at hl 3 rfl) ?_
                                        refine lv_iconst (v := (2 : Int32)) hx hb d_LW_law_743 (by decide) ?_
                                        refine lv_iadd hx hb d_LW_law_744 ?_
                                        refine va_sld hx hb hX hbl hbA hI.2 g137 d_LW_law_745 ?_
                                        refine lv_aload_n hx hb d_LW_law_746 rfl (lv_at hl 0 rfl) ?_
                                        refine lv_iload_n hx hb d_LW_law_747 rfl (lv_at hl 3 rfl) ?_
                                        refine lv_iconst (v := (3 : Int32)) hx hb d_LW_law_748 (by decide) ?_
                                        refine lv_iadd hx hb d_LW_law_749 ?_
                                        refine va_sld hx hb hX hbl hbA hI.2 g138 d_LW_law_750 ?_
                                        refine lv_aload_n hx hb d_LW_law_751 rfl (lv_at hl 0 rfl) ?_
                                        refine lv_iload_n hx hb d_LW_law_752 rfl (lv_at hl 3 rfl) ?_
                                        refine lv_iconst (v := (4 : Int32)) hx hb d_LW_law_753 (by decide) ?_
                                        refine lv_iadd hx hb d_LW_law_754 ?_
                                        refine va_sld hx hb hX hbl hbA hI.2 g139 d_LW_law_755 ?_
                                        refine lv_aload_n hx hb d_LW_law_756 rfl (lv_at hl 0 rfl) ?_
                                        refine lv_iload_n hx hb d_LW_law_757 rfl (lv_at hl 3 rfl) ?_
                                        refine lv_iconst (v := (5 : Int32)) hx hb d_LW_law_758 (by decide) ?_
                                        refine lv_iadd hx hb d_LW_law_759 ?_
                                        refine va_sld hx hb hX hbl hbA hI.2 g140 d_LW_law_760 ?_
                                        refine gw_Vl C hI hl.1 (As := [.int (xs ((x3 + (1 : Int32)).toNatClampNeg)), .int (xs ((x3 + (2 : Int32)).toNatClampNeg)), .int (xs ((x3 + (3 : Int32)).toNatClampNeg)), .int (xs ((x3 + (4 : Int32)).toNatClampNeg)), .int (xs ((x3 + (5 : Int32)).toNatClampNeg))]) (rest := [.long r141]) (c_MD_share hja h) kV_LW_90 lay_273 rfl rfl ⟨rfl, rfl⟩ ⟨Nat.le_of_ble_eq_true rfl, Nat.le_of_ble_eq_true rfl⟩ rfl (Nat.le_of_ble_eq_true rfl) ⟨hc1, hc2⟩ d_LW_law_761 (fun r143 M144 H locs h hI => ?_)
                                        refine gl_eq (tgt := 793) C d_LW_law_764 d_LW_law_765 (by decide) (fun c145 => ?_) (fun c145 => ?_)
                                        · have h := h.1 c145
                                          exact L_LW_law_793 C hX hbl hbA had hc1 hc2 hZ_LOWEST hT_LOWEST hZ_HIGHEST hT_HIGHEST hQ ih h hI (lv_sub hl [0, 1, 2, 3] rfl)
                                        · have h := h.2 c145
                                          refine lv_iconst (v := (0 : Int32)) hx hb d_LW_law_768 (by decide) ?_
                                          exact lw_end C hc1 hc2 (hQ _ _ h) hI had d_LW_law_769
                                      · have h := h.2 c135
                                        rcases Classical.em (((xs x3.toNatClampNeg) &&& (31 : Int32)) = 17) with c146 | c146
                                        · have h := h.1 c146
                                          refine lv_tableIn (tgt := 770) hx hb d_LW_law_33 (by rw [c146]; decide) (by rw [c146]; decide) (by rw [c146]; rfl) (by decide) ?_
                                          refine lv_aload_n hx hb d_LW_law_770 rfl (lv_at hl 1 rfl) ?_
                                          refine lv_aload_n hx hb d_LW_law_771 rfl (lv_at hl 0 rfl) ?_
                                          refine lv_iload_n hx hb d_LW_law_772 rfl (lv_at hl 3 rfl) ?_
                                          refine lv_iconst (v := (1 : Int32)) hx hb d_LW_law_773 (by decide) ?_
                                          refine lv_iadd hx hb d_LW_law_774 ?_
                                          obtain ⟨g147, h⟩ := h
                                          refine va_sld hx hb hX hbl hbA hI.2 g147 d_LW_law_775 ?_
                                          refine gw_Vi C hI hl.1 (As := [.int (xs ((x3 + (1 : Int32)).toNatClampNeg))]) (rest := []) (c_BF_count hja h) kV_LW_91 lay_0 rfl rfl ⟨rfl, rfl⟩ ⟨Nat.le_of_ble_eq_true rfl, Nat.le_of_ble_eq_true rfl⟩ rfl (Nat.le_of_ble_eq_true rfl) ⟨hc1, hc2⟩ d_LW_law_776 (fun r148 M149 H locs h hI => ?_)
                                          refine lv_aload_n hx hb d_LW_law_779 rfl (lv_at hl 2 rfl) ?_
                                          refine lv_aload_n hx hb d_LW_law_780 rfl (lv_at hl 0 rfl) ?_
                                          refine lv_iload_n hx hb d_LW_law_781 rfl (lv_at hl 3 rfl) ?_
                                          refine lv_iconst (v := (1 : Int32)) hx hb d_LW_law_782 (by decide) ?_
                                          refine lv_iadd hx hb d_LW_law_783 ?_
                                          refine va_sld hx hb hX hbl hbA hI.2 g147 d_LW_law_784 ?_
                                          refine gw_Vi C hI hl.1 (As := [.int (xs ((x3 + (1 : Int32)).toNatClampNeg))]) (rest := [.int r148]) (c_MD_count hja h) kV_LW_94 lay_273 rfl rfl ⟨rfl, rfl⟩ ⟨Nat.le_of_ble_eq_true rfl, Nat.le_of_ble_eq_true rfl⟩ rfl (Nat.le_of_ble_eq_true rfl) ⟨hc1, hc2⟩ d_LW_law_785 (fun r150 M151 H locs h hI => ?_)
                                          refine lv_icmp_eq (tgt := 793) hx hb d_LW_law_788 (by decide) (fun c152 => ?_) (fun c152 => ?_)
                                          · have h := h.1 c152
                                            exact L_LW_law_793 C hX hbl hbA had hc1 hc2 hZ_LOWEST hT_LOWEST hZ_HIGHEST hT_HIGHEST hQ ih h hI (lv_sub hl [0, 1, 2, 3] rfl)
                                          · have h := h.2 c152
                                            refine lv_iconst (v := (0 : Int32)) hx hb d_LW_law_791 (by decide) ?_
                                            exact lw_end C hc1 hc2 (hQ _ _ h) hI had d_LW_law_792
                                        · have h := h.2 c146
                                          refine lv_tableOut (tgt := 793) hx hb d_LW_law_33 (by have := lv_neT (a := 0) c2 rfl; have := lv_neT (a := 1) c14 rfl; have := lv_neT (a := 2) c22 rfl; have := lv_neT (a := 3) c30 rfl; have := lv_neT (a := 4) c36 rfl; have := lv_neT (a := 5) c42 rfl; have := lv_neT (a := 6) c51 rfl; have := lv_neT (a := 7) c60 rfl; have := lv_neT (a := 8) c67 rfl; have := lv_neT (a := 9) c78 rfl; have := lv_neT (a := 10) c89 rfl; have := lv_neT (a := 11) c97 rfl; have := lv_neT (a := 12) c103 rfl; have := lv_neT (a := 13) c110 rfl; have := lv_neT (a := 14) c117 rfl; have := lv_neT (a := 15) c124 rfl; have := lv_neT (a := 16) c135 rfl; have := lv_neT (a := 17) c146 rfl; omega) (by decide) ?_
                                          exact L_LW_law_793 C hX hbl hbA had hc1 hc2 hZ_LOWEST hT_LOWEST hZ_HIGHEST hT_HIGHEST hQ ih h hI (lv_sub hl [0, 1, 2, 3] rfl)

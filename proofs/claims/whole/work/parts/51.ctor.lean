set_option maxHeartbeats 4000000 in
set_option maxRecDepth 100000 in
theorem cc1_7_init (X : Nat × (Nat → Int32)) : mC X m7_init 1 4 38 [.ref 3] 4 KK (IQ 0) (PQ 0) (mRet none 8 KK (IQ 9) (PQ 4)) := by
  refine mC_of (L0 := [.ref 3]) rfl (Nat.le_of_ble_eq_true rfl) ?_
  refine mV_aload f7_init_0 rfl ?_
  refine mV_objInit f7_init_1 ol7_3 ob_i ob_c (Nat.le_of_ble_eq_true rfl) ?_
  refine mV_aload f7_init_4 rfl ?_
  refine mV_push f7_init_5 ?_
  refine mV_newaX (n' := 5) (N := 12) f7_init_7 rfl rfl (by decide) (by decide) (by decide) (by decide) (by decide) ?_
  refine mV_putPX f7_init_9 (by decide) kk_3 rfl (evP_0) ?_
  refine mV_aload f7_init_12 rfl ?_
  refine mV_push f7_init_13 ?_
  refine mV_newaX (n' := 6) (N := 12) f7_init_15 rfl rfl (by decide) (by decide) (by decide) (by decide) (by decide) ?_
  refine mV_putPX f7_init_17 (by decide) kk_3 rfl (evP_1) ?_
  refine mV_aload f7_init_20 rfl ?_
  refine mV_push f7_init_21 ?_
  refine mV_newaX (n' := 7) (N := 6) f7_init_23 rfl rfl (by decide) (by decide) (by decide) (by decide) (by decide) ?_
  refine mV_putPX f7_init_25 (by decide) kk_3 rfl (evP_2) ?_
  refine mV_aload f7_init_28 rfl ?_
  refine mV_push f7_init_29 ?_
  refine mV_newaX (n' := 8) (N := 8) f7_init_31 rfl rfl (by decide) (by decide) (by decide) (by decide) (by decide) ?_
  refine mV_putPX f7_init_33 (by decide) kk_3 rfl (evP_3) ?_
  refine mV_aload f7_init_36 rfl ?_
  refine mV_push f7_init_37 ?_
  refine mV_putIX f7_init_38 (by decide) kk_3 rfl rfl (evI_0) ?_
  refine mV_aload f7_init_41 rfl ?_
  refine mV_push f7_init_42 ?_
  refine mV_putIX f7_init_43 (by decide) kk_3 rfl rfl (evI_1) ?_
  refine mV_aload f7_init_46 rfl ?_
  refine mV_push f7_init_47 ?_
  refine mV_putIX f7_init_49 (by decide) kk_3 rfl rfl (evI_2) ?_
  refine mV_aload f7_init_52 rfl ?_
  refine mV_push f7_init_53 ?_
  refine mV_putIX f7_init_54 (by decide) kk_3 rfl rfl (evI_3) ?_
  refine mV_aload f7_init_57 rfl ?_
  refine mV_push f7_init_58 ?_
  refine mV_putIX f7_init_59 (by decide) kk_3 rfl rfl (evI_4) ?_
  refine mV_aload f7_init_62 rfl ?_
  refine mV_push f7_init_63 ?_
  refine mV_putIX f7_init_64 (by decide) kk_3 rfl rfl (evI_5) ?_
  refine mV_aload f7_init_67 rfl ?_
  refine mV_push f7_init_68 ?_
  refine mV_putIX f7_init_69 (by decide) kk_3 rfl rfl (evI_6) ?_
  refine mV_aload f7_init_72 rfl ?_
  refine mV_push f7_init_73 ?_
  refine mV_putIX f7_init_74 (by decide) kk_3 rfl rfl (evI_7) ?_
  refine mV_aload f7_init_77 rfl ?_
  refine mV_push f7_init_78 ?_
  refine mV_putIX f7_init_79 (by decide) kk_3 rfl rfl (evI_8) ?_
  exact mV_vret rfl f7_init_82 (mRet_ok _ _ _ _ _)
set_option maxHeartbeats 4000000 in
set_option maxRecDepth 100000 in
theorem cc2_0_init (X : Nat × (Nat → Int32)) : mC X m0_init 1 6 54 [.ref 8] 9 KK (IQ 9) (PQ 5) (mRet none 15 KK (IQ 11) (PQ 11)) := by
  refine mC_of (L0 := [.ref 8]) rfl (Nat.le_of_ble_eq_true rfl) ?_
  refine mV_aload f0_init_0 rfl ?_
  refine mV_objInit f0_init_1 ol0_3 ob_i ob_c (Nat.le_of_ble_eq_true rfl) ?_
  refine mV_aload f0_init_4 rfl ?_
  refine mV_push f0_init_5 ?_
  refine mV_newaX (n' := 10) (N := 12) f0_init_7 rfl rfl (by decide) (by decide) (by decide) (by decide) (by decide) ?_
  refine mV_putPX f0_init_9 (by decide) kk_8 rfl (evP_5) ?_
  refine mV_aload f0_init_12 rfl ?_
  refine mV_push f0_init_13 ?_
  refine mV_newaX (n' := 11) (N := 12) f0_init_15 rfl rfl (by decide) (by decide) (by decide) (by decide) (by decide) ?_
  refine mV_putPX f0_init_17 (by decide) kk_8 rfl (evP_6) ?_
  refine mV_aload f0_init_20 rfl ?_
  refine mV_push f0_init_21 ?_
  refine mV_newaX (n' := 12) (N := 12) f0_init_23 rfl rfl (by decide) (by decide) (by decide) (by decide) (by decide) ?_
  refine mV_putPX f0_init_25 (by decide) kk_8 rfl (evP_7) ?_
  refine mV_aload f0_init_28 rfl ?_
  refine mV_push f0_init_29 ?_
  refine mV_newaX (n' := 13) (N := 6) f0_init_31 rfl rfl (by decide) (by decide) (by decide) (by decide) (by decide) ?_
  refine mV_putPX f0_init_33 (by decide) kk_8 rfl (evP_8) ?_
  refine mV_aload f0_init_36 rfl ?_
  refine mV_push f0_init_37 ?_
  refine mV_newaX (n' := 14) (N := 6) f0_init_39 rfl rfl (by decide) (by decide) (by decide) (by decide) (by decide) ?_
  refine mV_putPX f0_init_41 (by decide) kk_8 rfl (evP_9) ?_
  refine mV_aload f0_init_44 rfl ?_
  refine mV_push f0_init_45 ?_
  refine mV_newaX (n' := 15) (N := 6) f0_init_47 rfl rfl (by decide) (by decide) (by decide) (by decide) (by decide) ?_
  refine mV_putPX f0_init_49 (by decide) kk_8 rfl (evP_10) ?_
  refine mV_aload f0_init_52 rfl ?_
  refine mV_push f0_init_53 ?_
  refine mV_putIX f0_init_54 (by decide) kk_8 rfl rfl (evI_9) ?_
  refine mV_aload f0_init_57 rfl ?_
  refine mV_push f0_init_58 ?_
  refine mV_putIX f0_init_59 (by decide) kk_8 rfl rfl (evI_10) ?_
  exact mV_vret rfl f0_init_62 (mRet_ok _ _ _ _ _)
set_option maxHeartbeats 4000000 in
set_option maxRecDepth 100000 in
theorem cc3_6_init (X : Nat × (Nat → Int32)) : mC X m6_init 1 2 544 [.ref 15, .int 400] 16 KK (IQ 11) (PQ 12) (mRet none 18 KK (IQ 13) (PQ 14)) := by
  refine mC_of (L0 := [.ref 15, .int 400]) rfl (Nat.le_of_ble_eq_true rfl) ?_
  refine mV_aload f6_init_0 rfl ?_
  refine mV_objInit f6_init_1 ol6_3 ob_i ob_c (Nat.le_of_ble_eq_true rfl) ?_
  refine mV_aload f6_init_4 rfl ?_
  refine mV_push f6_init_5 ?_
  refine mV_newaX (n' := 17) (N := 144) f6_init_8 rfl rfl (by decide) (by decide) (by decide) (by decide) (by decide) ?_
  refine mV_putPX f6_init_10 (by decide) kk_15 rfl (evP_12) ?_
  refine mV_aload f6_init_13 rfl ?_
  refine mV_push f6_init_14 ?_
  refine mV_putIX f6_init_15 (by decide) kk_15 rfl rfl (evI_11) ?_
  refine mV_aload f6_init_18 rfl ?_
  refine mV_push f6_init_19 ?_
  refine mV_putIX f6_init_20 (by decide) kk_15 rfl rfl (evI_12) ?_
  refine mV_aload f6_init_23 rfl ?_
  refine mV_push f6_init_24 ?_
  refine mV_iload f6_init_25 rfl ?_
  refine mV_maxC fm6_init_26 (Nat.le_of_ble_eq_true rfl) ?_
  refine mV_as 400 (by decide) ?_
  refine mV_newaX (n' := 18) (N := 400) f6_init_29 rfl rfl (by decide) (by decide) (by decide) (by decide) (by decide) ?_
  refine mV_putPX f6_init_31 (by decide) kk_15 rfl (evP_13) ?_
  exact mV_vret rfl f6_init_34 (mRet_ok _ _ _ _ _)
set_option maxHeartbeats 4000000 in
set_option maxRecDepth 100000 in
theorem cc4_6_init (X : Nat × (Nat → Int32)) : mC X m6_init 1 2 144 [.ref 18, .int 0] 19 KK (IQ 13) (PQ 15) (mRet none 21 KK (IQ 15) (PQ 17)) := by
  refine mC_of (L0 := [.ref 18, .int 0]) rfl (Nat.le_of_ble_eq_true rfl) ?_
  refine mV_aload f6_init_0 rfl ?_
  refine mV_objInit f6_init_1 ol6_3 ob_i ob_c (Nat.le_of_ble_eq_true rfl) ?_
  refine mV_aload f6_init_4 rfl ?_
  refine mV_push f6_init_5 ?_
  refine mV_newaX (n' := 20) (N := 144) f6_init_8 rfl rfl (by decide) (by decide) (by decide) (by decide) (by decide) ?_
  refine mV_putPX f6_init_10 (by decide) kk_18 rfl (evP_15) ?_
  refine mV_aload f6_init_13 rfl ?_
  refine mV_push f6_init_14 ?_
  refine mV_putIX f6_init_15 (by decide) kk_18 rfl rfl (evI_13) ?_
  refine mV_aload f6_init_18 rfl ?_
  refine mV_push f6_init_19 ?_
  refine mV_putIX f6_init_20 (by decide) kk_18 rfl rfl (evI_14) ?_
  refine mV_aload f6_init_23 rfl ?_
  refine mV_push f6_init_24 ?_
  refine mV_iload f6_init_25 rfl ?_
  refine mV_maxC fm6_init_26 (Nat.le_of_ble_eq_true rfl) ?_
  refine mV_as 0 (by decide) ?_
  refine mV_newaX (n' := 21) (N := 0) f6_init_29 rfl rfl (by decide) (by decide) (by decide) (by decide) (by decide) ?_
  refine mV_putPX f6_init_31 (by decide) kk_18 rfl (evP_16) ?_
  exact mV_vret rfl f6_init_34 (mRet_ok _ _ _ _ _)
set_option maxHeartbeats 4000000 in
set_option maxRecDepth 100000 in
theorem cc5_6_init (X : Nat × (Nat → Int32)) : mC X m6_init 1 2 144 [.ref 21, .int 0] 22 KK (IQ 15) (PQ 18) (mRet none 24 KK (IQ 17) (PQ 20)) := by
  refine mC_of (L0 := [.ref 21, .int 0]) rfl (Nat.le_of_ble_eq_true rfl) ?_
  refine mV_aload f6_init_0 rfl ?_
  refine mV_objInit f6_init_1 ol6_3 ob_i ob_c (Nat.le_of_ble_eq_true rfl) ?_
  refine mV_aload f6_init_4 rfl ?_
  refine mV_push f6_init_5 ?_
  refine mV_newaX (n' := 23) (N := 144) f6_init_8 rfl rfl (by decide) (by decide) (by decide) (by decide) (by decide) ?_
  refine mV_putPX f6_init_10 (by decide) kk_21 rfl (evP_18) ?_
  refine mV_aload f6_init_13 rfl ?_
  refine mV_push f6_init_14 ?_
  refine mV_putIX f6_init_15 (by decide) kk_21 rfl rfl (evI_15) ?_
  refine mV_aload f6_init_18 rfl ?_
  refine mV_push f6_init_19 ?_
  refine mV_putIX f6_init_20 (by decide) kk_21 rfl rfl (evI_16) ?_
  refine mV_aload f6_init_23 rfl ?_
  refine mV_push f6_init_24 ?_
  refine mV_iload f6_init_25 rfl ?_
  refine mV_maxC fm6_init_26 (Nat.le_of_ble_eq_true rfl) ?_
  refine mV_as 0 (by decide) ?_
  refine mV_newaX (n' := 24) (N := 0) f6_init_29 rfl rfl (by decide) (by decide) (by decide) (by decide) (by decide) ?_
  refine mV_putPX f6_init_31 (by decide) kk_21 rfl (evP_19) ?_
  exact mV_vret rfl f6_init_34 (mRet_ok _ _ _ _ _)
set_option maxHeartbeats 4000000 in
set_option maxRecDepth 100000 in
theorem cc6_6_init (X : Nat × (Nat → Int32)) : mC X m6_init 1 2 144 [.ref 24, .int 0] 25 KK (IQ 17) (PQ 21) (mRet none 27 KK (IQ 19) (PQ 23)) := by
  refine mC_of (L0 := [.ref 24, .int 0]) rfl (Nat.le_of_ble_eq_true rfl) ?_
  refine mV_aload f6_init_0 rfl ?_
  refine mV_objInit f6_init_1 ol6_3 ob_i ob_c (Nat.le_of_ble_eq_true rfl) ?_
  refine mV_aload f6_init_4 rfl ?_
  refine mV_push f6_init_5 ?_
  refine mV_newaX (n' := 26) (N := 144) f6_init_8 rfl rfl (by decide) (by decide) (by decide) (by decide) (by decide) ?_
  refine mV_putPX f6_init_10 (by decide) kk_24 rfl (evP_21) ?_
  refine mV_aload f6_init_13 rfl ?_
  refine mV_push f6_init_14 ?_
  refine mV_putIX f6_init_15 (by decide) kk_24 rfl rfl (evI_17) ?_
  refine mV_aload f6_init_18 rfl ?_
  refine mV_push f6_init_19 ?_
  refine mV_putIX f6_init_20 (by decide) kk_24 rfl rfl (evI_18) ?_
  refine mV_aload f6_init_23 rfl ?_
  refine mV_push f6_init_24 ?_
  refine mV_iload f6_init_25 rfl ?_
  refine mV_maxC fm6_init_26 (Nat.le_of_ble_eq_true rfl) ?_
  refine mV_as 0 (by decide) ?_
  refine mV_newaX (n' := 27) (N := 0) f6_init_29 rfl rfl (by decide) (by decide) (by decide) (by decide) (by decide) ?_
  refine mV_putPX f6_init_31 (by decide) kk_24 rfl (evP_22) ?_
  exact mV_vret rfl f6_init_34 (mRet_ok _ _ _ _ _)
set_option maxHeartbeats 4000000 in
set_option maxRecDepth 100000 in
theorem cc7_1_init (X : Nat × (Nat → Int32)) : mC X m1_init 1 6 131 [.ref 27] 28 KK (IQ 19) (PQ 24) (mRet none 34 KK (IQ 29) (PQ 30)) := by
  refine mC_of (L0 := [.ref 27]) rfl (Nat.le_of_ble_eq_true rfl) ?_
  refine mV_aload f1_init_0 rfl ?_
  refine mV_objInit f1_init_1 ol1_3 ob_i ob_c (Nat.le_of_ble_eq_true rfl) ?_
  refine mV_aload f1_init_4 rfl ?_
  refine mV_push f1_init_5 ?_
  refine mV_newaX (n' := 29) (N := 16) f1_init_7 rfl rfl (by decide) (by decide) (by decide) (by decide) (by decide) ?_
  refine mV_putPX f1_init_9 (by decide) kk_27 rfl (evP_24) ?_
  refine mV_aload f1_init_12 rfl ?_
  refine mV_push f1_init_13 ?_
  refine mV_newaX (n' := 30) (N := 8) f1_init_15 rfl rfl (by decide) (by decide) (by decide) (by decide) (by decide) ?_
  refine mV_dup f1_init_17 rfl ?_
  refine mV_push f1_init_18 ?_
  refine mV_push f1_init_19 ?_
  refine mV_stoX (k := 0) f1_init_20 (by decide) kk_29 (by decide) (evI_19) ?_
  refine mV_dup f1_init_21 rfl ?_
  refine mV_push f1_init_22 ?_
  refine mV_push f1_init_23 ?_
  refine mV_stoX (k := 1) f1_init_24 (by decide) kk_29 (by decide) (evI_20) ?_
  refine mV_dup f1_init_25 rfl ?_
  refine mV_push f1_init_26 ?_
  refine mV_push f1_init_27 ?_
  refine mV_stoX (k := 2) f1_init_28 (by decide) kk_29 (by decide) (evI_21) ?_
  refine mV_dup f1_init_29 rfl ?_
  refine mV_push f1_init_30 ?_
  refine mV_push f1_init_31 ?_
  refine mV_stoX (k := 3) f1_init_32 (by decide) kk_29 (by decide) (evI_22) ?_
  refine mV_dup f1_init_33 rfl ?_
  refine mV_push f1_init_34 ?_
  refine mV_push f1_init_35 ?_
  refine mV_stoX (k := 4) f1_init_36 (by decide) kk_29 (by decide) (evI_23) ?_
  refine mV_dup f1_init_37 rfl ?_
  refine mV_push f1_init_38 ?_
  refine mV_push f1_init_39 ?_
  refine mV_stoX (k := 5) f1_init_40 (by decide) kk_29 (by decide) (evI_24) ?_
  refine mV_dup f1_init_41 rfl ?_
  refine mV_push f1_init_42 ?_
  refine mV_push f1_init_44 ?_
  refine mV_stoX (k := 6) f1_init_45 (by decide) kk_29 (by decide) (evI_25) ?_
  refine mV_dup f1_init_46 rfl ?_
  refine mV_push f1_init_47 ?_
  refine mV_push f1_init_49 ?_
  refine mV_stoX (k := 7) f1_init_50 (by decide) kk_29 (by decide) (evI_26) ?_
  refine mV_putPX f1_init_51 (by decide) kk_27 rfl (evP_25) ?_
  refine mV_aload f1_init_54 rfl ?_
  refine mV_push f1_init_55 ?_
  refine mV_newaX (n' := 31) (N := 9) f1_init_57 rfl rfl (by decide) (by decide) (by decide) (by decide) (by decide) ?_
  refine mV_putPX f1_init_59 (by decide) kk_27 rfl (evP_26) ?_
  refine mV_aload f1_init_62 rfl ?_
  refine mV_push f1_init_63 ?_
  refine mV_newaX (n' := 32) (N := 9) f1_init_65 rfl rfl (by decide) (by decide) (by decide) (by decide) (by decide) ?_
  refine mV_putPX f1_init_67 (by decide) kk_27 rfl (evP_27) ?_
  refine mV_aload f1_init_70 rfl ?_
  refine mV_push f1_init_71 ?_
  refine mV_newaX (n' := 33) (N := 9) f1_init_73 rfl rfl (by decide) (by decide) (by decide) (by decide) (by decide) ?_
  refine mV_putPX f1_init_75 (by decide) kk_27 rfl (evP_28) ?_
  refine mV_aload f1_init_78 rfl ?_
  refine mV_push f1_init_79 ?_
  refine mV_putIX f1_init_80 (by decide) kk_27 rfl rfl (evI_27) ?_
  refine mV_aload f1_init_83 rfl ?_
  refine mV_push f1_init_84 ?_
  refine mV_putIX f1_init_85 (by decide) kk_27 rfl rfl (evI_28) ?_
  refine mV_aload f1_init_88 rfl ?_
  refine mV_push f1_init_89 ?_
  refine mV_newaX (n' := 34) (N := 80) f1_init_91 rfl rfl (by decide) (by decide) (by decide) (by decide) (by decide) ?_
  refine mV_putPX f1_init_93 (by decide) kk_27 rfl (evP_29) ?_
  exact mV_vret rfl f1_init_96 (mRet_ok _ _ _ _ _)
set_option maxHeartbeats 4000000 in
set_option maxRecDepth 100000 in
theorem cc8_8_init (X : Nat × (Nat → Int32)) : mC X m8_init 2 32 1844 [.ref 2] 3 KK (IQ 0) (PQ 0) (mRet none 35 KK (IQ 29) (PQ 32)) := by
  refine mC_of (L0 := [.ref 2]) rfl (Nat.le_of_ble_eq_true rfl) ?_
  refine mV_aload f8_init_0 rfl ?_
  refine mV_objInit f8_init_1 ol8_3 ob_i ob_c (Nat.le_of_ble_eq_true rfl) ?_
  refine mV_aload f8_init_4 rfl ?_
  refine mV_newX (n' := 4) f8_init_5 rfl rfl (by decide) (by decide) ?_
  refine mV_dup f8_init_8 rfl ?_
  refine mV_cin (mc := 4) (ms := 38) (bc' := 27) (bs' := 1793) (host := "WeepingPiano") f8_init_9 (by decide) tg_m7_init (mC_deep (cc1_7_init X) (by decide)) rfl rfl (Nat.le_of_ble_eq_true rfl) rfl rfl ?_
  refine mV_putPX f8_init_12 (by decide) kk_2 rfl (evP_4) ?_
  refine mV_aload f8_init_15 rfl ?_
  refine mV_newX (n' := 9) f8_init_16 rfl rfl (by decide) (by decide) ?_
  refine mV_dup f8_init_19 rfl ?_
  refine mV_cin (mc := 6) (ms := 54) (bc' := 20) (bs' := 1731) (host := "WeepingPiano") f8_init_20 (by decide) tg_m0_init (mC_deep (cc2_0_init X) (by decide)) rfl rfl (Nat.le_of_ble_eq_true rfl) rfl rfl ?_
  refine mV_putPX f8_init_23 (by decide) kk_2 rfl (evP_11) ?_
  refine mV_aload f8_init_26 rfl ?_
  refine mV_newX (n' := 16) f8_init_27 rfl rfl (by decide) (by decide) ?_
  refine mV_dup f8_init_30 rfl ?_
  refine mV_push f8_init_31 ?_
  refine mV_ci (mc := 2) (ms := 544) (bc' := 17) (bs' := 1183) ⟨_, f8_init_34, ml8_27⟩ tg_m6_init (mC_deep (cc3_6_init X) (by decide)) rfl rfl (Nat.le_of_ble_eq_true rfl) rfl rfl ?_
  refine mV_putPX f8_init_37 (by decide) kk_2 rfl (evP_14) ?_
  refine mV_aload f8_init_40 rfl ?_
  refine mV_newX (n' := 19) f8_init_41 rfl rfl (by decide) (by decide) ?_
  refine mV_dup f8_init_44 rfl ?_
  refine mV_push f8_init_45 ?_
  refine mV_ci (mc := 2) (ms := 144) (bc' := 14) (bs' := 1035) ⟨_, f8_init_46, ml8_27⟩ tg_m6_init (mC_deep (cc4_6_init X) (by decide)) rfl rfl (Nat.le_of_ble_eq_true rfl) rfl rfl ?_
  refine mV_putPX f8_init_49 (by decide) kk_2 rfl (evP_17) ?_
  refine mV_aload f8_init_52 rfl ?_
  refine mV_newX (n' := 22) f8_init_53 rfl rfl (by decide) (by decide) ?_
  refine mV_dup f8_init_56 rfl ?_
  refine mV_push f8_init_57 ?_
  refine mV_ci (mc := 2) (ms := 144) (bc' := 11) (bs' := 887) ⟨_, f8_init_58, ml8_27⟩ tg_m6_init (mC_deep (cc5_6_init X) (by decide)) rfl rfl (Nat.le_of_ble_eq_true rfl) rfl rfl ?_
  refine mV_putPX f8_init_61 (by decide) kk_2 rfl (evP_20) ?_
  refine mV_aload f8_init_64 rfl ?_
  refine mV_newX (n' := 25) f8_init_65 rfl rfl (by decide) (by decide) ?_
  refine mV_dup f8_init_68 rfl ?_
  refine mV_push f8_init_69 ?_
  refine mV_ci (mc := 2) (ms := 144) (bc' := 8) (bs' := 739) ⟨_, f8_init_70, ml8_27⟩ tg_m6_init (mC_deep (cc6_6_init X) (by decide)) rfl rfl (Nat.le_of_ble_eq_true rfl) rfl rfl ?_
  refine mV_putPX f8_init_73 (by decide) kk_2 rfl (evP_23) ?_
  refine mV_aload f8_init_76 rfl ?_
  refine mV_newX (n' := 28) f8_init_77 rfl rfl (by decide) (by decide) ?_
  refine mV_dup f8_init_80 rfl ?_
  refine mV_cin (mc := 6) (ms := 131) (bc' := 1) (bs' := 600) (host := "WeepingPiano") f8_init_81 (by decide) tg_m1_init (mC_deep (cc7_1_init X) (by decide)) rfl rfl (Nat.le_of_ble_eq_true rfl) rfl rfl ?_
  refine mV_putPX f8_init_84 (by decide) kk_2 rfl (evP_30) ?_
  refine mV_aload f8_init_87 rfl ?_
  refine mV_push f8_init_88 ?_
  refine mV_newaX (n' := 35) (N := 600) f8_init_91 rfl rfl (by decide) (by decide) (by decide) (by decide) (by decide) ?_
  refine mV_putPX f8_init_93 (by decide) kk_2 rfl (evP_31) ?_
  exact mV_vret rfl f8_init_96 (mRet_ok _ _ _ _ _)
set_option maxHeartbeats 4000000 in
set_option maxRecDepth 100000 in
theorem cc9_7_init (X : Nat × (Nat → Int32)) : mC X m7_init 1 4 38 [.ref 35] 36 KK (IQ 29) (PQ 33) (mRet none 40 KK (IQ 38) (PQ 37)) := by
  refine mC_of (L0 := [.ref 35]) rfl (Nat.le_of_ble_eq_true rfl) ?_
  refine mV_aload f7_init_0 rfl ?_
  refine mV_objInit f7_init_1 ol7_3 ob_i ob_c (Nat.le_of_ble_eq_true rfl) ?_
  refine mV_aload f7_init_4 rfl ?_
  refine mV_push f7_init_5 ?_
  refine mV_newaX (n' := 37) (N := 12) f7_init_7 rfl rfl (by decide) (by decide) (by decide) (by decide) (by decide) ?_
  refine mV_putPX f7_init_9 (by decide) kk_35 rfl (evP_33) ?_
  refine mV_aload f7_init_12 rfl ?_
  refine mV_push f7_init_13 ?_
  refine mV_newaX (n' := 38) (N := 12) f7_init_15 rfl rfl (by decide) (by decide) (by decide) (by decide) (by decide) ?_
  refine mV_putPX f7_init_17 (by decide) kk_35 rfl (evP_34) ?_
  refine mV_aload f7_init_20 rfl ?_
  refine mV_push f7_init_21 ?_
  refine mV_newaX (n' := 39) (N := 6) f7_init_23 rfl rfl (by decide) (by decide) (by decide) (by decide) (by decide) ?_
  refine mV_putPX f7_init_25 (by decide) kk_35 rfl (evP_35) ?_
  refine mV_aload f7_init_28 rfl ?_
  refine mV_push f7_init_29 ?_
  refine mV_newaX (n' := 40) (N := 8) f7_init_31 rfl rfl (by decide) (by decide) (by decide) (by decide) (by decide) ?_
  refine mV_putPX f7_init_33 (by decide) kk_35 rfl (evP_36) ?_
  refine mV_aload f7_init_36 rfl ?_
  refine mV_push f7_init_37 ?_
  refine mV_putIX f7_init_38 (by decide) kk_35 rfl rfl (evI_29) ?_
  refine mV_aload f7_init_41 rfl ?_
  refine mV_push f7_init_42 ?_
  refine mV_putIX f7_init_43 (by decide) kk_35 rfl rfl (evI_30) ?_
  refine mV_aload f7_init_46 rfl ?_
  refine mV_push f7_init_47 ?_
  refine mV_putIX f7_init_49 (by decide) kk_35 rfl rfl (evI_31) ?_
  refine mV_aload f7_init_52 rfl ?_
  refine mV_push f7_init_53 ?_
  refine mV_putIX f7_init_54 (by decide) kk_35 rfl rfl (evI_32) ?_
  refine mV_aload f7_init_57 rfl ?_
  refine mV_push f7_init_58 ?_
  refine mV_putIX f7_init_59 (by decide) kk_35 rfl rfl (evI_33) ?_
  refine mV_aload f7_init_62 rfl ?_
  refine mV_push f7_init_63 ?_
  refine mV_putIX f7_init_64 (by decide) kk_35 rfl rfl (evI_34) ?_
  refine mV_aload f7_init_67 rfl ?_
  refine mV_push f7_init_68 ?_
  refine mV_putIX f7_init_69 (by decide) kk_35 rfl rfl (evI_35) ?_
  refine mV_aload f7_init_72 rfl ?_
  refine mV_push f7_init_73 ?_
  refine mV_putIX f7_init_74 (by decide) kk_35 rfl rfl (evI_36) ?_
  refine mV_aload f7_init_77 rfl ?_
  refine mV_push f7_init_78 ?_
  refine mV_putIX f7_init_79 (by decide) kk_35 rfl rfl (evI_37) ?_
  exact mV_vret rfl f7_init_82 (mRet_ok _ _ _ _ _)
set_option maxHeartbeats 4000000 in
set_option maxRecDepth 100000 in
theorem cc10_5_init (X : Nat × (Nat → Int32)) : mC X m5_init 3 42 1957 [.ref 1] 2 KK (IQ 0) (PQ 0) (mRet none 44 KK (IQ 40) (PQ 43)) := by
  refine mC_of (L0 := [.ref 1]) rfl (Nat.le_of_ble_eq_true rfl) ?_
  refine mV_aload f5_init_0 rfl ?_
  refine mV_objInit f5_init_1 ol5_3 ob_i ob_c (Nat.le_of_ble_eq_true rfl) ?_
  refine mV_aload f5_init_4 rfl ?_
  refine mV_newX (n' := 3) f5_init_5 rfl rfl (by decide) (by decide) ?_
  refine mV_dup f5_init_8 rfl ?_
  refine mV_cin (mc := 32) (ms := 1844) (bc' := 9) (bs' := 105) (host := "WeepingPiano") f5_init_9 (by decide) tg_m8_init (mC_deep (cc8_8_init X) (by decide)) rfl rfl (Nat.le_of_ble_eq_true rfl) rfl rfl ?_
  refine mV_putPX f5_init_12 (by decide) kk_1 rfl (evP_32) ?_
  refine mV_aload f5_init_15 rfl ?_
  refine mV_newX (n' := 36) f5_init_16 rfl rfl (by decide) (by decide) ?_
  refine mV_dup f5_init_19 rfl ?_
  refine mV_cin (mc := 4) (ms := 38) (bc' := 4) (bs' := 54) (host := "WeepingPiano") f5_init_20 (by decide) tg_m7_init (mC_deep (cc9_7_init X) (by decide)) rfl rfl (Nat.le_of_ble_eq_true rfl) rfl rfl ?_
  refine mV_putPX f5_init_23 (by decide) kk_1 rfl (evP_37) ?_
  refine mV_aload f5_init_26 rfl ?_
  refine mV_aload f5_init_27 rfl ?_
  refine mV_getP (r := 2) f5_init_28 (by decide) kk_1 rfl (by decide +kernel) ?_
  refine mV_getP (r := 3) f5_init_31 (by decide) kk_2 rfl (by decide +kernel) ?_
  refine mV_putPX f5_init_34 (by decide) kk_1 rfl (evP_38) ?_
  refine mV_aload f5_init_37 rfl ?_
  refine mV_push f5_init_38 ?_
  refine mV_putIX f5_init_39 (by decide) kk_1 rfl rfl (evI_38) ?_
  refine mV_aload f5_init_42 rfl ?_
  refine mV_push f5_init_43 ?_
  refine mV_newaX (n' := 41) (N := 12) f5_init_45 rfl rfl (by decide) (by decide) (by decide) (by decide) (by decide) ?_
  refine mV_putPX f5_init_47 (by decide) kk_1 rfl (evP_39) ?_
  refine mV_aload f5_init_50 rfl ?_
  refine mV_push f5_init_51 ?_
  refine mV_newaX (n' := 42) (N := 32) f5_init_53 rfl rfl (by decide) (by decide) (by decide) (by decide) (by decide) ?_
  refine mV_putPX f5_init_55 (by decide) kk_1 rfl (evP_40) ?_
  refine mV_aload f5_init_58 rfl ?_
  refine mV_push f5_init_59 ?_
  refine mV_newaX (n' := 43) (N := 5) f5_init_60 rfl rfl (by decide) (by decide) (by decide) (by decide) (by decide) ?_
  refine mV_putPX f5_init_62 (by decide) kk_1 rfl (evP_41) ?_
  refine mV_aload f5_init_65 rfl ?_
  refine mV_push f5_init_66 ?_
  refine mV_newaX (n' := 44) (N := 5) f5_init_67 rfl rfl (by decide) (by decide) (by decide) (by decide) (by decide) ?_
  refine mV_putPX f5_init_69 (by decide) kk_1 rfl (evP_42) ?_
  refine mV_aload f5_init_72 rfl ?_
  refine mV_push f5_init_73 ?_
  refine mV_putIX f5_init_74 (by decide) kk_1 rfl rfl (evI_39) ?_
  exact mV_vret rfl f5_init_77 (mRet_ok _ _ _ _ _)
set_option maxHeartbeats 4000000 in
set_option maxRecDepth 100000 in
theorem cc11_7_init (X : Nat × (Nat → Int32)) : mC X m7_init 1 4 38 [.ref 45] 46 KK (IQ 40) (PQ 45) (mRet none 50 KK (IQ 49) (PQ 49)) := by
  refine mC_of (L0 := [.ref 45]) rfl (Nat.le_of_ble_eq_true rfl) ?_
  refine mV_aload f7_init_0 rfl ?_
  refine mV_objInit f7_init_1 ol7_3 ob_i ob_c (Nat.le_of_ble_eq_true rfl) ?_
  refine mV_aload f7_init_4 rfl ?_
  refine mV_push f7_init_5 ?_
  refine mV_newaX (n' := 47) (N := 12) f7_init_7 rfl rfl (by decide) (by decide) (by decide) (by decide) (by decide) ?_
  refine mV_putPX f7_init_9 (by decide) kk_45 rfl (evP_45) ?_
  refine mV_aload f7_init_12 rfl ?_
  refine mV_push f7_init_13 ?_
  refine mV_newaX (n' := 48) (N := 12) f7_init_15 rfl rfl (by decide) (by decide) (by decide) (by decide) (by decide) ?_
  refine mV_putPX f7_init_17 (by decide) kk_45 rfl (evP_46) ?_
  refine mV_aload f7_init_20 rfl ?_
  refine mV_push f7_init_21 ?_
  refine mV_newaX (n' := 49) (N := 6) f7_init_23 rfl rfl (by decide) (by decide) (by decide) (by decide) (by decide) ?_
  refine mV_putPX f7_init_25 (by decide) kk_45 rfl (evP_47) ?_
  refine mV_aload f7_init_28 rfl ?_
  refine mV_push f7_init_29 ?_
  refine mV_newaX (n' := 50) (N := 8) f7_init_31 rfl rfl (by decide) (by decide) (by decide) (by decide) (by decide) ?_
  refine mV_putPX f7_init_33 (by decide) kk_45 rfl (evP_48) ?_
  refine mV_aload f7_init_36 rfl ?_
  refine mV_push f7_init_37 ?_
  refine mV_putIX f7_init_38 (by decide) kk_45 rfl rfl (evI_40) ?_
  refine mV_aload f7_init_41 rfl ?_
  refine mV_push f7_init_42 ?_
  refine mV_putIX f7_init_43 (by decide) kk_45 rfl rfl (evI_41) ?_
  refine mV_aload f7_init_46 rfl ?_
  refine mV_push f7_init_47 ?_
  refine mV_putIX f7_init_49 (by decide) kk_45 rfl rfl (evI_42) ?_
  refine mV_aload f7_init_52 rfl ?_
  refine mV_push f7_init_53 ?_
  refine mV_putIX f7_init_54 (by decide) kk_45 rfl rfl (evI_43) ?_
  refine mV_aload f7_init_57 rfl ?_
  refine mV_push f7_init_58 ?_
  refine mV_putIX f7_init_59 (by decide) kk_45 rfl rfl (evI_44) ?_
  refine mV_aload f7_init_62 rfl ?_
  refine mV_push f7_init_63 ?_
  refine mV_putIX f7_init_64 (by decide) kk_45 rfl rfl (evI_45) ?_
  refine mV_aload f7_init_67 rfl ?_
  refine mV_push f7_init_68 ?_
  refine mV_putIX f7_init_69 (by decide) kk_45 rfl rfl (evI_46) ?_
  refine mV_aload f7_init_72 rfl ?_
  refine mV_push f7_init_73 ?_
  refine mV_putIX f7_init_74 (by decide) kk_45 rfl rfl (evI_47) ?_
  refine mV_aload f7_init_77 rfl ?_
  refine mV_push f7_init_78 ?_
  refine mV_putIX f7_init_79 (by decide) kk_45 rfl rfl (evI_48) ?_
  exact mV_vret rfl f7_init_82 (mRet_ok _ _ _ _ _)
set_option maxHeartbeats 4000000 in
set_option maxRecDepth 100000 in
theorem cc12_0_init (X : Nat × (Nat → Int32)) : mC X m0_init 1 6 54 [.ref 50] 51 KK (IQ 49) (PQ 50) (mRet none 57 KK (IQ 51) (PQ 56)) := by
  refine mC_of (L0 := [.ref 50]) rfl (Nat.le_of_ble_eq_true rfl) ?_
  refine mV_aload f0_init_0 rfl ?_
  refine mV_objInit f0_init_1 ol0_3 ob_i ob_c (Nat.le_of_ble_eq_true rfl) ?_
  refine mV_aload f0_init_4 rfl ?_
  refine mV_push f0_init_5 ?_
  refine mV_newaX (n' := 52) (N := 12) f0_init_7 rfl rfl (by decide) (by decide) (by decide) (by decide) (by decide) ?_
  refine mV_putPX f0_init_9 (by decide) kk_50 rfl (evP_50) ?_
  refine mV_aload f0_init_12 rfl ?_
  refine mV_push f0_init_13 ?_
  refine mV_newaX (n' := 53) (N := 12) f0_init_15 rfl rfl (by decide) (by decide) (by decide) (by decide) (by decide) ?_
  refine mV_putPX f0_init_17 (by decide) kk_50 rfl (evP_51) ?_
  refine mV_aload f0_init_20 rfl ?_
  refine mV_push f0_init_21 ?_
  refine mV_newaX (n' := 54) (N := 12) f0_init_23 rfl rfl (by decide) (by decide) (by decide) (by decide) (by decide) ?_
  refine mV_putPX f0_init_25 (by decide) kk_50 rfl (evP_52) ?_
  refine mV_aload f0_init_28 rfl ?_
  refine mV_push f0_init_29 ?_
  refine mV_newaX (n' := 55) (N := 6) f0_init_31 rfl rfl (by decide) (by decide) (by decide) (by decide) (by decide) ?_
  refine mV_putPX f0_init_33 (by decide) kk_50 rfl (evP_53) ?_
  refine mV_aload f0_init_36 rfl ?_
  refine mV_push f0_init_37 ?_
  refine mV_newaX (n' := 56) (N := 6) f0_init_39 rfl rfl (by decide) (by decide) (by decide) (by decide) (by decide) ?_
  refine mV_putPX f0_init_41 (by decide) kk_50 rfl (evP_54) ?_
  refine mV_aload f0_init_44 rfl ?_
  refine mV_push f0_init_45 ?_
  refine mV_newaX (n' := 57) (N := 6) f0_init_47 rfl rfl (by decide) (by decide) (by decide) (by decide) (by decide) ?_
  refine mV_putPX f0_init_49 (by decide) kk_50 rfl (evP_55) ?_
  refine mV_aload f0_init_52 rfl ?_
  refine mV_push f0_init_53 ?_
  refine mV_putIX f0_init_54 (by decide) kk_50 rfl rfl (evI_49) ?_
  refine mV_aload f0_init_57 rfl ?_
  refine mV_push f0_init_58 ?_
  refine mV_putIX f0_init_59 (by decide) kk_50 rfl rfl (evI_50) ?_
  exact mV_vret rfl f0_init_62 (mRet_ok _ _ _ _ _)
set_option maxHeartbeats 4000000 in
set_option maxRecDepth 100000 in
theorem cc13_6_init (X : Nat × (Nat → Int32)) : mC X m6_init 1 2 544 [.ref 57, .int 400] 58 KK (IQ 51) (PQ 57) (mRet none 60 KK (IQ 53) (PQ 59)) := by
  refine mC_of (L0 := [.ref 57, .int 400]) rfl (Nat.le_of_ble_eq_true rfl) ?_
  refine mV_aload f6_init_0 rfl ?_
  refine mV_objInit f6_init_1 ol6_3 ob_i ob_c (Nat.le_of_ble_eq_true rfl) ?_
  refine mV_aload f6_init_4 rfl ?_
  refine mV_push f6_init_5 ?_
  refine mV_newaX (n' := 59) (N := 144) f6_init_8 rfl rfl (by decide) (by decide) (by decide) (by decide) (by decide) ?_
  refine mV_putPX f6_init_10 (by decide) kk_57 rfl (evP_57) ?_
  refine mV_aload f6_init_13 rfl ?_
  refine mV_push f6_init_14 ?_
  refine mV_putIX f6_init_15 (by decide) kk_57 rfl rfl (evI_51) ?_
  refine mV_aload f6_init_18 rfl ?_
  refine mV_push f6_init_19 ?_
  refine mV_putIX f6_init_20 (by decide) kk_57 rfl rfl (evI_52) ?_
  refine mV_aload f6_init_23 rfl ?_
  refine mV_push f6_init_24 ?_
  refine mV_iload f6_init_25 rfl ?_
  refine mV_maxC fm6_init_26 (Nat.le_of_ble_eq_true rfl) ?_
  refine mV_as 400 (by decide) ?_
  refine mV_newaX (n' := 60) (N := 400) f6_init_29 rfl rfl (by decide) (by decide) (by decide) (by decide) (by decide) ?_
  refine mV_putPX f6_init_31 (by decide) kk_57 rfl (evP_58) ?_
  exact mV_vret rfl f6_init_34 (mRet_ok _ _ _ _ _)
set_option maxHeartbeats 4000000 in
set_option maxRecDepth 100000 in
theorem cc14_6_init (X : Nat × (Nat → Int32)) : mC X m6_init 1 2 144 [.ref 60, .int 0] 61 KK (IQ 53) (PQ 60) (mRet none 63 KK (IQ 55) (PQ 62)) := by
  refine mC_of (L0 := [.ref 60, .int 0]) rfl (Nat.le_of_ble_eq_true rfl) ?_
  refine mV_aload f6_init_0 rfl ?_
  refine mV_objInit f6_init_1 ol6_3 ob_i ob_c (Nat.le_of_ble_eq_true rfl) ?_
  refine mV_aload f6_init_4 rfl ?_
  refine mV_push f6_init_5 ?_
  refine mV_newaX (n' := 62) (N := 144) f6_init_8 rfl rfl (by decide) (by decide) (by decide) (by decide) (by decide) ?_
  refine mV_putPX f6_init_10 (by decide) kk_60 rfl (evP_60) ?_
  refine mV_aload f6_init_13 rfl ?_
  refine mV_push f6_init_14 ?_
  refine mV_putIX f6_init_15 (by decide) kk_60 rfl rfl (evI_53) ?_
  refine mV_aload f6_init_18 rfl ?_
  refine mV_push f6_init_19 ?_
  refine mV_putIX f6_init_20 (by decide) kk_60 rfl rfl (evI_54) ?_
  refine mV_aload f6_init_23 rfl ?_
  refine mV_push f6_init_24 ?_
  refine mV_iload f6_init_25 rfl ?_
  refine mV_maxC fm6_init_26 (Nat.le_of_ble_eq_true rfl) ?_
  refine mV_as 0 (by decide) ?_
  refine mV_newaX (n' := 63) (N := 0) f6_init_29 rfl rfl (by decide) (by decide) (by decide) (by decide) (by decide) ?_
  refine mV_putPX f6_init_31 (by decide) kk_60 rfl (evP_61) ?_
  exact mV_vret rfl f6_init_34 (mRet_ok _ _ _ _ _)
set_option maxHeartbeats 4000000 in
set_option maxRecDepth 100000 in
theorem cc15_6_init (X : Nat × (Nat → Int32)) : mC X m6_init 1 2 144 [.ref 63, .int 0] 64 KK (IQ 55) (PQ 63) (mRet none 66 KK (IQ 57) (PQ 65)) := by
  refine mC_of (L0 := [.ref 63, .int 0]) rfl (Nat.le_of_ble_eq_true rfl) ?_
  refine mV_aload f6_init_0 rfl ?_
  refine mV_objInit f6_init_1 ol6_3 ob_i ob_c (Nat.le_of_ble_eq_true rfl) ?_
  refine mV_aload f6_init_4 rfl ?_
  refine mV_push f6_init_5 ?_
  refine mV_newaX (n' := 65) (N := 144) f6_init_8 rfl rfl (by decide) (by decide) (by decide) (by decide) (by decide) ?_
  refine mV_putPX f6_init_10 (by decide) kk_63 rfl (evP_63) ?_
  refine mV_aload f6_init_13 rfl ?_
  refine mV_push f6_init_14 ?_
  refine mV_putIX f6_init_15 (by decide) kk_63 rfl rfl (evI_55) ?_
  refine mV_aload f6_init_18 rfl ?_
  refine mV_push f6_init_19 ?_
  refine mV_putIX f6_init_20 (by decide) kk_63 rfl rfl (evI_56) ?_
  refine mV_aload f6_init_23 rfl ?_
  refine mV_push f6_init_24 ?_
  refine mV_iload f6_init_25 rfl ?_
  refine mV_maxC fm6_init_26 (Nat.le_of_ble_eq_true rfl) ?_
  refine mV_as 0 (by decide) ?_
  refine mV_newaX (n' := 66) (N := 0) f6_init_29 rfl rfl (by decide) (by decide) (by decide) (by decide) (by decide) ?_
  refine mV_putPX f6_init_31 (by decide) kk_63 rfl (evP_64) ?_
  exact mV_vret rfl f6_init_34 (mRet_ok _ _ _ _ _)
set_option maxHeartbeats 4000000 in
set_option maxRecDepth 100000 in
theorem cc16_6_init (X : Nat × (Nat → Int32)) : mC X m6_init 1 2 144 [.ref 66, .int 0] 67 KK (IQ 57) (PQ 66) (mRet none 69 KK (IQ 59) (PQ 68)) := by
  refine mC_of (L0 := [.ref 66, .int 0]) rfl (Nat.le_of_ble_eq_true rfl) ?_
  refine mV_aload f6_init_0 rfl ?_
  refine mV_objInit f6_init_1 ol6_3 ob_i ob_c (Nat.le_of_ble_eq_true rfl) ?_
  refine mV_aload f6_init_4 rfl ?_
  refine mV_push f6_init_5 ?_
  refine mV_newaX (n' := 68) (N := 144) f6_init_8 rfl rfl (by decide) (by decide) (by decide) (by decide) (by decide) ?_
  refine mV_putPX f6_init_10 (by decide) kk_66 rfl (evP_66) ?_
  refine mV_aload f6_init_13 rfl ?_
  refine mV_push f6_init_14 ?_
  refine mV_putIX f6_init_15 (by decide) kk_66 rfl rfl (evI_57) ?_
  refine mV_aload f6_init_18 rfl ?_
  refine mV_push f6_init_19 ?_
  refine mV_putIX f6_init_20 (by decide) kk_66 rfl rfl (evI_58) ?_
  refine mV_aload f6_init_23 rfl ?_
  refine mV_push f6_init_24 ?_
  refine mV_iload f6_init_25 rfl ?_
  refine mV_maxC fm6_init_26 (Nat.le_of_ble_eq_true rfl) ?_
  refine mV_as 0 (by decide) ?_
  refine mV_newaX (n' := 69) (N := 0) f6_init_29 rfl rfl (by decide) (by decide) (by decide) (by decide) (by decide) ?_
  refine mV_putPX f6_init_31 (by decide) kk_66 rfl (evP_67) ?_
  exact mV_vret rfl f6_init_34 (mRet_ok _ _ _ _ _)
set_option maxHeartbeats 4000000 in
set_option maxRecDepth 100000 in
theorem cc17_1_init (X : Nat × (Nat → Int32)) : mC X m1_init 1 6 131 [.ref 69] 70 KK (IQ 59) (PQ 69) (mRet none 76 KK (IQ 69) (PQ 75)) := by
  refine mC_of (L0 := [.ref 69]) rfl (Nat.le_of_ble_eq_true rfl) ?_
  refine mV_aload f1_init_0 rfl ?_
  refine mV_objInit f1_init_1 ol1_3 ob_i ob_c (Nat.le_of_ble_eq_true rfl) ?_
  refine mV_aload f1_init_4 rfl ?_
  refine mV_push f1_init_5 ?_
  refine mV_newaX (n' := 71) (N := 16) f1_init_7 rfl rfl (by decide) (by decide) (by decide) (by decide) (by decide) ?_
  refine mV_putPX f1_init_9 (by decide) kk_69 rfl (evP_69) ?_
  refine mV_aload f1_init_12 rfl ?_
  refine mV_push f1_init_13 ?_
  refine mV_newaX (n' := 72) (N := 8) f1_init_15 rfl rfl (by decide) (by decide) (by decide) (by decide) (by decide) ?_
  refine mV_dup f1_init_17 rfl ?_
  refine mV_push f1_init_18 ?_
  refine mV_push f1_init_19 ?_
  refine mV_stoX (k := 0) f1_init_20 (by decide) kk_71 (by decide) (evI_59) ?_
  refine mV_dup f1_init_21 rfl ?_
  refine mV_push f1_init_22 ?_
  refine mV_push f1_init_23 ?_
  refine mV_stoX (k := 1) f1_init_24 (by decide) kk_71 (by decide) (evI_60) ?_
  refine mV_dup f1_init_25 rfl ?_
  refine mV_push f1_init_26 ?_
  refine mV_push f1_init_27 ?_
  refine mV_stoX (k := 2) f1_init_28 (by decide) kk_71 (by decide) (evI_61) ?_
  refine mV_dup f1_init_29 rfl ?_
  refine mV_push f1_init_30 ?_
  refine mV_push f1_init_31 ?_
  refine mV_stoX (k := 3) f1_init_32 (by decide) kk_71 (by decide) (evI_62) ?_
  refine mV_dup f1_init_33 rfl ?_
  refine mV_push f1_init_34 ?_
  refine mV_push f1_init_35 ?_
  refine mV_stoX (k := 4) f1_init_36 (by decide) kk_71 (by decide) (evI_63) ?_
  refine mV_dup f1_init_37 rfl ?_
  refine mV_push f1_init_38 ?_
  refine mV_push f1_init_39 ?_
  refine mV_stoX (k := 5) f1_init_40 (by decide) kk_71 (by decide) (evI_64) ?_
  refine mV_dup f1_init_41 rfl ?_
  refine mV_push f1_init_42 ?_
  refine mV_push f1_init_44 ?_
  refine mV_stoX (k := 6) f1_init_45 (by decide) kk_71 (by decide) (evI_65) ?_
  refine mV_dup f1_init_46 rfl ?_
  refine mV_push f1_init_47 ?_
  refine mV_push f1_init_49 ?_
  refine mV_stoX (k := 7) f1_init_50 (by decide) kk_71 (by decide) (evI_66) ?_
  refine mV_putPX f1_init_51 (by decide) kk_69 rfl (evP_70) ?_
  refine mV_aload f1_init_54 rfl ?_
  refine mV_push f1_init_55 ?_
  refine mV_newaX (n' := 73) (N := 9) f1_init_57 rfl rfl (by decide) (by decide) (by decide) (by decide) (by decide) ?_
  refine mV_putPX f1_init_59 (by decide) kk_69 rfl (evP_71) ?_
  refine mV_aload f1_init_62 rfl ?_
  refine mV_push f1_init_63 ?_
  refine mV_newaX (n' := 74) (N := 9) f1_init_65 rfl rfl (by decide) (by decide) (by decide) (by decide) (by decide) ?_
  refine mV_putPX f1_init_67 (by decide) kk_69 rfl (evP_72) ?_
  refine mV_aload f1_init_70 rfl ?_
  refine mV_push f1_init_71 ?_
  refine mV_newaX (n' := 75) (N := 9) f1_init_73 rfl rfl (by decide) (by decide) (by decide) (by decide) (by decide) ?_
  refine mV_putPX f1_init_75 (by decide) kk_69 rfl (evP_73) ?_
  refine mV_aload f1_init_78 rfl ?_
  refine mV_push f1_init_79 ?_
  refine mV_putIX f1_init_80 (by decide) kk_69 rfl rfl (evI_67) ?_
  refine mV_aload f1_init_83 rfl ?_
  refine mV_push f1_init_84 ?_
  refine mV_putIX f1_init_85 (by decide) kk_69 rfl rfl (evI_68) ?_
  refine mV_aload f1_init_88 rfl ?_
  refine mV_push f1_init_89 ?_
  refine mV_newaX (n' := 76) (N := 80) f1_init_91 rfl rfl (by decide) (by decide) (by decide) (by decide) (by decide) ?_
  refine mV_putPX f1_init_93 (by decide) kk_69 rfl (evP_74) ?_
  exact mV_vret rfl f1_init_96 (mRet_ok _ _ _ _ _)
set_option maxHeartbeats 4000000 in
set_option maxRecDepth 100000 in
theorem cc18_8_init (X : Nat × (Nat → Int32)) : mC X m8_init 2 32 1844 [.ref 44] 45 KK (IQ 40) (PQ 45) (mRet none 77 KK (IQ 69) (PQ 77)) := by
  refine mC_of (L0 := [.ref 44]) rfl (Nat.le_of_ble_eq_true rfl) ?_
  refine mV_aload f8_init_0 rfl ?_
  refine mV_objInit f8_init_1 ol8_3 ob_i ob_c (Nat.le_of_ble_eq_true rfl) ?_
  refine mV_aload f8_init_4 rfl ?_
  refine mV_newX (n' := 46) f8_init_5 rfl rfl (by decide) (by decide) ?_
  refine mV_dup f8_init_8 rfl ?_
  refine mV_cin (mc := 4) (ms := 38) (bc' := 27) (bs' := 1793) (host := "WeepingPiano") f8_init_9 (by decide) tg_m7_init (mC_deep (cc11_7_init X) (by decide)) rfl rfl (Nat.le_of_ble_eq_true rfl) rfl rfl ?_
  refine mV_putPX f8_init_12 (by decide) kk_44 rfl (evP_49) ?_
  refine mV_aload f8_init_15 rfl ?_
  refine mV_newX (n' := 51) f8_init_16 rfl rfl (by decide) (by decide) ?_
  refine mV_dup f8_init_19 rfl ?_
  refine mV_cin (mc := 6) (ms := 54) (bc' := 20) (bs' := 1731) (host := "WeepingPiano") f8_init_20 (by decide) tg_m0_init (mC_deep (cc12_0_init X) (by decide)) rfl rfl (Nat.le_of_ble_eq_true rfl) rfl rfl ?_
  refine mV_putPX f8_init_23 (by decide) kk_44 rfl (evP_56) ?_
  refine mV_aload f8_init_26 rfl ?_
  refine mV_newX (n' := 58) f8_init_27 rfl rfl (by decide) (by decide) ?_
  refine mV_dup f8_init_30 rfl ?_
  refine mV_push f8_init_31 ?_
  refine mV_ci (mc := 2) (ms := 544) (bc' := 17) (bs' := 1183) ⟨_, f8_init_34, ml8_27⟩ tg_m6_init (mC_deep (cc13_6_init X) (by decide)) rfl rfl (Nat.le_of_ble_eq_true rfl) rfl rfl ?_
  refine mV_putPX f8_init_37 (by decide) kk_44 rfl (evP_59) ?_
  refine mV_aload f8_init_40 rfl ?_
  refine mV_newX (n' := 61) f8_init_41 rfl rfl (by decide) (by decide) ?_
  refine mV_dup f8_init_44 rfl ?_
  refine mV_push f8_init_45 ?_
  refine mV_ci (mc := 2) (ms := 144) (bc' := 14) (bs' := 1035) ⟨_, f8_init_46, ml8_27⟩ tg_m6_init (mC_deep (cc14_6_init X) (by decide)) rfl rfl (Nat.le_of_ble_eq_true rfl) rfl rfl ?_
  refine mV_putPX f8_init_49 (by decide) kk_44 rfl (evP_62) ?_
  refine mV_aload f8_init_52 rfl ?_
  refine mV_newX (n' := 64) f8_init_53 rfl rfl (by decide) (by decide) ?_
  refine mV_dup f8_init_56 rfl ?_
  refine mV_push f8_init_57 ?_
  refine mV_ci (mc := 2) (ms := 144) (bc' := 11) (bs' := 887) ⟨_, f8_init_58, ml8_27⟩ tg_m6_init (mC_deep (cc15_6_init X) (by decide)) rfl rfl (Nat.le_of_ble_eq_true rfl) rfl rfl ?_
  refine mV_putPX f8_init_61 (by decide) kk_44 rfl (evP_65) ?_
  refine mV_aload f8_init_64 rfl ?_
  refine mV_newX (n' := 67) f8_init_65 rfl rfl (by decide) (by decide) ?_
  refine mV_dup f8_init_68 rfl ?_
  refine mV_push f8_init_69 ?_
  refine mV_ci (mc := 2) (ms := 144) (bc' := 8) (bs' := 739) ⟨_, f8_init_70, ml8_27⟩ tg_m6_init (mC_deep (cc16_6_init X) (by decide)) rfl rfl (Nat.le_of_ble_eq_true rfl) rfl rfl ?_
  refine mV_putPX f8_init_73 (by decide) kk_44 rfl (evP_68) ?_
  refine mV_aload f8_init_76 rfl ?_
  refine mV_newX (n' := 70) f8_init_77 rfl rfl (by decide) (by decide) ?_
  refine mV_dup f8_init_80 rfl ?_
  refine mV_cin (mc := 6) (ms := 131) (bc' := 1) (bs' := 600) (host := "WeepingPiano") f8_init_81 (by decide) tg_m1_init (mC_deep (cc17_1_init X) (by decide)) rfl rfl (Nat.le_of_ble_eq_true rfl) rfl rfl ?_
  refine mV_putPX f8_init_84 (by decide) kk_44 rfl (evP_75) ?_
  refine mV_aload f8_init_87 rfl ?_
  refine mV_push f8_init_88 ?_
  refine mV_newaX (n' := 77) (N := 600) f8_init_91 rfl rfl (by decide) (by decide) (by decide) (by decide) (by decide) ?_
  refine mV_putPX f8_init_93 (by decide) kk_44 rfl (evP_76) ?_
  exact mV_vret rfl f8_init_96 (mRet_ok _ _ _ _ _)
set_option maxHeartbeats 4000000 in
set_option maxRecDepth 100000 in
theorem cc19_7_init (X : Nat × (Nat → Int32)) : mC X m7_init 1 4 38 [.ref 79] 80 KK (IQ 72) (PQ 79) (mRet none 84 KK (IQ 81) (PQ 83)) := by
  refine mC_of (L0 := [.ref 79]) rfl (Nat.le_of_ble_eq_true rfl) ?_
  refine mV_aload f7_init_0 rfl ?_
  refine mV_objInit f7_init_1 ol7_3 ob_i ob_c (Nat.le_of_ble_eq_true rfl) ?_
  refine mV_aload f7_init_4 rfl ?_
  refine mV_push f7_init_5 ?_
  refine mV_newaX (n' := 81) (N := 12) f7_init_7 rfl rfl (by decide) (by decide) (by decide) (by decide) (by decide) ?_
  refine mV_putPX f7_init_9 (by decide) kk_79 rfl (evP_79) ?_
  refine mV_aload f7_init_12 rfl ?_
  refine mV_push f7_init_13 ?_
  refine mV_newaX (n' := 82) (N := 12) f7_init_15 rfl rfl (by decide) (by decide) (by decide) (by decide) (by decide) ?_
  refine mV_putPX f7_init_17 (by decide) kk_79 rfl (evP_80) ?_
  refine mV_aload f7_init_20 rfl ?_
  refine mV_push f7_init_21 ?_
  refine mV_newaX (n' := 83) (N := 6) f7_init_23 rfl rfl (by decide) (by decide) (by decide) (by decide) (by decide) ?_
  refine mV_putPX f7_init_25 (by decide) kk_79 rfl (evP_81) ?_
  refine mV_aload f7_init_28 rfl ?_
  refine mV_push f7_init_29 ?_
  refine mV_newaX (n' := 84) (N := 8) f7_init_31 rfl rfl (by decide) (by decide) (by decide) (by decide) (by decide) ?_
  refine mV_putPX f7_init_33 (by decide) kk_79 rfl (evP_82) ?_
  refine mV_aload f7_init_36 rfl ?_
  refine mV_push f7_init_37 ?_
  refine mV_putIX f7_init_38 (by decide) kk_79 rfl rfl (evI_72) ?_
  refine mV_aload f7_init_41 rfl ?_
  refine mV_push f7_init_42 ?_
  refine mV_putIX f7_init_43 (by decide) kk_79 rfl rfl (evI_73) ?_
  refine mV_aload f7_init_46 rfl ?_
  refine mV_push f7_init_47 ?_
  refine mV_putIX f7_init_49 (by decide) kk_79 rfl rfl (evI_74) ?_
  refine mV_aload f7_init_52 rfl ?_
  refine mV_push f7_init_53 ?_
  refine mV_putIX f7_init_54 (by decide) kk_79 rfl rfl (evI_75) ?_
  refine mV_aload f7_init_57 rfl ?_
  refine mV_push f7_init_58 ?_
  refine mV_putIX f7_init_59 (by decide) kk_79 rfl rfl (evI_76) ?_
  refine mV_aload f7_init_62 rfl ?_
  refine mV_push f7_init_63 ?_
  refine mV_putIX f7_init_64 (by decide) kk_79 rfl rfl (evI_77) ?_
  refine mV_aload f7_init_67 rfl ?_
  refine mV_push f7_init_68 ?_
  refine mV_putIX f7_init_69 (by decide) kk_79 rfl rfl (evI_78) ?_
  refine mV_aload f7_init_72 rfl ?_
  refine mV_push f7_init_73 ?_
  refine mV_putIX f7_init_74 (by decide) kk_79 rfl rfl (evI_79) ?_
  refine mV_aload f7_init_77 rfl ?_
  refine mV_push f7_init_78 ?_
  refine mV_putIX f7_init_79 (by decide) kk_79 rfl rfl (evI_80) ?_
  exact mV_vret rfl f7_init_82 (mRet_ok _ _ _ _ _)
set_option maxHeartbeats 4000000 in
set_option maxRecDepth 100000 in
theorem cc20_7_init (X : Nat × (Nat → Int32)) : mC X m7_init 1 4 38 [.ref 84] 85 KK (IQ 81) (PQ 84) (mRet none 89 KK (IQ 90) (PQ 88)) := by
  refine mC_of (L0 := [.ref 84]) rfl (Nat.le_of_ble_eq_true rfl) ?_
  refine mV_aload f7_init_0 rfl ?_
  refine mV_objInit f7_init_1 ol7_3 ob_i ob_c (Nat.le_of_ble_eq_true rfl) ?_
  refine mV_aload f7_init_4 rfl ?_
  refine mV_push f7_init_5 ?_
  refine mV_newaX (n' := 86) (N := 12) f7_init_7 rfl rfl (by decide) (by decide) (by decide) (by decide) (by decide) ?_
  refine mV_putPX f7_init_9 (by decide) kk_84 rfl (evP_84) ?_
  refine mV_aload f7_init_12 rfl ?_
  refine mV_push f7_init_13 ?_
  refine mV_newaX (n' := 87) (N := 12) f7_init_15 rfl rfl (by decide) (by decide) (by decide) (by decide) (by decide) ?_
  refine mV_putPX f7_init_17 (by decide) kk_84 rfl (evP_85) ?_
  refine mV_aload f7_init_20 rfl ?_
  refine mV_push f7_init_21 ?_
  refine mV_newaX (n' := 88) (N := 6) f7_init_23 rfl rfl (by decide) (by decide) (by decide) (by decide) (by decide) ?_
  refine mV_putPX f7_init_25 (by decide) kk_84 rfl (evP_86) ?_
  refine mV_aload f7_init_28 rfl ?_
  refine mV_push f7_init_29 ?_
  refine mV_newaX (n' := 89) (N := 8) f7_init_31 rfl rfl (by decide) (by decide) (by decide) (by decide) (by decide) ?_
  refine mV_putPX f7_init_33 (by decide) kk_84 rfl (evP_87) ?_
  refine mV_aload f7_init_36 rfl ?_
  refine mV_push f7_init_37 ?_
  refine mV_putIX f7_init_38 (by decide) kk_84 rfl rfl (evI_81) ?_
  refine mV_aload f7_init_41 rfl ?_
  refine mV_push f7_init_42 ?_
  refine mV_putIX f7_init_43 (by decide) kk_84 rfl rfl (evI_82) ?_
  refine mV_aload f7_init_46 rfl ?_
  refine mV_push f7_init_47 ?_
  refine mV_putIX f7_init_49 (by decide) kk_84 rfl rfl (evI_83) ?_
  refine mV_aload f7_init_52 rfl ?_
  refine mV_push f7_init_53 ?_
  refine mV_putIX f7_init_54 (by decide) kk_84 rfl rfl (evI_84) ?_
  refine mV_aload f7_init_57 rfl ?_
  refine mV_push f7_init_58 ?_
  refine mV_putIX f7_init_59 (by decide) kk_84 rfl rfl (evI_85) ?_
  refine mV_aload f7_init_62 rfl ?_
  refine mV_push f7_init_63 ?_
  refine mV_putIX f7_init_64 (by decide) kk_84 rfl rfl (evI_86) ?_
  refine mV_aload f7_init_67 rfl ?_
  refine mV_push f7_init_68 ?_
  refine mV_putIX f7_init_69 (by decide) kk_84 rfl rfl (evI_87) ?_
  refine mV_aload f7_init_72 rfl ?_
  refine mV_push f7_init_73 ?_
  refine mV_putIX f7_init_74 (by decide) kk_84 rfl rfl (evI_88) ?_
  refine mV_aload f7_init_77 rfl ?_
  refine mV_push f7_init_78 ?_
  refine mV_putIX f7_init_79 (by decide) kk_84 rfl rfl (evI_89) ?_
  exact mV_vret rfl f7_init_82 (mRet_ok _ _ _ _ _)
set_option maxHeartbeats 4000000 in
set_option maxRecDepth 100000 in
theorem cc21_7_init (X : Nat × (Nat → Int32)) : mC X m7_init 1 4 38 [.ref 89] 90 KK (IQ 90) (PQ 89) (mRet none 94 KK (IQ 99) (PQ 93)) := by
  refine mC_of (L0 := [.ref 89]) rfl (Nat.le_of_ble_eq_true rfl) ?_
  refine mV_aload f7_init_0 rfl ?_
  refine mV_objInit f7_init_1 ol7_3 ob_i ob_c (Nat.le_of_ble_eq_true rfl) ?_
  refine mV_aload f7_init_4 rfl ?_
  refine mV_push f7_init_5 ?_
  refine mV_newaX (n' := 91) (N := 12) f7_init_7 rfl rfl (by decide) (by decide) (by decide) (by decide) (by decide) ?_
  refine mV_putPX f7_init_9 (by decide) kk_89 rfl (evP_89) ?_
  refine mV_aload f7_init_12 rfl ?_
  refine mV_push f7_init_13 ?_
  refine mV_newaX (n' := 92) (N := 12) f7_init_15 rfl rfl (by decide) (by decide) (by decide) (by decide) (by decide) ?_
  refine mV_putPX f7_init_17 (by decide) kk_89 rfl (evP_90) ?_
  refine mV_aload f7_init_20 rfl ?_
  refine mV_push f7_init_21 ?_
  refine mV_newaX (n' := 93) (N := 6) f7_init_23 rfl rfl (by decide) (by decide) (by decide) (by decide) (by decide) ?_
  refine mV_putPX f7_init_25 (by decide) kk_89 rfl (evP_91) ?_
  refine mV_aload f7_init_28 rfl ?_
  refine mV_push f7_init_29 ?_
  refine mV_newaX (n' := 94) (N := 8) f7_init_31 rfl rfl (by decide) (by decide) (by decide) (by decide) (by decide) ?_
  refine mV_putPX f7_init_33 (by decide) kk_89 rfl (evP_92) ?_
  refine mV_aload f7_init_36 rfl ?_
  refine mV_push f7_init_37 ?_
  refine mV_putIX f7_init_38 (by decide) kk_89 rfl rfl (evI_90) ?_
  refine mV_aload f7_init_41 rfl ?_
  refine mV_push f7_init_42 ?_
  refine mV_putIX f7_init_43 (by decide) kk_89 rfl rfl (evI_91) ?_
  refine mV_aload f7_init_46 rfl ?_
  refine mV_push f7_init_47 ?_
  refine mV_putIX f7_init_49 (by decide) kk_89 rfl rfl (evI_92) ?_
  refine mV_aload f7_init_52 rfl ?_
  refine mV_push f7_init_53 ?_
  refine mV_putIX f7_init_54 (by decide) kk_89 rfl rfl (evI_93) ?_
  refine mV_aload f7_init_57 rfl ?_
  refine mV_push f7_init_58 ?_
  refine mV_putIX f7_init_59 (by decide) kk_89 rfl rfl (evI_94) ?_
  refine mV_aload f7_init_62 rfl ?_
  refine mV_push f7_init_63 ?_
  refine mV_putIX f7_init_64 (by decide) kk_89 rfl rfl (evI_95) ?_
  refine mV_aload f7_init_67 rfl ?_
  refine mV_push f7_init_68 ?_
  refine mV_putIX f7_init_69 (by decide) kk_89 rfl rfl (evI_96) ?_
  refine mV_aload f7_init_72 rfl ?_
  refine mV_push f7_init_73 ?_
  refine mV_putIX f7_init_74 (by decide) kk_89 rfl rfl (evI_97) ?_
  refine mV_aload f7_init_77 rfl ?_
  refine mV_push f7_init_78 ?_
  refine mV_putIX f7_init_79 (by decide) kk_89 rfl rfl (evI_98) ?_
  exact mV_vret rfl f7_init_82 (mRet_ok _ _ _ _ _)
set_option maxHeartbeats 4000000 in
set_option maxRecDepth 100000 in
theorem cc22_7_init (X : Nat × (Nat → Int32)) : mC X m7_init 1 4 38 [.ref 94] 95 KK (IQ 99) (PQ 94) (mRet none 99 KK (IQ 108) (PQ 98)) := by
  refine mC_of (L0 := [.ref 94]) rfl (Nat.le_of_ble_eq_true rfl) ?_
  refine mV_aload f7_init_0 rfl ?_
  refine mV_objInit f7_init_1 ol7_3 ob_i ob_c (Nat.le_of_ble_eq_true rfl) ?_
  refine mV_aload f7_init_4 rfl ?_
  refine mV_push f7_init_5 ?_
  refine mV_newaX (n' := 96) (N := 12) f7_init_7 rfl rfl (by decide) (by decide) (by decide) (by decide) (by decide) ?_
  refine mV_putPX f7_init_9 (by decide) kk_94 rfl (evP_94) ?_
  refine mV_aload f7_init_12 rfl ?_
  refine mV_push f7_init_13 ?_
  refine mV_newaX (n' := 97) (N := 12) f7_init_15 rfl rfl (by decide) (by decide) (by decide) (by decide) (by decide) ?_
  refine mV_putPX f7_init_17 (by decide) kk_94 rfl (evP_95) ?_
  refine mV_aload f7_init_20 rfl ?_
  refine mV_push f7_init_21 ?_
  refine mV_newaX (n' := 98) (N := 6) f7_init_23 rfl rfl (by decide) (by decide) (by decide) (by decide) (by decide) ?_
  refine mV_putPX f7_init_25 (by decide) kk_94 rfl (evP_96) ?_
  refine mV_aload f7_init_28 rfl ?_
  refine mV_push f7_init_29 ?_
  refine mV_newaX (n' := 99) (N := 8) f7_init_31 rfl rfl (by decide) (by decide) (by decide) (by decide) (by decide) ?_
  refine mV_putPX f7_init_33 (by decide) kk_94 rfl (evP_97) ?_
  refine mV_aload f7_init_36 rfl ?_
  refine mV_push f7_init_37 ?_
  refine mV_putIX f7_init_38 (by decide) kk_94 rfl rfl (evI_99) ?_
  refine mV_aload f7_init_41 rfl ?_
  refine mV_push f7_init_42 ?_
  refine mV_putIX f7_init_43 (by decide) kk_94 rfl rfl (evI_100) ?_
  refine mV_aload f7_init_46 rfl ?_
  refine mV_push f7_init_47 ?_
  refine mV_putIX f7_init_49 (by decide) kk_94 rfl rfl (evI_101) ?_
  refine mV_aload f7_init_52 rfl ?_
  refine mV_push f7_init_53 ?_
  refine mV_putIX f7_init_54 (by decide) kk_94 rfl rfl (evI_102) ?_
  refine mV_aload f7_init_57 rfl ?_
  refine mV_push f7_init_58 ?_
  refine mV_putIX f7_init_59 (by decide) kk_94 rfl rfl (evI_103) ?_
  refine mV_aload f7_init_62 rfl ?_
  refine mV_push f7_init_63 ?_
  refine mV_putIX f7_init_64 (by decide) kk_94 rfl rfl (evI_104) ?_
  refine mV_aload f7_init_67 rfl ?_
  refine mV_push f7_init_68 ?_
  refine mV_putIX f7_init_69 (by decide) kk_94 rfl rfl (evI_105) ?_
  refine mV_aload f7_init_72 rfl ?_
  refine mV_push f7_init_73 ?_
  refine mV_putIX f7_init_74 (by decide) kk_94 rfl rfl (evI_106) ?_
  refine mV_aload f7_init_77 rfl ?_
  refine mV_push f7_init_78 ?_
  refine mV_putIX f7_init_79 (by decide) kk_94 rfl rfl (evI_107) ?_
  exact mV_vret rfl f7_init_82 (mRet_ok _ _ _ _ _)
set_option maxHeartbeats 4000000 in
set_option maxRecDepth 100000 in
theorem cc23_7_init (X : Nat × (Nat → Int32)) : mC X m7_init 1 4 38 [.ref 99] 100 KK (IQ 108) (PQ 99) (mRet none 104 KK (IQ 117) (PQ 103)) := by
  refine mC_of (L0 := [.ref 99]) rfl (Nat.le_of_ble_eq_true rfl) ?_
  refine mV_aload f7_init_0 rfl ?_
  refine mV_objInit f7_init_1 ol7_3 ob_i ob_c (Nat.le_of_ble_eq_true rfl) ?_
  refine mV_aload f7_init_4 rfl ?_
  refine mV_push f7_init_5 ?_
  refine mV_newaX (n' := 101) (N := 12) f7_init_7 rfl rfl (by decide) (by decide) (by decide) (by decide) (by decide) ?_
  refine mV_putPX f7_init_9 (by decide) kk_99 rfl (evP_99) ?_
  refine mV_aload f7_init_12 rfl ?_
  refine mV_push f7_init_13 ?_
  refine mV_newaX (n' := 102) (N := 12) f7_init_15 rfl rfl (by decide) (by decide) (by decide) (by decide) (by decide) ?_
  refine mV_putPX f7_init_17 (by decide) kk_99 rfl (evP_100) ?_
  refine mV_aload f7_init_20 rfl ?_
  refine mV_push f7_init_21 ?_
  refine mV_newaX (n' := 103) (N := 6) f7_init_23 rfl rfl (by decide) (by decide) (by decide) (by decide) (by decide) ?_
  refine mV_putPX f7_init_25 (by decide) kk_99 rfl (evP_101) ?_
  refine mV_aload f7_init_28 rfl ?_
  refine mV_push f7_init_29 ?_
  refine mV_newaX (n' := 104) (N := 8) f7_init_31 rfl rfl (by decide) (by decide) (by decide) (by decide) (by decide) ?_
  refine mV_putPX f7_init_33 (by decide) kk_99 rfl (evP_102) ?_
  refine mV_aload f7_init_36 rfl ?_
  refine mV_push f7_init_37 ?_
  refine mV_putIX f7_init_38 (by decide) kk_99 rfl rfl (evI_108) ?_
  refine mV_aload f7_init_41 rfl ?_
  refine mV_push f7_init_42 ?_
  refine mV_putIX f7_init_43 (by decide) kk_99 rfl rfl (evI_109) ?_
  refine mV_aload f7_init_46 rfl ?_
  refine mV_push f7_init_47 ?_
  refine mV_putIX f7_init_49 (by decide) kk_99 rfl rfl (evI_110) ?_
  refine mV_aload f7_init_52 rfl ?_
  refine mV_push f7_init_53 ?_
  refine mV_putIX f7_init_54 (by decide) kk_99 rfl rfl (evI_111) ?_
  refine mV_aload f7_init_57 rfl ?_
  refine mV_push f7_init_58 ?_
  refine mV_putIX f7_init_59 (by decide) kk_99 rfl rfl (evI_112) ?_
  refine mV_aload f7_init_62 rfl ?_
  refine mV_push f7_init_63 ?_
  refine mV_putIX f7_init_64 (by decide) kk_99 rfl rfl (evI_113) ?_
  refine mV_aload f7_init_67 rfl ?_
  refine mV_push f7_init_68 ?_
  refine mV_putIX f7_init_69 (by decide) kk_99 rfl rfl (evI_114) ?_
  refine mV_aload f7_init_72 rfl ?_
  refine mV_push f7_init_73 ?_
  refine mV_putIX f7_init_74 (by decide) kk_99 rfl rfl (evI_115) ?_
  refine mV_aload f7_init_77 rfl ?_
  refine mV_push f7_init_78 ?_
  refine mV_putIX f7_init_79 (by decide) kk_99 rfl rfl (evI_116) ?_
  exact mV_vret rfl f7_init_82 (mRet_ok _ _ _ _ _)
set_option maxHeartbeats 4000000 in
set_option maxRecDepth 100000 in
theorem cc24_7_init (X : Nat × (Nat → Int32)) : mC X m7_init 1 4 38 [.ref 104] 105 KK (IQ 117) (PQ 104) (mRet none 109 KK (IQ 126) (PQ 108)) := by
  refine mC_of (L0 := [.ref 104]) rfl (Nat.le_of_ble_eq_true rfl) ?_
  refine mV_aload f7_init_0 rfl ?_
  refine mV_objInit f7_init_1 ol7_3 ob_i ob_c (Nat.le_of_ble_eq_true rfl) ?_
  refine mV_aload f7_init_4 rfl ?_
  refine mV_push f7_init_5 ?_
  refine mV_newaX (n' := 106) (N := 12) f7_init_7 rfl rfl (by decide) (by decide) (by decide) (by decide) (by decide) ?_
  refine mV_putPX f7_init_9 (by decide) kk_104 rfl (evP_104) ?_
  refine mV_aload f7_init_12 rfl ?_
  refine mV_push f7_init_13 ?_
  refine mV_newaX (n' := 107) (N := 12) f7_init_15 rfl rfl (by decide) (by decide) (by decide) (by decide) (by decide) ?_
  refine mV_putPX f7_init_17 (by decide) kk_104 rfl (evP_105) ?_
  refine mV_aload f7_init_20 rfl ?_
  refine mV_push f7_init_21 ?_
  refine mV_newaX (n' := 108) (N := 6) f7_init_23 rfl rfl (by decide) (by decide) (by decide) (by decide) (by decide) ?_
  refine mV_putPX f7_init_25 (by decide) kk_104 rfl (evP_106) ?_
  refine mV_aload f7_init_28 rfl ?_
  refine mV_push f7_init_29 ?_
  refine mV_newaX (n' := 109) (N := 8) f7_init_31 rfl rfl (by decide) (by decide) (by decide) (by decide) (by decide) ?_
  refine mV_putPX f7_init_33 (by decide) kk_104 rfl (evP_107) ?_
  refine mV_aload f7_init_36 rfl ?_
  refine mV_push f7_init_37 ?_
  refine mV_putIX f7_init_38 (by decide) kk_104 rfl rfl (evI_117) ?_
  refine mV_aload f7_init_41 rfl ?_
  refine mV_push f7_init_42 ?_
  refine mV_putIX f7_init_43 (by decide) kk_104 rfl rfl (evI_118) ?_
  refine mV_aload f7_init_46 rfl ?_
  refine mV_push f7_init_47 ?_
  refine mV_putIX f7_init_49 (by decide) kk_104 rfl rfl (evI_119) ?_
  refine mV_aload f7_init_52 rfl ?_
  refine mV_push f7_init_53 ?_
  refine mV_putIX f7_init_54 (by decide) kk_104 rfl rfl (evI_120) ?_
  refine mV_aload f7_init_57 rfl ?_
  refine mV_push f7_init_58 ?_
  refine mV_putIX f7_init_59 (by decide) kk_104 rfl rfl (evI_121) ?_
  refine mV_aload f7_init_62 rfl ?_
  refine mV_push f7_init_63 ?_
  refine mV_putIX f7_init_64 (by decide) kk_104 rfl rfl (evI_122) ?_
  refine mV_aload f7_init_67 rfl ?_
  refine mV_push f7_init_68 ?_
  refine mV_putIX f7_init_69 (by decide) kk_104 rfl rfl (evI_123) ?_
  refine mV_aload f7_init_72 rfl ?_
  refine mV_push f7_init_73 ?_
  refine mV_putIX f7_init_74 (by decide) kk_104 rfl rfl (evI_124) ?_
  refine mV_aload f7_init_77 rfl ?_
  refine mV_push f7_init_78 ?_
  refine mV_putIX f7_init_79 (by decide) kk_104 rfl rfl (evI_125) ?_
  exact mV_vret rfl f7_init_82 (mRet_ok _ _ _ _ _)
set_option maxHeartbeats 4000000 in
set_option maxRecDepth 100000 in
theorem cc25_3_init (X : Nat × (Nat → Int32)) : mC X m3_init 2 31 312 [.ref 77] 78 KK (IQ 70) (PQ 78) (mRet none 109 KK (IQ 126) (PQ 109)) := by
  refine mC_of (L0 := [.ref 77, mX0]) rfl (Nat.le_of_ble_eq_true rfl) ?_
  refine mV_aload f3_init_0 rfl ?_
  refine mV_objInit f3_init_1 ol3_1 ob_i ob_c (Nat.le_of_ble_eq_true rfl) ?_
  refine mV_aload f3_init_4 rfl ?_
  refine mV_push f3_init_5 ?_
  refine mV_newqX (n' := 79) (N := 6) f3_init_7 kl3_9 rfl rfl (by decide) (by decide) (by decide) (by decide) (by decide) ?_
  refine mV_putPX f3_init_10 (by decide) kk_77 rfl (evP_78) ?_
  refine mV_aload f3_init_13 rfl ?_
  refine mV_push f3_init_14 ?_
  refine mV_putIX f3_init_15 (by decide) kk_77 rfl rfl (evI_70) ?_
  refine mV_aload f3_init_18 rfl ?_
  refine mV_push f3_init_19 ?_
  refine mV_putIX f3_init_20 (by decide) kk_77 rfl rfl (evI_71) ?_
  refine mV_push f3_init_23 ?_
  refine mV_istore (L' := [.ref 77, .int 0]) f3_init_24 (by decide) rfl rfl ?_
  refine mV_iload f3_init_25 rfl ?_
  refine mV_push f3_init_26 ?_
  refine mV_icmp_ge f3_init_28 (fun h => absurd h (by decide)) (fun _ => ?_)
  refine mV_aload f3_init_31 rfl ?_
  refine mV_getP (r := 78) f3_init_32 (by decide) kk_77 rfl (by decide +kernel) ?_
  refine mV_iload f3_init_35 rfl ?_
  refine mV_newX (n' := 80) f3_init_36 rfl rfl (by decide) (by decide) ?_
  refine mV_dup f3_init_39 rfl ?_
  refine mV_cin (mc := 4) (ms := 38) (bc' := 25) (bs' := 255) (host := "WeepingPiano") f3_init_40 (by decide) tg_m7_init (mC_deep (cc19_7_init X) (by decide)) rfl rfl (Nat.le_of_ble_eq_true rfl) rfl rfl ?_
  refine mV_astX (k := 0) f3_init_43 (by decide) kk_78 (by decide) kk_79 (by decide) (evP_83) ?_
  refine mV_iinc (y := 1) (L' := [.ref 77, .int 1]) f3_init_44 rfl (by decide) (by decide) rfl rfl ?_
  refine mV_goto f3_init_47 ?_
  refine mV_iload f3_init_25 rfl ?_
  refine mV_push f3_init_26 ?_
  refine mV_icmp_ge f3_init_28 (fun h => absurd h (by decide)) (fun _ => ?_)
  refine mV_aload f3_init_31 rfl ?_
  refine mV_getP (r := 78) f3_init_32 (by decide) kk_77 rfl (by decide +kernel) ?_
  refine mV_iload f3_init_35 rfl ?_
  refine mV_newX (n' := 85) f3_init_36 rfl rfl (by decide) (by decide) ?_
  refine mV_dup f3_init_39 rfl ?_
  refine mV_cin (mc := 4) (ms := 38) (bc' := 20) (bs' := 204) (host := "WeepingPiano") f3_init_40 (by decide) tg_m7_init (mC_deep (cc20_7_init X) (by decide)) rfl rfl (Nat.le_of_ble_eq_true rfl) rfl rfl ?_
  refine mV_astX (k := 1) f3_init_43 (by decide) kk_78 (by decide) kk_84 (by decide) (evP_88) ?_
  refine mV_iinc (y := 2) (L' := [.ref 77, .int 2]) f3_init_44 rfl (by decide) (by decide) rfl rfl ?_
  refine mV_goto f3_init_47 ?_
  refine mV_iload f3_init_25 rfl ?_
  refine mV_push f3_init_26 ?_
  refine mV_icmp_ge f3_init_28 (fun h => absurd h (by decide)) (fun _ => ?_)
  refine mV_aload f3_init_31 rfl ?_
  refine mV_getP (r := 78) f3_init_32 (by decide) kk_77 rfl (by decide +kernel) ?_
  refine mV_iload f3_init_35 rfl ?_
  refine mV_newX (n' := 90) f3_init_36 rfl rfl (by decide) (by decide) ?_
  refine mV_dup f3_init_39 rfl ?_
  refine mV_cin (mc := 4) (ms := 38) (bc' := 15) (bs' := 153) (host := "WeepingPiano") f3_init_40 (by decide) tg_m7_init (mC_deep (cc21_7_init X) (by decide)) rfl rfl (Nat.le_of_ble_eq_true rfl) rfl rfl ?_
  refine mV_astX (k := 2) f3_init_43 (by decide) kk_78 (by decide) kk_89 (by decide) (evP_93) ?_
  refine mV_iinc (y := 3) (L' := [.ref 77, .int 3]) f3_init_44 rfl (by decide) (by decide) rfl rfl ?_
  refine mV_goto f3_init_47 ?_
  refine mV_iload f3_init_25 rfl ?_
  refine mV_push f3_init_26 ?_
  refine mV_icmp_ge f3_init_28 (fun h => absurd h (by decide)) (fun _ => ?_)
  refine mV_aload f3_init_31 rfl ?_
  refine mV_getP (r := 78) f3_init_32 (by decide) kk_77 rfl (by decide +kernel) ?_
  refine mV_iload f3_init_35 rfl ?_
  refine mV_newX (n' := 95) f3_init_36 rfl rfl (by decide) (by decide) ?_
  refine mV_dup f3_init_39 rfl ?_
  refine mV_cin (mc := 4) (ms := 38) (bc' := 10) (bs' := 102) (host := "WeepingPiano") f3_init_40 (by decide) tg_m7_init (mC_deep (cc22_7_init X) (by decide)) rfl rfl (Nat.le_of_ble_eq_true rfl) rfl rfl ?_
  refine mV_astX (k := 3) f3_init_43 (by decide) kk_78 (by decide) kk_94 (by decide) (evP_98) ?_
  refine mV_iinc (y := 4) (L' := [.ref 77, .int 4]) f3_init_44 rfl (by decide) (by decide) rfl rfl ?_
  refine mV_goto f3_init_47 ?_
  refine mV_iload f3_init_25 rfl ?_
  refine mV_push f3_init_26 ?_
  refine mV_icmp_ge f3_init_28 (fun h => absurd h (by decide)) (fun _ => ?_)
  refine mV_aload f3_init_31 rfl ?_
  refine mV_getP (r := 78) f3_init_32 (by decide) kk_77 rfl (by decide +kernel) ?_
  refine mV_iload f3_init_35 rfl ?_
  refine mV_newX (n' := 100) f3_init_36 rfl rfl (by decide) (by decide) ?_
  refine mV_dup f3_init_39 rfl ?_
  refine mV_cin (mc := 4) (ms := 38) (bc' := 5) (bs' := 51) (host := "WeepingPiano") f3_init_40 (by decide) tg_m7_init (mC_deep (cc23_7_init X) (by decide)) rfl rfl (Nat.le_of_ble_eq_true rfl) rfl rfl ?_
  refine mV_astX (k := 4) f3_init_43 (by decide) kk_78 (by decide) kk_99 (by decide) (evP_103) ?_
  refine mV_iinc (y := 5) (L' := [.ref 77, .int 5]) f3_init_44 rfl (by decide) (by decide) rfl rfl ?_
  refine mV_goto f3_init_47 ?_
  refine mV_iload f3_init_25 rfl ?_
  refine mV_push f3_init_26 ?_
  refine mV_icmp_ge f3_init_28 (fun h => absurd h (by decide)) (fun _ => ?_)
  refine mV_aload f3_init_31 rfl ?_
  refine mV_getP (r := 78) f3_init_32 (by decide) kk_77 rfl (by decide +kernel) ?_
  refine mV_iload f3_init_35 rfl ?_
  refine mV_newX (n' := 105) f3_init_36 rfl rfl (by decide) (by decide) ?_
  refine mV_dup f3_init_39 rfl ?_
  refine mV_cin (mc := 4) (ms := 38) (bc' := 0) (bs' := 0) (host := "WeepingPiano") f3_init_40 (by decide) tg_m7_init (mC_deep (cc24_7_init X) (by decide)) rfl rfl (Nat.le_of_ble_eq_true rfl) rfl rfl ?_
  refine mV_astX (k := 5) f3_init_43 (by decide) kk_78 (by decide) kk_104 (by decide) (evP_108) ?_
  refine mV_iinc (y := 6) (L' := [.ref 77, .int 6]) f3_init_44 rfl (by decide) (by decide) rfl rfl ?_
  refine mV_goto f3_init_47 ?_
  refine mV_iload f3_init_25 rfl ?_
  refine mV_push f3_init_26 ?_
  refine mV_icmp_ge f3_init_28 (fun _ => ?_) (fun h => absurd h (by decide))
  exact mV_vret rfl f3_init_50 (mRet_ok _ _ _ _ _)
set_option maxHeartbeats 4000000 in
set_option maxRecDepth 100000 in
theorem cc26_6_init (X : Nat × (Nat → Int32)) : mC X m6_init 1 2 544 [.ref 114, .int 400] 115 KK (IQ 132) (PQ 114) (mRet none 117 KK (IQ 134) (PQ 116)) := by
  refine mC_of (L0 := [.ref 114, .int 400]) rfl (Nat.le_of_ble_eq_true rfl) ?_
  refine mV_aload f6_init_0 rfl ?_
  refine mV_objInit f6_init_1 ol6_3 ob_i ob_c (Nat.le_of_ble_eq_true rfl) ?_
  refine mV_aload f6_init_4 rfl ?_
  refine mV_push f6_init_5 ?_
  refine mV_newaX (n' := 116) (N := 144) f6_init_8 rfl rfl (by decide) (by decide) (by decide) (by decide) (by decide) ?_
  refine mV_putPX f6_init_10 (by decide) kk_114 rfl (evP_114) ?_
  refine mV_aload f6_init_13 rfl ?_
  refine mV_push f6_init_14 ?_
  refine mV_putIX f6_init_15 (by decide) kk_114 rfl rfl (evI_132) ?_
  refine mV_aload f6_init_18 rfl ?_
  refine mV_push f6_init_19 ?_
  refine mV_putIX f6_init_20 (by decide) kk_114 rfl rfl (evI_133) ?_
  refine mV_aload f6_init_23 rfl ?_
  refine mV_push f6_init_24 ?_
  refine mV_iload f6_init_25 rfl ?_
  refine mV_maxC fm6_init_26 (Nat.le_of_ble_eq_true rfl) ?_
  refine mV_as 400 (by decide) ?_
  refine mV_newaX (n' := 117) (N := 400) f6_init_29 rfl rfl (by decide) (by decide) (by decide) (by decide) (by decide) ?_
  refine mV_putPX f6_init_31 (by decide) kk_114 rfl (evP_115) ?_
  exact mV_vret rfl f6_init_34 (mRet_ok _ _ _ _ _)
set_option maxHeartbeats 4000000 in
set_option maxRecDepth 100000 in
theorem cc27_4_init (X : Nat × (Nat → Int32)) : mC X m4_init 2 7 2151 [.ref 109] 110 KK (IQ 126) (PQ 110) (mRet none 117 KK (IQ 136) (PQ 117)) := by
  refine mC_of (L0 := [.ref 109]) rfl (Nat.le_of_ble_eq_true rfl) ?_
  refine mV_aload f4_init_0 rfl ?_
  refine mV_objInit f4_init_1 ol4_3 ob_i ob_c (Nat.le_of_ble_eq_true rfl) ?_
  refine mV_aload f4_init_4 rfl ?_
  refine mV_push f4_init_5 ?_
  refine mV_newaX (n' := 111) (N := 400) f4_init_8 rfl rfl (by decide) (by decide) (by decide) (by decide) (by decide) ?_
  refine mV_putPX f4_init_10 (by decide) kk_109 rfl (evP_110) ?_
  refine mV_aload f4_init_13 rfl ?_
  refine mV_push f4_init_14 ?_
  refine mV_putIX f4_init_15 (by decide) kk_109 rfl rfl (evI_126) ?_
  refine mV_aload f4_init_18 rfl ?_
  refine mV_push f4_init_19 ?_
  refine mV_newaX (n' := 112) (N := 401) f4_init_22 rfl rfl (by decide) (by decide) (by decide) (by decide) (by decide) ?_
  refine mV_putPX f4_init_24 (by decide) kk_109 rfl (evP_111) ?_
  refine mV_aload f4_init_27 rfl ?_
  refine mV_push f4_init_28 ?_
  refine mV_newaX (n' := 113) (N := 401) f4_init_31 rfl rfl (by decide) (by decide) (by decide) (by decide) (by decide) ?_
  refine mV_putPX f4_init_33 (by decide) kk_109 rfl (evP_112) ?_
  refine mV_aload f4_init_36 rfl ?_
  refine mV_push f4_init_37 ?_
  refine mV_newaX (n' := 114) (N := 401) f4_init_40 rfl rfl (by decide) (by decide) (by decide) (by decide) (by decide) ?_
  refine mV_putPX f4_init_42 (by decide) kk_109 rfl (evP_113) ?_
  refine mV_aload f4_init_45 rfl ?_
  refine mV_push f4_init_46 ?_
  refine mV_putIX f4_init_47 (by decide) kk_109 rfl rfl (evI_127) ?_
  refine mV_aload f4_init_50 rfl ?_
  refine mV_push f4_init_51 ?_
  refine mV_putIX f4_init_52 (by decide) kk_109 rfl rfl (evI_128) ?_
  refine mV_aload f4_init_55 rfl ?_
  refine mV_push f4_init_56 ?_
  refine mV_putIX f4_init_57 (by decide) kk_109 rfl rfl (evI_129) ?_
  refine mV_aload f4_init_60 rfl ?_
  refine mV_push f4_init_61 ?_
  refine mV_putIX f4_init_62 (by decide) kk_109 rfl rfl (evI_130) ?_
  refine mV_aload f4_init_65 rfl ?_
  refine mV_push f4_init_66 ?_
  refine mV_putIX f4_init_67 (by decide) kk_109 rfl rfl (evI_131) ?_
  refine mV_aload f4_init_70 rfl ?_
  refine mV_newX (n' := 115) f4_init_71 rfl rfl (by decide) (by decide) ?_
  refine mV_dup f4_init_74 rfl ?_
  refine mV_push f4_init_75 ?_
  refine mV_ci (mc := 2) (ms := 544) (bc' := 0) (bs' := 0) ⟨_, f4_init_78, ml4_45⟩ tg_m6_init (mC_deep (cc26_6_init X) (by decide)) rfl rfl (Nat.le_of_ble_eq_true rfl) rfl rfl ?_
  refine mV_putPX f4_init_81 (by decide) kk_109 rfl (evP_116) ?_
  refine mV_aload f4_init_84 rfl ?_
  refine mV_push f4_init_85 ?_
  refine mV_putIX f4_init_86 (by decide) kk_109 rfl rfl (evI_134) ?_
  refine mV_aload f4_init_89 rfl ?_
  refine mV_push f4_init_90 ?_
  refine mV_putIX f4_init_91 (by decide) kk_109 rfl rfl (evI_135) ?_
  exact mV_vret rfl f4_init_94 (mRet_ok _ _ _ _ _)
set_option maxHeartbeats 4000000 in
set_option maxRecDepth 100000 in
theorem cc28_2_init (X : Nat × (Nat → Int32)) : mC X m2_init 1 1 225 [.ref 117] 118 KK (IQ 136) (PQ 118) (mRet none 119 KK (IQ 136) (PQ 119)) := by
  refine mC_of (L0 := [.ref 117]) rfl (Nat.le_of_ble_eq_true rfl) ?_
  refine mV_aload f2_init_0 rfl ?_
  refine mV_objInit f2_init_1 ol2_3 ob_i ob_c (Nat.le_of_ble_eq_true rfl) ?_
  refine mV_aload f2_init_4 rfl ?_
  refine mV_push f2_init_5 ?_
  refine mV_newaX (n' := 119) (N := 225) f2_init_8 rfl rfl (by decide) (by decide) (by decide) (by decide) (by decide) ?_
  refine mV_putPX f2_init_10 (by decide) kk_117 rfl (evP_118) ?_
  exact mV_vret rfl f2_init_13 (mRet_ok _ _ _ _ _)
set_option maxHeartbeats 4000000 in
set_option maxRecDepth 100000 in
theorem cc29_9_init (X : Nat × (Nat → Int32)) : mC X m9_init 4 118 6523 [.ref 0] 1 KK (IQ 0) (PQ 0) (mRet none 119 KK (IQ 136) (PQ 120)) := by
  refine mC_of (L0 := [.ref 0]) rfl (Nat.le_of_ble_eq_true rfl) ?_
  refine mV_aload f9_init_0 rfl ?_
  refine mV_objInit f9_init_1 ol9_1 ob_i ob_c (Nat.le_of_ble_eq_true rfl) ?_
  refine mV_aload f9_init_4 rfl ?_
  refine mV_newX (n' := 2) f9_init_5 rfl rfl (by decide) (by decide) ?_
  refine mV_dup f9_init_8 rfl ?_
  refine mV_cin (mc := 42) (ms := 1957) (bc' := 75) (bs' := 4557) (host := "WeepingPiano") f9_init_9 (by decide) tg_m5_init (mC_deep (cc10_5_init X) (by decide)) rfl rfl (Nat.le_of_ble_eq_true rfl) rfl rfl ?_
  refine mV_putPX f9_init_12 (by decide) kk_0 rfl (evP_43) ?_
  refine mV_aload f9_init_15 rfl ?_
  refine mV_aload f9_init_16 rfl ?_
  refine mV_getP (r := 1) f9_init_17 (by decide) kk_0 rfl (by decide +kernel) ?_
  refine mV_getP (r := 2) f9_init_20 (by decide) kk_1 rfl (by decide +kernel) ?_
  refine mV_putPX f9_init_23 (by decide) kk_0 rfl (evP_44) ?_
  refine mV_aload f9_init_26 rfl ?_
  refine mV_newX (n' := 45) f9_init_27 rfl rfl (by decide) (by decide) ?_
  refine mV_dup f9_init_30 rfl ?_
  refine mV_cin (mc := 32) (ms := 1844) (bc' := 42) (bs' := 2705) (host := "WeepingPiano") f9_init_31 (by decide) tg_m8_init (mC_deep (cc18_8_init X) (by decide)) rfl rfl (Nat.le_of_ble_eq_true rfl) rfl rfl ?_
  refine mV_putPX f9_init_34 (by decide) kk_0 rfl (evP_77) ?_
  refine mV_aload f9_init_37 rfl ?_
  refine mV_push f9_init_38 ?_
  refine mV_putIX f9_init_39 (by decide) kk_0 rfl rfl (evI_69) ?_
  refine mV_aload f9_init_42 rfl ?_
  refine mV_newX (n' := 78) f9_init_43 rfl rfl (by decide) (by decide) ?_
  refine mV_dup f9_init_46 rfl ?_
  refine mV_ci (mc := 31) (ms := 312) (bc' := 10) (bs' := 2390) ⟨_, f9_init_47, ml9_33⟩ tg_m3_init (mC_deep (cc25_3_init X) (by decide)) rfl rfl (Nat.le_of_ble_eq_true rfl) rfl rfl ?_
  refine mV_putPX f9_init_50 (by decide) kk_0 rfl (evP_109) ?_
  refine mV_aload f9_init_53 rfl ?_
  refine mV_newX (n' := 110) f9_init_54 rfl rfl (by decide) (by decide) ?_
  refine mV_dup f9_init_57 rfl ?_
  refine mV_cin (mc := 7) (ms := 2151) (bc' := 2) (bs' := 226) (host := "WeepingPiano") f9_init_58 (by decide) tg_m4_init (mC_deep (cc27_4_init X) (by decide)) rfl rfl (Nat.le_of_ble_eq_true rfl) rfl rfl ?_
  refine mV_putPX f9_init_61 (by decide) kk_0 rfl (evP_117) ?_
  refine mV_aload f9_init_64 rfl ?_
  refine mV_newX (n' := 118) f9_init_65 rfl rfl (by decide) (by decide) ?_
  refine mV_dup f9_init_68 rfl ?_
  refine mV_cin (mc := 1) (ms := 225) (bc' := 0) (bs' := 0) (host := "WeepingPiano") f9_init_69 (by decide) tg_m2_init (mC_deep (cc28_2_init X) (by decide)) rfl rfl (Nat.le_of_ble_eq_true rfl) rfl rfl ?_
  refine mV_putPX f9_init_72 (by decide) kk_0 rfl (evP_119) ?_
  exact mV_vret rfl f9_init_75 (mRet_ok _ _ _ _ _)
set_option maxHeartbeats 4000000 in
set_option maxRecDepth 100000 in
theorem cc30_10_init (X : Nat × (Nat → Int32)) : mC X m10_init 1 35 7729 [.ref 119] 120 KK (IQ 136) (PQ 120) (mRet none 155 KK (IQ 280) (PQ 155)) := by
  refine mC_of (L0 := [.ref 119]) rfl (Nat.le_of_ble_eq_true rfl) ?_
  refine mV_aload f10_init_0 rfl ?_
  refine mV_objInit f10_init_1 ol10_1 ob_i ob_c (Nat.le_of_ble_eq_true rfl) ?_
  refine mV_aload f10_init_4 rfl ?_
  refine mV_push f10_init_5 ?_
  refine mV_newaX (n' := 121) (N := 47) f10_init_7 rfl rfl (by decide) (by decide) (by decide) (by decide) (by decide) ?_
  refine mV_putPX f10_init_9 (by decide) kk_119 rfl (evP_120) ?_
  refine mV_aload f10_init_12 rfl ?_
  refine mV_push f10_init_13 ?_
  refine mV_newaX (n' := 122) (N := 282) f10_init_16 rfl rfl (by decide) (by decide) (by decide) (by decide) (by decide) ?_
  refine mV_putPX f10_init_18 (by decide) kk_119 rfl (evP_121) ?_
  refine mV_aload f10_init_21 rfl ?_
  refine mV_push f10_init_22 ?_
  refine mV_newaX (n' := 123) (N := 47) f10_init_24 rfl rfl (by decide) (by decide) (by decide) (by decide) (by decide) ?_
  refine mV_putPX f10_init_26 (by decide) kk_119 rfl (evP_122) ?_
  refine mV_aload f10_init_29 rfl ?_
  refine mV_push f10_init_30 ?_
  refine mV_newaX (n' := 124) (N := 12) f10_init_32 rfl rfl (by decide) (by decide) (by decide) (by decide) (by decide) ?_
  refine mV_putPX f10_init_34 (by decide) kk_119 rfl (evP_123) ?_
  refine mV_aload f10_init_37 rfl ?_
  refine mV_push f10_init_38 ?_
  refine mV_newaX (n' := 125) (N := 12) f10_init_40 rfl rfl (by decide) (by decide) (by decide) (by decide) (by decide) ?_
  refine mV_putPX f10_init_42 (by decide) kk_119 rfl (evP_124) ?_
  refine mV_aload f10_init_45 rfl ?_
  refine mV_push f10_init_46 ?_
  refine mV_newaX (n' := 126) (N := 12) f10_init_48 rfl rfl (by decide) (by decide) (by decide) (by decide) (by decide) ?_
  refine mV_putPX f10_init_50 (by decide) kk_119 rfl (evP_125) ?_
  refine mV_aload f10_init_53 rfl ?_
  refine mV_push f10_init_54 ?_
  refine mV_newaX (n' := 127) (N := 6) f10_init_56 rfl rfl (by decide) (by decide) (by decide) (by decide) (by decide) ?_
  refine mV_putPX f10_init_58 (by decide) kk_119 rfl (evP_126) ?_
  refine mV_aload f10_init_61 rfl ?_
  refine mV_push f10_init_62 ?_
  refine mV_newaX (n' := 128) (N := 6) f10_init_64 rfl rfl (by decide) (by decide) (by decide) (by decide) (by decide) ?_
  refine mV_putPX f10_init_66 (by decide) kk_119 rfl (evP_127) ?_
  refine mV_aload f10_init_69 rfl ?_
  refine mV_push f10_init_70 ?_
  refine mV_newaX (n' := 129) (N := 600) f10_init_73 rfl rfl (by decide) (by decide) (by decide) (by decide) (by decide) ?_
  refine mV_putPX f10_init_75 (by decide) kk_119 rfl (evP_128) ?_
  refine mV_aload f10_init_78 rfl ?_
  refine mV_push f10_init_79 ?_
  refine mV_newaX (n' := 130) (N := 400) f10_init_82 rfl rfl (by decide) (by decide) (by decide) (by decide) (by decide) ?_
  refine mV_putPX f10_init_84 (by decide) kk_119 rfl (evP_129) ?_
  refine mV_aload f10_init_87 rfl ?_
  refine mV_push f10_init_88 ?_
  refine mV_newaX (n' := 131) (N := 143) f10_init_91 rfl rfl (by decide) (by decide) (by decide) (by decide) (by decide) ?_
  refine mV_dup f10_init_93 rfl ?_
  refine mV_push f10_init_94 ?_
  refine mV_push f10_init_95 ?_
  refine mV_stoX (k := 0) f10_init_97 (by decide) kk_130 (by decide) (evI_136) ?_
  refine mV_dup f10_init_98 rfl ?_
  refine mV_push f10_init_99 ?_
  refine mV_push f10_init_100 ?_
  refine mV_stoX (k := 1) f10_init_102 (by decide) kk_130 (by decide) (evI_137) ?_
  refine mV_dup f10_init_103 rfl ?_
  refine mV_push f10_init_104 ?_
  refine mV_push f10_init_105 ?_
  refine mV_stoX (k := 2) f10_init_107 (by decide) kk_130 (by decide) (evI_138) ?_
  refine mV_dup f10_init_108 rfl ?_
  refine mV_push f10_init_109 ?_
  refine mV_push f10_init_110 ?_
  refine mV_stoX (k := 3) f10_init_112 (by decide) kk_130 (by decide) (evI_139) ?_
  refine mV_dup f10_init_113 rfl ?_
  refine mV_push f10_init_114 ?_
  refine mV_push f10_init_115 ?_
  refine mV_stoX (k := 4) f10_init_117 (by decide) kk_130 (by decide) (evI_140) ?_
  refine mV_dup f10_init_118 rfl ?_
  refine mV_push f10_init_119 ?_
  refine mV_push f10_init_120 ?_
  refine mV_stoX (k := 5) f10_init_122 (by decide) kk_130 (by decide) (evI_141) ?_
  refine mV_dup f10_init_123 rfl ?_
  refine mV_push f10_init_124 ?_
  refine mV_push f10_init_126 ?_
  refine mV_stoX (k := 6) f10_init_128 (by decide) kk_130 (by decide) (evI_142) ?_
  refine mV_dup f10_init_129 rfl ?_
  refine mV_push f10_init_130 ?_
  refine mV_push f10_init_132 ?_
  refine mV_stoX (k := 7) f10_init_134 (by decide) kk_130 (by decide) (evI_143) ?_
  refine mV_dup f10_init_135 rfl ?_
  refine mV_push f10_init_136 ?_
  refine mV_push f10_init_138 ?_
  refine mV_stoX (k := 8) f10_init_140 (by decide) kk_130 (by decide) (evI_144) ?_
  refine mV_dup f10_init_141 rfl ?_
  refine mV_push f10_init_142 ?_
  refine mV_push f10_init_144 ?_
  refine mV_stoX (k := 9) f10_init_146 (by decide) kk_130 (by decide) (evI_145) ?_
  refine mV_dup f10_init_147 rfl ?_
  refine mV_push f10_init_148 ?_
  refine mV_push f10_init_150 ?_
  refine mV_stoX (k := 10) f10_init_152 (by decide) kk_130 (by decide) (evI_146) ?_
  refine mV_dup f10_init_153 rfl ?_
  refine mV_push f10_init_154 ?_
  refine mV_push f10_init_156 ?_
  refine mV_stoX (k := 11) f10_init_158 (by decide) kk_130 (by decide) (evI_147) ?_
  refine mV_dup f10_init_159 rfl ?_
  refine mV_push f10_init_160 ?_
  refine mV_push f10_init_162 ?_
  refine mV_stoX (k := 12) f10_init_164 (by decide) kk_130 (by decide) (evI_148) ?_
  refine mV_dup f10_init_165 rfl ?_
  refine mV_push f10_init_166 ?_
  refine mV_push f10_init_168 ?_
  refine mV_stoX (k := 13) f10_init_170 (by decide) kk_130 (by decide) (evI_149) ?_
  refine mV_dup f10_init_171 rfl ?_
  refine mV_push f10_init_172 ?_
  refine mV_push f10_init_174 ?_
  refine mV_stoX (k := 14) f10_init_176 (by decide) kk_130 (by decide) (evI_150) ?_
  refine mV_dup f10_init_177 rfl ?_
  refine mV_push f10_init_178 ?_
  refine mV_push f10_init_180 ?_
  refine mV_stoX (k := 15) f10_init_182 (by decide) kk_130 (by decide) (evI_151) ?_
  refine mV_dup f10_init_183 rfl ?_
  refine mV_push f10_init_184 ?_
  refine mV_push f10_init_186 ?_
  refine mV_stoX (k := 16) f10_init_188 (by decide) kk_130 (by decide) (evI_152) ?_
  refine mV_dup f10_init_189 rfl ?_
  refine mV_push f10_init_190 ?_
  refine mV_push f10_init_192 ?_
  refine mV_stoX (k := 17) f10_init_194 (by decide) kk_130 (by decide) (evI_153) ?_
  refine mV_dup f10_init_195 rfl ?_
  refine mV_push f10_init_196 ?_
  refine mV_push f10_init_198 ?_
  refine mV_stoX (k := 18) f10_init_200 (by decide) kk_130 (by decide) (evI_154) ?_
  refine mV_dup f10_init_201 rfl ?_
  refine mV_push f10_init_202 ?_
  refine mV_push f10_init_204 ?_
  refine mV_stoX (k := 19) f10_init_206 (by decide) kk_130 (by decide) (evI_155) ?_
  refine mV_dup f10_init_207 rfl ?_
  refine mV_push f10_init_208 ?_
  refine mV_push f10_init_210 ?_
  refine mV_stoX (k := 20) f10_init_212 (by decide) kk_130 (by decide) (evI_156) ?_
  refine mV_dup f10_init_213 rfl ?_
  refine mV_push f10_init_214 ?_
  refine mV_push f10_init_216 ?_
  refine mV_stoX (k := 21) f10_init_218 (by decide) kk_130 (by decide) (evI_157) ?_
  refine mV_dup f10_init_219 rfl ?_
  refine mV_push f10_init_220 ?_
  refine mV_push f10_init_222 ?_
  refine mV_stoX (k := 22) f10_init_224 (by decide) kk_130 (by decide) (evI_158) ?_
  refine mV_dup f10_init_225 rfl ?_
  refine mV_push f10_init_226 ?_
  refine mV_push f10_init_228 ?_
  refine mV_stoX (k := 23) f10_init_230 (by decide) kk_130 (by decide) (evI_159) ?_
  refine mV_dup f10_init_231 rfl ?_
  refine mV_push f10_init_232 ?_
  refine mV_push f10_init_234 ?_
  refine mV_stoX (k := 24) f10_init_236 (by decide) kk_130 (by decide) (evI_160) ?_
  refine mV_dup f10_init_237 rfl ?_
  refine mV_push f10_init_238 ?_
  refine mV_push f10_init_240 ?_
  refine mV_stoX (k := 25) f10_init_242 (by decide) kk_130 (by decide) (evI_161) ?_
  refine mV_dup f10_init_243 rfl ?_
  refine mV_push f10_init_244 ?_
  refine mV_push f10_init_246 ?_
  refine mV_stoX (k := 26) f10_init_248 (by decide) kk_130 (by decide) (evI_162) ?_
  refine mV_dup f10_init_249 rfl ?_
  refine mV_push f10_init_250 ?_
  refine mV_push f10_init_252 ?_
  refine mV_stoX (k := 27) f10_init_254 (by decide) kk_130 (by decide) (evI_163) ?_
  refine mV_dup f10_init_255 rfl ?_
  refine mV_push f10_init_256 ?_
  refine mV_push f10_init_258 ?_
  refine mV_stoX (k := 28) f10_init_260 (by decide) kk_130 (by decide) (evI_164) ?_
  refine mV_dup f10_init_261 rfl ?_
  refine mV_push f10_init_262 ?_
  refine mV_push f10_init_264 ?_
  refine mV_stoX (k := 29) f10_init_266 (by decide) kk_130 (by decide) (evI_165) ?_
  refine mV_dup f10_init_267 rfl ?_
  refine mV_push f10_init_268 ?_
  refine mV_push f10_init_270 ?_
  refine mV_stoX (k := 30) f10_init_272 (by decide) kk_130 (by decide) (evI_166) ?_
  refine mV_dup f10_init_273 rfl ?_
  refine mV_push f10_init_274 ?_
  refine mV_push f10_init_276 ?_
  refine mV_stoX (k := 31) f10_init_278 (by decide) kk_130 (by decide) (evI_167) ?_
  refine mV_dup f10_init_279 rfl ?_
  refine mV_push f10_init_280 ?_
  refine mV_push f10_init_282 ?_
  refine mV_stoX (k := 32) f10_init_284 (by decide) kk_130 (by decide) (evI_168) ?_
  refine mV_dup f10_init_285 rfl ?_
  refine mV_push f10_init_286 ?_
  refine mV_push f10_init_288 ?_
  refine mV_stoX (k := 33) f10_init_290 (by decide) kk_130 (by decide) (evI_169) ?_
  refine mV_dup f10_init_291 rfl ?_
  refine mV_push f10_init_292 ?_
  refine mV_push f10_init_294 ?_
  refine mV_stoX (k := 34) f10_init_296 (by decide) kk_130 (by decide) (evI_170) ?_
  refine mV_dup f10_init_297 rfl ?_
  refine mV_push f10_init_298 ?_
  refine mV_push f10_init_300 ?_
  refine mV_stoX (k := 35) f10_init_302 (by decide) kk_130 (by decide) (evI_171) ?_
  refine mV_dup f10_init_303 rfl ?_
  refine mV_push f10_init_304 ?_
  refine mV_push f10_init_306 ?_
  refine mV_stoX (k := 36) f10_init_308 (by decide) kk_130 (by decide) (evI_172) ?_
  refine mV_dup f10_init_309 rfl ?_
  refine mV_push f10_init_310 ?_
  refine mV_push f10_init_312 ?_
  refine mV_stoX (k := 37) f10_init_314 (by decide) kk_130 (by decide) (evI_173) ?_
  refine mV_dup f10_init_315 rfl ?_
  refine mV_push f10_init_316 ?_
  refine mV_push f10_init_318 ?_
  refine mV_stoX (k := 38) f10_init_320 (by decide) kk_130 (by decide) (evI_174) ?_
  refine mV_dup f10_init_321 rfl ?_
  refine mV_push f10_init_322 ?_
  refine mV_push f10_init_324 ?_
  refine mV_stoX (k := 39) f10_init_326 (by decide) kk_130 (by decide) (evI_175) ?_
  refine mV_dup f10_init_327 rfl ?_
  refine mV_push f10_init_328 ?_
  refine mV_push f10_init_330 ?_
  refine mV_stoX (k := 40) f10_init_332 (by decide) kk_130 (by decide) (evI_176) ?_
  refine mV_dup f10_init_333 rfl ?_
  refine mV_push f10_init_334 ?_
  refine mV_push f10_init_336 ?_
  refine mV_stoX (k := 41) f10_init_338 (by decide) kk_130 (by decide) (evI_177) ?_
  refine mV_dup f10_init_339 rfl ?_
  refine mV_push f10_init_340 ?_
  refine mV_push f10_init_342 ?_
  refine mV_stoX (k := 42) f10_init_344 (by decide) kk_130 (by decide) (evI_178) ?_
  refine mV_dup f10_init_345 rfl ?_
  refine mV_push f10_init_346 ?_
  refine mV_push f10_init_348 ?_
  refine mV_stoX (k := 43) f10_init_350 (by decide) kk_130 (by decide) (evI_179) ?_
  refine mV_dup f10_init_351 rfl ?_
  refine mV_push f10_init_352 ?_
  refine mV_push f10_init_354 ?_
  refine mV_stoX (k := 44) f10_init_356 (by decide) kk_130 (by decide) (evI_180) ?_
  refine mV_dup f10_init_357 rfl ?_
  refine mV_push f10_init_358 ?_
  refine mV_push f10_init_360 ?_
  refine mV_stoX (k := 45) f10_init_362 (by decide) kk_130 (by decide) (evI_181) ?_
  refine mV_dup f10_init_363 rfl ?_
  refine mV_push f10_init_364 ?_
  refine mV_push f10_init_366 ?_
  refine mV_stoX (k := 46) f10_init_368 (by decide) kk_130 (by decide) (evI_182) ?_
  refine mV_dup f10_init_369 rfl ?_
  refine mV_push f10_init_370 ?_
  refine mV_push f10_init_372 ?_
  refine mV_stoX (k := 47) f10_init_374 (by decide) kk_130 (by decide) (evI_183) ?_
  refine mV_dup f10_init_375 rfl ?_
  refine mV_push f10_init_376 ?_
  refine mV_push f10_init_378 ?_
  refine mV_stoX (k := 48) f10_init_380 (by decide) kk_130 (by decide) (evI_184) ?_
  refine mV_dup f10_init_381 rfl ?_
  refine mV_push f10_init_382 ?_
  refine mV_push f10_init_384 ?_
  refine mV_stoX (k := 49) f10_init_386 (by decide) kk_130 (by decide) (evI_185) ?_
  refine mV_dup f10_init_387 rfl ?_
  refine mV_push f10_init_388 ?_
  refine mV_push f10_init_390 ?_
  refine mV_stoX (k := 50) f10_init_392 (by decide) kk_130 (by decide) (evI_186) ?_
  refine mV_dup f10_init_393 rfl ?_
  refine mV_push f10_init_394 ?_
  refine mV_push f10_init_396 ?_
  refine mV_stoX (k := 51) f10_init_398 (by decide) kk_130 (by decide) (evI_187) ?_
  refine mV_dup f10_init_399 rfl ?_
  refine mV_push f10_init_400 ?_
  refine mV_push f10_init_402 ?_
  refine mV_stoX (k := 52) f10_init_404 (by decide) kk_130 (by decide) (evI_188) ?_
  refine mV_dup f10_init_405 rfl ?_
  refine mV_push f10_init_406 ?_
  refine mV_push f10_init_408 ?_
  refine mV_stoX (k := 53) f10_init_410 (by decide) kk_130 (by decide) (evI_189) ?_
  refine mV_dup f10_init_411 rfl ?_
  refine mV_push f10_init_412 ?_
  refine mV_push f10_init_414 ?_
  refine mV_stoX (k := 54) f10_init_416 (by decide) kk_130 (by decide) (evI_190) ?_
  refine mV_dup f10_init_417 rfl ?_
  refine mV_push f10_init_418 ?_
  refine mV_push f10_init_420 ?_
  refine mV_stoX (k := 55) f10_init_422 (by decide) kk_130 (by decide) (evI_191) ?_
  refine mV_dup f10_init_423 rfl ?_
  refine mV_push f10_init_424 ?_
  refine mV_push f10_init_426 ?_
  refine mV_stoX (k := 56) f10_init_428 (by decide) kk_130 (by decide) (evI_192) ?_
  refine mV_dup f10_init_429 rfl ?_
  refine mV_push f10_init_430 ?_
  refine mV_push f10_init_432 ?_
  refine mV_stoX (k := 57) f10_init_434 (by decide) kk_130 (by decide) (evI_193) ?_
  refine mV_dup f10_init_435 rfl ?_
  refine mV_push f10_init_436 ?_
  refine mV_push f10_init_438 ?_
  refine mV_stoX (k := 58) f10_init_440 (by decide) kk_130 (by decide) (evI_194) ?_
  refine mV_dup f10_init_441 rfl ?_
  refine mV_push f10_init_442 ?_
  refine mV_push f10_init_444 ?_
  refine mV_stoX (k := 59) f10_init_446 (by decide) kk_130 (by decide) (evI_195) ?_
  refine mV_dup f10_init_447 rfl ?_
  refine mV_push f10_init_448 ?_
  refine mV_push f10_init_450 ?_
  refine mV_stoX (k := 60) f10_init_452 (by decide) kk_130 (by decide) (evI_196) ?_
  refine mV_dup f10_init_453 rfl ?_
  refine mV_push f10_init_454 ?_
  refine mV_push f10_init_456 ?_
  refine mV_stoX (k := 61) f10_init_458 (by decide) kk_130 (by decide) (evI_197) ?_
  refine mV_dup f10_init_459 rfl ?_
  refine mV_push f10_init_460 ?_
  refine mV_push f10_init_462 ?_
  refine mV_stoX (k := 62) f10_init_464 (by decide) kk_130 (by decide) (evI_198) ?_
  refine mV_dup f10_init_465 rfl ?_
  refine mV_push f10_init_466 ?_
  refine mV_push f10_init_468 ?_
  refine mV_stoX (k := 63) f10_init_470 (by decide) kk_130 (by decide) (evI_199) ?_
  refine mV_dup f10_init_471 rfl ?_
  refine mV_push f10_init_472 ?_
  refine mV_push f10_init_474 ?_
  refine mV_stoX (k := 64) f10_init_476 (by decide) kk_130 (by decide) (evI_200) ?_
  refine mV_dup f10_init_477 rfl ?_
  refine mV_push f10_init_478 ?_
  refine mV_push f10_init_480 ?_
  refine mV_stoX (k := 65) f10_init_482 (by decide) kk_130 (by decide) (evI_201) ?_
  refine mV_dup f10_init_483 rfl ?_
  refine mV_push f10_init_484 ?_
  refine mV_push f10_init_486 ?_
  refine mV_stoX (k := 66) f10_init_488 (by decide) kk_130 (by decide) (evI_202) ?_
  refine mV_dup f10_init_489 rfl ?_
  refine mV_push f10_init_490 ?_
  refine mV_push f10_init_492 ?_
  refine mV_stoX (k := 67) f10_init_494 (by decide) kk_130 (by decide) (evI_203) ?_
  refine mV_dup f10_init_495 rfl ?_
  refine mV_push f10_init_496 ?_
  refine mV_push f10_init_498 ?_
  refine mV_stoX (k := 68) f10_init_500 (by decide) kk_130 (by decide) (evI_204) ?_
  refine mV_dup f10_init_501 rfl ?_
  refine mV_push f10_init_502 ?_
  refine mV_push f10_init_504 ?_
  refine mV_stoX (k := 69) f10_init_506 (by decide) kk_130 (by decide) (evI_205) ?_
  refine mV_dup f10_init_507 rfl ?_
  refine mV_push f10_init_508 ?_
  refine mV_push f10_init_510 ?_
  refine mV_stoX (k := 70) f10_init_512 (by decide) kk_130 (by decide) (evI_206) ?_
  refine mV_dup f10_init_513 rfl ?_
  refine mV_push f10_init_514 ?_
  refine mV_push f10_init_516 ?_
  refine mV_stoX (k := 71) f10_init_518 (by decide) kk_130 (by decide) (evI_207) ?_
  refine mV_dup f10_init_519 rfl ?_
  refine mV_push f10_init_520 ?_
  refine mV_push f10_init_522 ?_
  refine mV_stoX (k := 72) f10_init_524 (by decide) kk_130 (by decide) (evI_208) ?_
  refine mV_dup f10_init_525 rfl ?_
  refine mV_push f10_init_526 ?_
  refine mV_push f10_init_528 ?_
  refine mV_stoX (k := 73) f10_init_530 (by decide) kk_130 (by decide) (evI_209) ?_
  refine mV_dup f10_init_531 rfl ?_
  refine mV_push f10_init_532 ?_
  refine mV_push f10_init_534 ?_
  refine mV_stoX (k := 74) f10_init_536 (by decide) kk_130 (by decide) (evI_210) ?_
  refine mV_dup f10_init_537 rfl ?_
  refine mV_push f10_init_538 ?_
  refine mV_push f10_init_540 ?_
  refine mV_stoX (k := 75) f10_init_542 (by decide) kk_130 (by decide) (evI_211) ?_
  refine mV_dup f10_init_543 rfl ?_
  refine mV_push f10_init_544 ?_
  refine mV_push f10_init_546 ?_
  refine mV_stoX (k := 76) f10_init_548 (by decide) kk_130 (by decide) (evI_212) ?_
  refine mV_dup f10_init_549 rfl ?_
  refine mV_push f10_init_550 ?_
  refine mV_push f10_init_552 ?_
  refine mV_stoX (k := 77) f10_init_554 (by decide) kk_130 (by decide) (evI_213) ?_
  refine mV_dup f10_init_555 rfl ?_
  refine mV_push f10_init_556 ?_
  refine mV_push f10_init_558 ?_
  refine mV_stoX (k := 78) f10_init_560 (by decide) kk_130 (by decide) (evI_214) ?_
  refine mV_dup f10_init_561 rfl ?_
  refine mV_push f10_init_562 ?_
  refine mV_push f10_init_564 ?_
  refine mV_stoX (k := 79) f10_init_566 (by decide) kk_130 (by decide) (evI_215) ?_
  refine mV_dup f10_init_567 rfl ?_
  refine mV_push f10_init_568 ?_
  refine mV_push f10_init_570 ?_
  refine mV_stoX (k := 80) f10_init_572 (by decide) kk_130 (by decide) (evI_216) ?_
  refine mV_dup f10_init_573 rfl ?_
  refine mV_push f10_init_574 ?_
  refine mV_push f10_init_576 ?_
  refine mV_stoX (k := 81) f10_init_578 (by decide) kk_130 (by decide) (evI_217) ?_
  refine mV_dup f10_init_579 rfl ?_
  refine mV_push f10_init_580 ?_
  refine mV_push f10_init_582 ?_
  refine mV_stoX (k := 82) f10_init_584 (by decide) kk_130 (by decide) (evI_218) ?_
  refine mV_dup f10_init_585 rfl ?_
  refine mV_push f10_init_586 ?_
  refine mV_push f10_init_588 ?_
  refine mV_stoX (k := 83) f10_init_590 (by decide) kk_130 (by decide) (evI_219) ?_
  refine mV_dup f10_init_591 rfl ?_
  refine mV_push f10_init_592 ?_
  refine mV_push f10_init_594 ?_
  refine mV_stoX (k := 84) f10_init_596 (by decide) kk_130 (by decide) (evI_220) ?_
  refine mV_dup f10_init_597 rfl ?_
  refine mV_push f10_init_598 ?_
  refine mV_push f10_init_600 ?_
  refine mV_stoX (k := 85) f10_init_602 (by decide) kk_130 (by decide) (evI_221) ?_
  refine mV_dup f10_init_603 rfl ?_
  refine mV_push f10_init_604 ?_
  refine mV_push f10_init_606 ?_
  refine mV_stoX (k := 86) f10_init_608 (by decide) kk_130 (by decide) (evI_222) ?_
  refine mV_dup f10_init_609 rfl ?_
  refine mV_push f10_init_610 ?_
  refine mV_push f10_init_612 ?_
  refine mV_stoX (k := 87) f10_init_614 (by decide) kk_130 (by decide) (evI_223) ?_
  refine mV_dup f10_init_615 rfl ?_
  refine mV_push f10_init_616 ?_
  refine mV_push f10_init_618 ?_
  refine mV_stoX (k := 88) f10_init_620 (by decide) kk_130 (by decide) (evI_224) ?_
  refine mV_dup f10_init_621 rfl ?_
  refine mV_push f10_init_622 ?_
  refine mV_push f10_init_624 ?_
  refine mV_stoX (k := 89) f10_init_626 (by decide) kk_130 (by decide) (evI_225) ?_
  refine mV_dup f10_init_627 rfl ?_
  refine mV_push f10_init_628 ?_
  refine mV_push f10_init_630 ?_
  refine mV_stoX (k := 90) f10_init_632 (by decide) kk_130 (by decide) (evI_226) ?_
  refine mV_dup f10_init_633 rfl ?_
  refine mV_push f10_init_634 ?_
  refine mV_push f10_init_636 ?_
  refine mV_stoX (k := 91) f10_init_638 (by decide) kk_130 (by decide) (evI_227) ?_
  refine mV_dup f10_init_639 rfl ?_
  refine mV_push f10_init_640 ?_
  refine mV_push f10_init_642 ?_
  refine mV_stoX (k := 92) f10_init_644 (by decide) kk_130 (by decide) (evI_228) ?_
  refine mV_dup f10_init_645 rfl ?_
  refine mV_push f10_init_646 ?_
  refine mV_push f10_init_648 ?_
  refine mV_stoX (k := 93) f10_init_650 (by decide) kk_130 (by decide) (evI_229) ?_
  refine mV_dup f10_init_651 rfl ?_
  refine mV_push f10_init_652 ?_
  refine mV_push f10_init_654 ?_
  refine mV_stoX (k := 94) f10_init_656 (by decide) kk_130 (by decide) (evI_230) ?_
  refine mV_dup f10_init_657 rfl ?_
  refine mV_push f10_init_658 ?_
  refine mV_push f10_init_660 ?_
  refine mV_stoX (k := 95) f10_init_662 (by decide) kk_130 (by decide) (evI_231) ?_
  refine mV_dup f10_init_663 rfl ?_
  refine mV_push f10_init_664 ?_
  refine mV_push f10_init_666 ?_
  refine mV_stoX (k := 96) f10_init_668 (by decide) kk_130 (by decide) (evI_232) ?_
  refine mV_dup f10_init_669 rfl ?_
  refine mV_push f10_init_670 ?_
  refine mV_push f10_init_672 ?_
  refine mV_stoX (k := 97) f10_init_674 (by decide) kk_130 (by decide) (evI_233) ?_
  refine mV_dup f10_init_675 rfl ?_
  refine mV_push f10_init_676 ?_
  refine mV_push f10_init_678 ?_
  refine mV_stoX (k := 98) f10_init_680 (by decide) kk_130 (by decide) (evI_234) ?_
  refine mV_dup f10_init_681 rfl ?_
  refine mV_push f10_init_682 ?_
  refine mV_push f10_init_684 ?_
  refine mV_stoX (k := 99) f10_init_686 (by decide) kk_130 (by decide) (evI_235) ?_
  refine mV_dup f10_init_687 rfl ?_
  refine mV_push f10_init_688 ?_
  refine mV_push f10_init_690 ?_
  refine mV_stoX (k := 100) f10_init_692 (by decide) kk_130 (by decide) (evI_236) ?_
  refine mV_dup f10_init_693 rfl ?_
  refine mV_push f10_init_694 ?_
  refine mV_push f10_init_696 ?_
  refine mV_stoX (k := 101) f10_init_698 (by decide) kk_130 (by decide) (evI_237) ?_
  refine mV_dup f10_init_699 rfl ?_
  refine mV_push f10_init_700 ?_
  refine mV_push f10_init_702 ?_
  refine mV_stoX (k := 102) f10_init_704 (by decide) kk_130 (by decide) (evI_238) ?_
  refine mV_dup f10_init_705 rfl ?_
  refine mV_push f10_init_706 ?_
  refine mV_push f10_init_708 ?_
  refine mV_stoX (k := 103) f10_init_710 (by decide) kk_130 (by decide) (evI_239) ?_
  refine mV_dup f10_init_711 rfl ?_
  refine mV_push f10_init_712 ?_
  refine mV_push f10_init_714 ?_
  refine mV_stoX (k := 104) f10_init_716 (by decide) kk_130 (by decide) (evI_240) ?_
  refine mV_dup f10_init_717 rfl ?_
  refine mV_push f10_init_718 ?_
  refine mV_push f10_init_720 ?_
  refine mV_stoX (k := 105) f10_init_722 (by decide) kk_130 (by decide) (evI_241) ?_
  refine mV_dup f10_init_723 rfl ?_
  refine mV_push f10_init_724 ?_
  refine mV_push f10_init_726 ?_
  refine mV_stoX (k := 106) f10_init_728 (by decide) kk_130 (by decide) (evI_242) ?_
  refine mV_dup f10_init_729 rfl ?_
  refine mV_push f10_init_730 ?_
  refine mV_push f10_init_732 ?_
  refine mV_stoX (k := 107) f10_init_734 (by decide) kk_130 (by decide) (evI_243) ?_
  refine mV_dup f10_init_735 rfl ?_
  refine mV_push f10_init_736 ?_
  refine mV_push f10_init_738 ?_
  refine mV_stoX (k := 108) f10_init_740 (by decide) kk_130 (by decide) (evI_244) ?_
  refine mV_dup f10_init_741 rfl ?_
  refine mV_push f10_init_742 ?_
  refine mV_push f10_init_744 ?_
  refine mV_stoX (k := 109) f10_init_746 (by decide) kk_130 (by decide) (evI_245) ?_
  refine mV_dup f10_init_747 rfl ?_
  refine mV_push f10_init_748 ?_
  refine mV_push f10_init_750 ?_
  refine mV_stoX (k := 110) f10_init_752 (by decide) kk_130 (by decide) (evI_246) ?_
  refine mV_dup f10_init_753 rfl ?_
  refine mV_push f10_init_754 ?_
  refine mV_push f10_init_756 ?_
  refine mV_stoX (k := 111) f10_init_758 (by decide) kk_130 (by decide) (evI_247) ?_
  refine mV_dup f10_init_759 rfl ?_
  refine mV_push f10_init_760 ?_
  refine mV_push f10_init_762 ?_
  refine mV_stoX (k := 112) f10_init_764 (by decide) kk_130 (by decide) (evI_248) ?_
  refine mV_dup f10_init_765 rfl ?_
  refine mV_push f10_init_766 ?_
  refine mV_push f10_init_768 ?_
  refine mV_stoX (k := 113) f10_init_770 (by decide) kk_130 (by decide) (evI_249) ?_
  refine mV_dup f10_init_771 rfl ?_
  refine mV_push f10_init_772 ?_
  refine mV_push f10_init_774 ?_
  refine mV_stoX (k := 114) f10_init_776 (by decide) kk_130 (by decide) (evI_250) ?_
  refine mV_dup f10_init_777 rfl ?_
  refine mV_push f10_init_778 ?_
  refine mV_push f10_init_780 ?_
  refine mV_stoX (k := 115) f10_init_782 (by decide) kk_130 (by decide) (evI_251) ?_
  refine mV_dup f10_init_783 rfl ?_
  refine mV_push f10_init_784 ?_
  refine mV_push f10_init_786 ?_
  refine mV_stoX (k := 116) f10_init_788 (by decide) kk_130 (by decide) (evI_252) ?_
  refine mV_dup f10_init_789 rfl ?_
  refine mV_push f10_init_790 ?_
  refine mV_push f10_init_792 ?_
  refine mV_stoX (k := 117) f10_init_794 (by decide) kk_130 (by decide) (evI_253) ?_
  refine mV_dup f10_init_795 rfl ?_
  refine mV_push f10_init_796 ?_
  refine mV_push f10_init_798 ?_
  refine mV_stoX (k := 118) f10_init_800 (by decide) kk_130 (by decide) (evI_254) ?_
  refine mV_dup f10_init_801 rfl ?_
  refine mV_push f10_init_802 ?_
  refine mV_push f10_init_804 ?_
  refine mV_stoX (k := 119) f10_init_806 (by decide) kk_130 (by decide) (evI_255) ?_
  refine mV_dup f10_init_807 rfl ?_
  refine mV_push f10_init_808 ?_
  refine mV_push f10_init_810 ?_
  refine mV_stoX (k := 120) f10_init_812 (by decide) kk_130 (by decide) (evI_256) ?_
  refine mV_dup f10_init_813 rfl ?_
  refine mV_push f10_init_814 ?_
  refine mV_push f10_init_816 ?_
  refine mV_stoX (k := 121) f10_init_818 (by decide) kk_130 (by decide) (evI_257) ?_
  refine mV_dup f10_init_819 rfl ?_
  refine mV_push f10_init_820 ?_
  refine mV_push f10_init_822 ?_
  refine mV_stoX (k := 122) f10_init_824 (by decide) kk_130 (by decide) (evI_258) ?_
  refine mV_dup f10_init_825 rfl ?_
  refine mV_push f10_init_826 ?_
  refine mV_push f10_init_828 ?_
  refine mV_stoX (k := 123) f10_init_830 (by decide) kk_130 (by decide) (evI_259) ?_
  refine mV_dup f10_init_831 rfl ?_
  refine mV_push f10_init_832 ?_
  refine mV_push f10_init_834 ?_
  refine mV_stoX (k := 124) f10_init_836 (by decide) kk_130 (by decide) (evI_260) ?_
  refine mV_dup f10_init_837 rfl ?_
  refine mV_push f10_init_838 ?_
  refine mV_push f10_init_840 ?_
  refine mV_stoX (k := 125) f10_init_842 (by decide) kk_130 (by decide) (evI_261) ?_
  refine mV_dup f10_init_843 rfl ?_
  refine mV_push f10_init_844 ?_
  refine mV_push f10_init_846 ?_
  refine mV_stoX (k := 126) f10_init_848 (by decide) kk_130 (by decide) (evI_262) ?_
  refine mV_dup f10_init_849 rfl ?_
  refine mV_push f10_init_850 ?_
  refine mV_push f10_init_852 ?_
  refine mV_stoX (k := 127) f10_init_854 (by decide) kk_130 (by decide) (evI_263) ?_
  refine mV_dup f10_init_855 rfl ?_
  refine mV_push f10_init_856 ?_
  refine mV_push f10_init_859 ?_
  refine mV_stoX (k := 128) f10_init_861 (by decide) kk_130 (by decide) (evI_264) ?_
  refine mV_dup f10_init_862 rfl ?_
  refine mV_push f10_init_863 ?_
  refine mV_push f10_init_866 ?_
  refine mV_stoX (k := 129) f10_init_868 (by decide) kk_130 (by decide) (evI_265) ?_
  refine mV_dup f10_init_869 rfl ?_
  refine mV_push f10_init_870 ?_
  refine mV_push f10_init_873 ?_
  refine mV_stoX (k := 130) f10_init_875 (by decide) kk_130 (by decide) (evI_266) ?_
  refine mV_dup f10_init_876 rfl ?_
  refine mV_push f10_init_877 ?_
  refine mV_push f10_init_880 ?_
  refine mV_stoX (k := 131) f10_init_882 (by decide) kk_130 (by decide) (evI_267) ?_
  refine mV_dup f10_init_883 rfl ?_
  refine mV_push f10_init_884 ?_
  refine mV_push f10_init_887 ?_
  refine mV_stoX (k := 132) f10_init_889 (by decide) kk_130 (by decide) (evI_268) ?_
  refine mV_dup f10_init_890 rfl ?_
  refine mV_push f10_init_891 ?_
  refine mV_push f10_init_894 ?_
  refine mV_stoX (k := 133) f10_init_896 (by decide) kk_130 (by decide) (evI_269) ?_
  refine mV_dup f10_init_897 rfl ?_
  refine mV_push f10_init_898 ?_
  refine mV_push f10_init_901 ?_
  refine mV_stoX (k := 134) f10_init_903 (by decide) kk_130 (by decide) (evI_270) ?_
  refine mV_dup f10_init_904 rfl ?_
  refine mV_push f10_init_905 ?_
  refine mV_push f10_init_908 ?_
  refine mV_stoX (k := 135) f10_init_910 (by decide) kk_130 (by decide) (evI_271) ?_
  refine mV_dup f10_init_911 rfl ?_
  refine mV_push f10_init_912 ?_
  refine mV_push f10_init_915 ?_
  refine mV_stoX (k := 136) f10_init_917 (by decide) kk_130 (by decide) (evI_272) ?_
  refine mV_dup f10_init_918 rfl ?_
  refine mV_push f10_init_919 ?_
  refine mV_push f10_init_922 ?_
  refine mV_stoX (k := 137) f10_init_924 (by decide) kk_130 (by decide) (evI_273) ?_
  refine mV_dup f10_init_925 rfl ?_
  refine mV_push f10_init_926 ?_
  refine mV_push f10_init_929 ?_
  refine mV_stoX (k := 138) f10_init_931 (by decide) kk_130 (by decide) (evI_274) ?_
  refine mV_dup f10_init_932 rfl ?_
  refine mV_push f10_init_933 ?_
  refine mV_push f10_init_936 ?_
  refine mV_stoX (k := 139) f10_init_938 (by decide) kk_130 (by decide) (evI_275) ?_
  refine mV_dup f10_init_939 rfl ?_
  refine mV_push f10_init_940 ?_
  refine mV_push f10_init_943 ?_
  refine mV_stoX (k := 140) f10_init_945 (by decide) kk_130 (by decide) (evI_276) ?_
  refine mV_dup f10_init_946 rfl ?_
  refine mV_push f10_init_947 ?_
  refine mV_push f10_init_950 ?_
  refine mV_stoX (k := 141) f10_init_952 (by decide) kk_130 (by decide) (evI_277) ?_
  refine mV_dup f10_init_953 rfl ?_
  refine mV_push f10_init_954 ?_
  refine mV_push f10_init_957 ?_
  refine mV_stoX (k := 142) f10_init_959 (by decide) kk_130 (by decide) (evI_278) ?_
  refine mV_putPX f10_init_960 (by decide) kk_119 rfl (evP_130) ?_
  refine mV_aload f10_init_963 rfl ?_
  refine mV_push f10_init_964 ?_
  refine mV_newaX (n' := 132) (N := 2) f10_init_965 rfl rfl (by decide) (by decide) (by decide) (by decide) (by decide) ?_
  refine mV_putPX f10_init_967 (by decide) kk_119 rfl (evP_131) ?_
  refine mV_aload f10_init_970 rfl ?_
  refine mV_push f10_init_971 ?_
  refine mV_newaX (n' := 133) (N := 48) f10_init_973 rfl rfl (by decide) (by decide) (by decide) (by decide) (by decide) ?_
  refine mV_putPX f10_init_975 (by decide) kk_119 rfl (evP_132) ?_
  refine mV_aload f10_init_978 rfl ?_
  refine mV_push f10_init_979 ?_
  refine mV_newaX (n' := 134) (N := 48) f10_init_981 rfl rfl (by decide) (by decide) (by decide) (by decide) (by decide) ?_
  refine mV_putPX f10_init_983 (by decide) kk_119 rfl (evP_133) ?_
  refine mV_aload f10_init_986 rfl ?_
  refine mV_push f10_init_987 ?_
  refine mV_newaX (n' := 135) (N := 48) f10_init_989 rfl rfl (by decide) (by decide) (by decide) (by decide) (by decide) ?_
  refine mV_putPX f10_init_991 (by decide) kk_119 rfl (evP_134) ?_
  refine mV_aload f10_init_994 rfl ?_
  refine mV_push f10_init_995 ?_
  refine mV_newaX (n' := 136) (N := 48) f10_init_997 rfl rfl (by decide) (by decide) (by decide) (by decide) (by decide) ?_
  refine mV_putPX f10_init_999 (by decide) kk_119 rfl (evP_135) ?_
  refine mV_aload f10_init_1002 rfl ?_
  refine mV_push f10_init_1003 ?_
  refine mV_newaX (n' := 137) (N := 1200) f10_init_1006 rfl rfl (by decide) (by decide) (by decide) (by decide) (by decide) ?_
  refine mV_putPX f10_init_1008 (by decide) kk_119 rfl (evP_136) ?_
  refine mV_aload f10_init_1011 rfl ?_
  refine mV_push f10_init_1012 ?_
  refine mV_newaX (n' := 138) (N := 1200) f10_init_1015 rfl rfl (by decide) (by decide) (by decide) (by decide) (by decide) ?_
  refine mV_putPX f10_init_1017 (by decide) kk_119 rfl (evP_137) ?_
  refine mV_aload f10_init_1020 rfl ?_
  refine mV_push f10_init_1021 ?_
  refine mV_newaX (n' := 139) (N := 40) f10_init_1023 rfl rfl (by decide) (by decide) (by decide) (by decide) (by decide) ?_
  refine mV_putPX f10_init_1025 (by decide) kk_119 rfl (evP_138) ?_
  refine mV_aload f10_init_1028 rfl ?_
  refine mV_push f10_init_1029 ?_
  refine mV_putIX f10_init_1030 (by decide) kk_119 rfl rfl (evI_279) ?_
  refine mV_aload f10_init_1033 rfl ?_
  refine mV_push f10_init_1034 ?_
  refine mV_newaX (n' := 140) (N := 288) f10_init_1037 rfl rfl (by decide) (by decide) (by decide) (by decide) (by decide) ?_
  refine mV_putPX f10_init_1039 (by decide) kk_119 rfl (evP_139) ?_
  refine mV_aload f10_init_1042 rfl ?_
  refine mV_push f10_init_1043 ?_
  refine mV_newaX (n' := 141) (N := 96) f10_init_1045 rfl rfl (by decide) (by decide) (by decide) (by decide) (by decide) ?_
  refine mV_putPX f10_init_1047 (by decide) kk_119 rfl (evP_140) ?_
  refine mV_aload f10_init_1050 rfl ?_
  refine mV_push f10_init_1051 ?_
  refine mV_newaX (n' := 142) (N := 24) f10_init_1053 rfl rfl (by decide) (by decide) (by decide) (by decide) (by decide) ?_
  refine mV_putPX f10_init_1055 (by decide) kk_119 rfl (evP_141) ?_
  refine mV_aload f10_init_1058 rfl ?_
  refine mV_push f10_init_1059 ?_
  refine mV_newaX (n' := 143) (N := 12) f10_init_1061 rfl rfl (by decide) (by decide) (by decide) (by decide) (by decide) ?_
  refine mV_putPX f10_init_1063 (by decide) kk_119 rfl (evP_142) ?_
  refine mV_aload f10_init_1066 rfl ?_
  refine mV_push f10_init_1067 ?_
  refine mV_newaX (n' := 144) (N := 420) f10_init_1070 rfl rfl (by decide) (by decide) (by decide) (by decide) (by decide) ?_
  refine mV_putPX f10_init_1072 (by decide) kk_119 rfl (evP_143) ?_
  refine mV_aload f10_init_1075 rfl ?_
  refine mV_push f10_init_1076 ?_
  refine mV_newaX (n' := 145) (N := 5) f10_init_1077 rfl rfl (by decide) (by decide) (by decide) (by decide) (by decide) ?_
  refine mV_putPX f10_init_1079 (by decide) kk_119 rfl (evP_144) ?_
  refine mV_aload f10_init_1082 rfl ?_
  refine mV_push f10_init_1083 ?_
  refine mV_newaX (n' := 146) (N := 5) f10_init_1084 rfl rfl (by decide) (by decide) (by decide) (by decide) (by decide) ?_
  refine mV_putPX f10_init_1086 (by decide) kk_119 rfl (evP_145) ?_
  refine mV_aload f10_init_1089 rfl ?_
  refine mV_push f10_init_1090 ?_
  refine mV_newaX (n' := 147) (N := 16) f10_init_1092 rfl rfl (by decide) (by decide) (by decide) (by decide) (by decide) ?_
  refine mV_putPX f10_init_1094 (by decide) kk_119 rfl (evP_146) ?_
  refine mV_aload f10_init_1097 rfl ?_
  refine mV_push f10_init_1098 ?_
  refine mV_newaX (n' := 148) (N := 96) f10_init_1100 rfl rfl (by decide) (by decide) (by decide) (by decide) (by decide) ?_
  refine mV_putPX f10_init_1102 (by decide) kk_119 rfl (evP_147) ?_
  refine mV_aload f10_init_1105 rfl ?_
  refine mV_push f10_init_1106 ?_
  refine mV_newaX (n' := 149) (N := 225) f10_init_1109 rfl rfl (by decide) (by decide) (by decide) (by decide) (by decide) ?_
  refine mV_putPX f10_init_1111 (by decide) kk_119 rfl (evP_148) ?_
  refine mV_aload f10_init_1114 rfl ?_
  refine mV_push f10_init_1115 ?_
  refine mV_newaX (n' := 150) (N := 8) f10_init_1117 rfl rfl (by decide) (by decide) (by decide) (by decide) (by decide) ?_
  refine mV_putPX f10_init_1119 (by decide) kk_119 rfl (evP_149) ?_
  refine mV_aload f10_init_1122 rfl ?_
  refine mV_push f10_init_1123 ?_
  refine mV_newaX (n' := 151) (N := 9) f10_init_1125 rfl rfl (by decide) (by decide) (by decide) (by decide) (by decide) ?_
  refine mV_putPX f10_init_1127 (by decide) kk_119 rfl (evP_150) ?_
  refine mV_aload f10_init_1130 rfl ?_
  refine mV_push f10_init_1131 ?_
  refine mV_newaX (n' := 152) (N := 9) f10_init_1133 rfl rfl (by decide) (by decide) (by decide) (by decide) (by decide) ?_
  refine mV_putPX f10_init_1135 (by decide) kk_119 rfl (evP_151) ?_
  refine mV_aload f10_init_1138 rfl ?_
  refine mV_push f10_init_1139 ?_
  refine mV_newaX (n' := 153) (N := 9) f10_init_1141 rfl rfl (by decide) (by decide) (by decide) (by decide) (by decide) ?_
  refine mV_putPX f10_init_1143 (by decide) kk_119 rfl (evP_152) ?_
  refine mV_aload f10_init_1146 rfl ?_
  refine mV_push f10_init_1147 ?_
  refine mV_newaX (n' := 154) (N := 6) f10_init_1149 rfl rfl (by decide) (by decide) (by decide) (by decide) (by decide) ?_
  refine mV_putPX f10_init_1151 (by decide) kk_119 rfl (evP_153) ?_
  refine mV_aload f10_init_1154 rfl ?_
  refine mV_push f10_init_1155 ?_
  refine mV_newaX (n' := 155) (N := 2300) f10_init_1158 rfl rfl (by decide) (by decide) (by decide) (by decide) (by decide) ?_
  refine mV_putPX f10_init_1160 (by decide) kk_119 rfl (evP_154) ?_
  exact mV_vret rfl f10_init_1163 (mRet_ok _ _ _ _ _)

def r9_act (I : mI) (s : Nat) (x0 : Int32) (x1 : Int32) : Option (Int32 × mI × Nat) := (if (x0 : Int32) = (0 : Int32) then if (x1 : Int32) < (0 : Int32) then some 0 else if (8 : Int32) ≤ (x1 : Int32) then some 0 else (mLd I 7 8 x1).bind fun z1 => if (z1 : Int32) ≤ (0 : Int32) then some 0 else some 1 else some 0 : Option (Int32)).bind fun z0 => (if (x0 : Int32) = (1 : Int32) then if (I 3 5 : Int32) ≤ (0 : Int32) then some 0 else some 1 else some 0 : Option (Int32)).bind fun z2 => (if (x0 : Int32) = (2 : Int32) then if (x1 : Int32) < (1 : Int32) then some 0 else if (99 : Int32) < (x1 : Int32) then some 0 else some 1 else some 0 : Option (Int32)).bind fun z3 => if (z0 : Int32) = (0 : Int32) then if (z2 : Int32) = (0 : Int32) then if (z3 : Int32) = (0 : Int32) then some (0, I, s) else (r3_keep I).bind fun z16 => (r5_wake z16 s).bind fun z17 => (if (z0 : Int32) = (0 : Int32) then if (z2 : Int32) = (0 : Int32) then (r5_bringChild z17 3 x1).bind fun z19 => some z19 else (r5_emptyDrawer z17 3).bind fun z20 => some z20 else (r5_tuneString z17 3 x1).bind fun z21 => some z21 : Option (mI)).bind fun z18 => some (1, z18, 3) else (r3_keep I).bind fun z10 => (r5_wake z10 s).bind fun z11 => (if (z0 : Int32) = (0 : Int32) then if (z2 : Int32) = (0 : Int32) then (r5_bringChild z11 3 x1).bind fun z13 => some z13 else (r5_emptyDrawer z11 3).bind fun z14 => some z14 else (r5_tuneString z11 3 x1).bind fun z15 => some z15 : Option (mI)).bind fun z12 => some (1, z12, 3) else (r3_keep I).bind fun z4 => (r5_wake z4 s).bind fun z5 => (if (z0 : Int32) = (0 : Int32) then if (z2 : Int32) = (0 : Int32) then (r5_bringChild z5 3 x1).bind fun z7 => some z7 else (r5_emptyDrawer z5 3).bind fun z8 => some z8 else (r5_tuneString z5 3 x1).bind fun z9 => some z9 : Option (mI)).bind fun z6 => some (1, z6, 3)
set_option maxHeartbeats 4000000 in
set_option maxRecDepth 100000 in
theorem w9_act (X : Nat × (Nat → Int32)) (I : mI) (s : Nat) (hs : mStg s) (x0 : Int32) (x1 : Int32) (Q : mQ) {res : Int32 × mI × Nat} (hr : r9_act I s x0 x1 = some res) (hQ : Q (some (.int res.1)) NN KK res.2.1 (PP res.2.2)) : mV X m9_act 3 0 0 0 [.ref 0, .int x0, .int x1, mX0, mX0, mX0, mX0] [] NN KK I (PP s) Q := by
  unfold r9_act at hr
  refine mV_aload f9_act_0 rfl ?_
  refine mV_getP f9_act_1 (by decide) kk_0 rfl (pp_0_1 _) ?_
  refine mV_getP f9_act_4 (by decide) kk_2 rfl (pp_2_0 _) ?_
  refine mV_astore (L' := [.ref 0, .int x0, .int x1, .ref 3, mX0, mX0, mX0]) f9_act_7 (by decide) rfl rfl ?_
  refine mV_iload f9_act_8 rfl ?_
  obtain ⟨z0, hz0, hr⟩ := mBind hr
  have keyz0 : mV X m9_act 3 0 0 36 [.ref 0, .int x0, .int x1, .ref 3, mX0, mX0, mX0] [.int z0] NN KK I (PP s) Q := by
    refine mV_istore (L' := [.ref 0, .int x0, .int x1, .ref 3, .int z0, mX0, mX0]) f9_act_36 (by decide) rfl rfl ?_
    refine mV_iload f9_act_38 rfl ?_
    refine mV_push f9_act_39 ?_
    obtain ⟨z2, hz2, hr⟩ := mBind hr
    have keyz2 : mV X m9_act 3 0 0 55 [.ref 0, .int x0, .int x1, .ref 3, .int z0, mX0, mX0] [.int z2] NN KK I (PP s) Q := by
      refine mV_istore (L' := [.ref 0, .int x0, .int x1, .ref 3, .int z0, .int z2, mX0]) f9_act_55 (by decide) rfl rfl ?_
      refine mV_iload f9_act_57 rfl ?_
      refine mV_push f9_act_58 ?_
      obtain ⟨z3, hz3, hr⟩ := mBind hr
      have keyz3 : mV X m9_act 3 0 0 78 [.ref 0, mX0, .int x1, .ref 3, .int z0, .int z2, mX0] [.int z3] NN KK I (PP s) Q := by
        refine mV_istore (L' := [.ref 0, mX0, .int x1, .ref 3, .int z0, .int z2, .int z3]) f9_act_78 (by decide) rfl rfl ?_
        refine mV_iload f9_act_80 rfl ?_
        refine mV_if_ne f9_act_82 (fun h9 => ?_) (fun h9 => ?_)
        · rw [if_neg h9] at hr
          refine mV_aload f9_act_97 rfl ?_
          refine mV_getP f9_act_98 (by decide) kk_0 rfl (pp_0_4 _) ?_
          refine mV_aload f9_act_101 rfl ?_
          obtain ⟨z4, hz4, hr⟩ := mBind hr
          refine mV_cV f9_act_102 tg_m3_keep mCls3 (by decide) kk_77 (mC_deep (c3_keep X I s hz4) (by decide)) rfl rfl (Nat.le_of_ble_eq_true rfl) ?_
          refine mV_aload f9_act_105 rfl ?_
          refine mV_getP f9_act_106 (by decide) kk_0 rfl (pp_0_0 _) ?_
          obtain ⟨z5, hz5, hr⟩ := mBind hr
          refine mV_cV f9_act_109 tg_m5_wake mCls5 (by decide) kk_1 (mC_deep (c5_wake X z4 s hz5) (by decide)) rfl rfl (Nat.le_of_ble_eq_true rfl) ?_
          refine mV_iload f9_act_112 rfl ?_
          obtain ⟨z6, hz6, hr⟩ := mBind hr
          have keyz6 : mV X m9_act 3 0 0 151 [.ref 0, mX0, mX0, .ref 3, mX0, mX0, mX0] [] NN KK z6 (PP 3) Q := by
            refine mV_push f9_act_151 ?_
            have hr := Option.some.inj hr; subst hr
            exact mV_iret rfl rfl f9_act_152 hQ
          clear hr
          have hr := hz6
          clear hz6
          refine mV_if_eq f9_act_114 (fun h10 => ?_) (fun h10 => ?_)
          · rw [if_pos h10] at hr
            refine mV_iload f9_act_128 rfl ?_
            refine mV_if_eq f9_act_130 (fun h11 => ?_) (fun h11 => ?_)
            · rw [if_pos h11] at hr
              refine mV_aload f9_act_143 rfl ?_
              refine mV_getP f9_act_144 (by decide) kk_0 rfl (pp_0_0 _) ?_
              refine mV_iload f9_act_147 rfl ?_
              obtain ⟨z7, hz7, hr⟩ := mBind hr
              refine mV_cV f9_act_148 tg_m5_bringChild mCls5 (by decide) kk_1 (mC_deep (c5_bringChild X z5 3 mStg_3 x1 hz7) (by decide)) rfl rfl (Nat.le_of_ble_eq_true rfl) ?_
              have hr := Option.some.inj hr; subst hr
              refine mV_drop (L' := [.ref 0, mX0, mX0, .ref 3, mX0, mX0, mX0]) (mSub_k (mSub_x (mSub_x (mSub_k (mSub_x (mSub_x (mSub_x mSub_n))))))) ?_
              exact keyz6
            · rw [if_neg h11] at hr
              refine mV_aload f9_act_133 rfl ?_
              refine mV_getP f9_act_134 (by decide) kk_0 rfl (pp_0_0 _) ?_
              obtain ⟨z8, hz8, hr⟩ := mBind hr
              refine mV_cV f9_act_137 tg_m5_emptyDrawer mCls5 (by decide) kk_1 (mC_deep (c5_emptyDrawer X z5 3 mStg_3 hz8) (by decide)) rfl rfl (Nat.le_of_ble_eq_true rfl) ?_
              refine mV_goto f9_act_140 ?_
              have hr := Option.some.inj hr; subst hr
              refine mV_drop (L' := [.ref 0, mX0, mX0, .ref 3, mX0, mX0, mX0]) (mSub_k (mSub_x (mSub_x (mSub_k (mSub_x (mSub_x (mSub_x mSub_n))))))) ?_
              exact keyz6
          · rw [if_neg h10] at hr
            refine mV_aload f9_act_117 rfl ?_
            refine mV_getP f9_act_118 (by decide) kk_0 rfl (pp_0_0 _) ?_
            refine mV_iload f9_act_121 rfl ?_
            obtain ⟨z9, hz9, hr⟩ := mBind hr
            refine mV_cV f9_act_122 tg_m5_tuneString mCls5 (by decide) kk_1 (mC_deep (c5_tuneString X z5 3 mStg_3 x1 hz9) (by decide)) rfl rfl (Nat.le_of_ble_eq_true rfl) ?_
            refine mV_goto f9_act_125 ?_
            have hr := Option.some.inj hr; subst hr
            refine mV_drop (L' := [.ref 0, mX0, mX0, .ref 3, mX0, mX0, mX0]) (mSub_k (mSub_x (mSub_x (mSub_k (mSub_x (mSub_x (mSub_x mSub_n))))))) ?_
            exact keyz6
        · rw [if_pos h9] at hr
          refine mV_iload f9_act_85 rfl ?_
          refine mV_if_ne f9_act_87 (fun h12 => ?_) (fun h12 => ?_)
          · rw [if_neg h12] at hr
            refine mV_aload f9_act_97 rfl ?_
            refine mV_getP f9_act_98 (by decide) kk_0 rfl (pp_0_4 _) ?_
            refine mV_aload f9_act_101 rfl ?_
            obtain ⟨z10, hz10, hr⟩ := mBind hr
            refine mV_cV f9_act_102 tg_m3_keep mCls3 (by decide) kk_77 (mC_deep (c3_keep X I s hz10) (by decide)) rfl rfl (Nat.le_of_ble_eq_true rfl) ?_
            refine mV_aload f9_act_105 rfl ?_
            refine mV_getP f9_act_106 (by decide) kk_0 rfl (pp_0_0 _) ?_
            obtain ⟨z11, hz11, hr⟩ := mBind hr
            refine mV_cV f9_act_109 tg_m5_wake mCls5 (by decide) kk_1 (mC_deep (c5_wake X z10 s hz11) (by decide)) rfl rfl (Nat.le_of_ble_eq_true rfl) ?_
            refine mV_iload f9_act_112 rfl ?_
            obtain ⟨z12, hz12, hr⟩ := mBind hr
            have keyz12 : mV X m9_act 3 0 0 151 [.ref 0, mX0, mX0, .ref 3, mX0, mX0, mX0] [] NN KK z12 (PP 3) Q := by
              refine mV_push f9_act_151 ?_
              have hr := Option.some.inj hr; subst hr
              exact mV_iret rfl rfl f9_act_152 hQ
            clear hr
            have hr := hz12
            clear hz12
            refine mV_if_eq f9_act_114 (fun h13 => ?_) (fun h13 => ?_)
            · rw [if_pos h13] at hr
              refine mV_iload f9_act_128 rfl ?_
              refine mV_if_eq f9_act_130 (fun h14 => ?_) (fun h14 => ?_)
              · rw [if_pos h14] at hr
                refine mV_aload f9_act_143 rfl ?_
                refine mV_getP f9_act_144 (by decide) kk_0 rfl (pp_0_0 _) ?_
                refine mV_iload f9_act_147 rfl ?_
                obtain ⟨z13, hz13, hr⟩ := mBind hr
                refine mV_cV f9_act_148 tg_m5_bringChild mCls5 (by decide) kk_1 (mC_deep (c5_bringChild X z11 3 mStg_3 x1 hz13) (by decide)) rfl rfl (Nat.le_of_ble_eq_true rfl) ?_
                have hr := Option.some.inj hr; subst hr
                refine mV_drop (L' := [.ref 0, mX0, mX0, .ref 3, mX0, mX0, mX0]) (mSub_k (mSub_x (mSub_x (mSub_k (mSub_x (mSub_x (mSub_x mSub_n))))))) ?_
                exact keyz12
              · rw [if_neg h14] at hr
                refine mV_aload f9_act_133 rfl ?_
                refine mV_getP f9_act_134 (by decide) kk_0 rfl (pp_0_0 _) ?_
                obtain ⟨z14, hz14, hr⟩ := mBind hr
                refine mV_cV f9_act_137 tg_m5_emptyDrawer mCls5 (by decide) kk_1 (mC_deep (c5_emptyDrawer X z11 3 mStg_3 hz14) (by decide)) rfl rfl (Nat.le_of_ble_eq_true rfl) ?_
                refine mV_goto f9_act_140 ?_
                have hr := Option.some.inj hr; subst hr
                refine mV_drop (L' := [.ref 0, mX0, mX0, .ref 3, mX0, mX0, mX0]) (mSub_k (mSub_x (mSub_x (mSub_k (mSub_x (mSub_x (mSub_x mSub_n))))))) ?_
                exact keyz12
            · rw [if_neg h13] at hr
              refine mV_aload f9_act_117 rfl ?_
              refine mV_getP f9_act_118 (by decide) kk_0 rfl (pp_0_0 _) ?_
              refine mV_iload f9_act_121 rfl ?_
              obtain ⟨z15, hz15, hr⟩ := mBind hr
              refine mV_cV f9_act_122 tg_m5_tuneString mCls5 (by decide) kk_1 (mC_deep (c5_tuneString X z11 3 mStg_3 x1 hz15) (by decide)) rfl rfl (Nat.le_of_ble_eq_true rfl) ?_
              refine mV_goto f9_act_125 ?_
              have hr := Option.some.inj hr; subst hr
              refine mV_drop (L' := [.ref 0, mX0, mX0, .ref 3, mX0, mX0, mX0]) (mSub_k (mSub_x (mSub_x (mSub_k (mSub_x (mSub_x (mSub_x mSub_n))))))) ?_
              exact keyz12
          · rw [if_pos h12] at hr
            refine mV_iload f9_act_90 rfl ?_
            refine mV_if_ne f9_act_92 (fun h15 => ?_) (fun h15 => ?_)
            · rw [if_neg h15] at hr
              refine mV_aload f9_act_97 rfl ?_
              refine mV_getP f9_act_98 (by decide) kk_0 rfl (pp_0_4 _) ?_
              refine mV_aload f9_act_101 rfl ?_
              obtain ⟨z16, hz16, hr⟩ := mBind hr
              refine mV_cV f9_act_102 tg_m3_keep mCls3 (by decide) kk_77 (mC_deep (c3_keep X I s hz16) (by decide)) rfl rfl (Nat.le_of_ble_eq_true rfl) ?_
              refine mV_aload f9_act_105 rfl ?_
              refine mV_getP f9_act_106 (by decide) kk_0 rfl (pp_0_0 _) ?_
              obtain ⟨z17, hz17, hr⟩ := mBind hr
              refine mV_cV f9_act_109 tg_m5_wake mCls5 (by decide) kk_1 (mC_deep (c5_wake X z16 s hz17) (by decide)) rfl rfl (Nat.le_of_ble_eq_true rfl) ?_
              refine mV_iload f9_act_112 rfl ?_
              obtain ⟨z18, hz18, hr⟩ := mBind hr
              have keyz18 : mV X m9_act 3 0 0 151 [.ref 0, mX0, mX0, .ref 3, mX0, mX0, mX0] [] NN KK z18 (PP 3) Q := by
                refine mV_push f9_act_151 ?_
                have hr := Option.some.inj hr; subst hr
                exact mV_iret rfl rfl f9_act_152 hQ
              clear hr
              have hr := hz18
              clear hz18
              refine mV_if_eq f9_act_114 (fun h16 => ?_) (fun h16 => ?_)
              · rw [if_pos h16] at hr
                refine mV_iload f9_act_128 rfl ?_
                refine mV_if_eq f9_act_130 (fun h17 => ?_) (fun h17 => ?_)
                · rw [if_pos h17] at hr
                  refine mV_aload f9_act_143 rfl ?_
                  refine mV_getP f9_act_144 (by decide) kk_0 rfl (pp_0_0 _) ?_
                  refine mV_iload f9_act_147 rfl ?_
                  obtain ⟨z19, hz19, hr⟩ := mBind hr
                  refine mV_cV f9_act_148 tg_m5_bringChild mCls5 (by decide) kk_1 (mC_deep (c5_bringChild X z17 3 mStg_3 x1 hz19) (by decide)) rfl rfl (Nat.le_of_ble_eq_true rfl) ?_
                  have hr := Option.some.inj hr; subst hr
                  refine mV_drop (L' := [.ref 0, mX0, mX0, .ref 3, mX0, mX0, mX0]) (mSub_k (mSub_x (mSub_x (mSub_k (mSub_x (mSub_x (mSub_x mSub_n))))))) ?_
                  exact keyz18
                · rw [if_neg h17] at hr
                  refine mV_aload f9_act_133 rfl ?_
                  refine mV_getP f9_act_134 (by decide) kk_0 rfl (pp_0_0 _) ?_
                  obtain ⟨z20, hz20, hr⟩ := mBind hr
                  refine mV_cV f9_act_137 tg_m5_emptyDrawer mCls5 (by decide) kk_1 (mC_deep (c5_emptyDrawer X z17 3 mStg_3 hz20) (by decide)) rfl rfl (Nat.le_of_ble_eq_true rfl) ?_
                  refine mV_goto f9_act_140 ?_
                  have hr := Option.some.inj hr; subst hr
                  refine mV_drop (L' := [.ref 0, mX0, mX0, .ref 3, mX0, mX0, mX0]) (mSub_k (mSub_x (mSub_x (mSub_k (mSub_x (mSub_x (mSub_x mSub_n))))))) ?_
                  exact keyz18
              · rw [if_neg h16] at hr
                refine mV_aload f9_act_117 rfl ?_
                refine mV_getP f9_act_118 (by decide) kk_0 rfl (pp_0_0 _) ?_
                refine mV_iload f9_act_121 rfl ?_
                obtain ⟨z21, hz21, hr⟩ := mBind hr
                refine mV_cV f9_act_122 tg_m5_tuneString mCls5 (by decide) kk_1 (mC_deep (c5_tuneString X z17 3 mStg_3 x1 hz21) (by decide)) rfl rfl (Nat.le_of_ble_eq_true rfl) ?_
                refine mV_goto f9_act_125 ?_
                have hr := Option.some.inj hr; subst hr
                refine mV_drop (L' := [.ref 0, mX0, mX0, .ref 3, mX0, mX0, mX0]) (mSub_k (mSub_x (mSub_x (mSub_k (mSub_x (mSub_x (mSub_x mSub_n))))))) ?_
                exact keyz18
            · rw [if_pos h15] at hr
              refine mV_push f9_act_95 ?_
              have hr := Option.some.inj hr; subst hr
              exact mV_iret rfl rfl f9_act_96 hQ
      clear hr
      have hr := hz3
      clear hz3
      refine mV_icmp_ne f9_act_59 (fun h6 => ?_) (fun h6 => ?_)
      · rw [if_neg h6] at hr
        refine mV_push f9_act_77 ?_
        have hr := Option.some.inj hr; subst hr
        refine mV_drop (L' := [.ref 0, mX0, .int x1, .ref 3, .int z0, .int z2, mX0]) (mSub_k (mSub_x (mSub_k (mSub_k (mSub_k (mSub_k (mSub_x mSub_n))))))) ?_
        exact keyz3
      · rw [if_pos h6] at hr
        refine mV_iload f9_act_62 rfl ?_
        refine mV_push f9_act_63 ?_
        refine mV_icmp_lt f9_act_64 (fun h7 => ?_) (fun h7 => ?_)
        · rw [if_pos h7] at hr
          refine mV_push f9_act_77 ?_
          have hr := Option.some.inj hr; subst hr
          refine mV_drop (L' := [.ref 0, mX0, .int x1, .ref 3, .int z0, .int z2, mX0]) (mSub_k (mSub_x (mSub_k (mSub_k (mSub_k (mSub_k (mSub_x mSub_n))))))) ?_
          exact keyz3
        · rw [if_neg h7] at hr
          refine mV_iload f9_act_67 rfl ?_
          refine mV_push f9_act_68 ?_
          refine mV_icmp_gt f9_act_70 (fun h8 => ?_) (fun h8 => ?_)
          · rw [if_pos h8] at hr
            refine mV_push f9_act_77 ?_
            have hr := Option.some.inj hr; subst hr
            refine mV_drop (L' := [.ref 0, mX0, .int x1, .ref 3, .int z0, .int z2, mX0]) (mSub_k (mSub_x (mSub_k (mSub_k (mSub_k (mSub_k (mSub_x mSub_n))))))) ?_
            exact keyz3
          · rw [if_neg h8] at hr
            refine mV_push f9_act_73 ?_
            refine mV_goto f9_act_74 ?_
            have hr := Option.some.inj hr; subst hr
            refine mV_drop (L' := [.ref 0, mX0, .int x1, .ref 3, .int z0, .int z2, mX0]) (mSub_k (mSub_x (mSub_k (mSub_k (mSub_k (mSub_k (mSub_x mSub_n))))))) ?_
            exact keyz3
    clear hr
    have hr := hz2
    clear hz2
    refine mV_icmp_ne f9_act_40 (fun h4 => ?_) (fun h4 => ?_)
    · rw [if_neg h4] at hr
      refine mV_push f9_act_54 ?_
      have hr := Option.some.inj hr; subst hr
      exact keyz2
    · rw [if_pos h4] at hr
      refine mV_aload f9_act_43 rfl ?_
      refine mV_gI (I 3 5) f9_act_44 (by decide) kk_3 rfl rfl ?_
      refine mV_if_le f9_act_47 (fun h5 => ?_) (fun h5 => ?_)
      · rw [if_pos h5] at hr
        refine mV_push f9_act_54 ?_
        have hr := Option.some.inj hr; subst hr
        exact keyz2
      · rw [if_neg h5] at hr
        refine mV_push f9_act_50 ?_
        refine mV_goto f9_act_51 ?_
        have hr := Option.some.inj hr; subst hr
        exact keyz2
  clear hr
  have hr := hz0
  clear hz0
  refine mV_if_ne f9_act_9 (fun h0 => ?_) (fun h0 => ?_)
  · rw [if_neg h0] at hr
    refine mV_push f9_act_35 ?_
    have hr := Option.some.inj hr; subst hr
    exact keyz0
  · rw [if_pos h0] at hr
    refine mV_iload f9_act_12 rfl ?_
    refine mV_if_lt f9_act_13 (fun h1 => ?_) (fun h1 => ?_)
    · rw [if_pos h1] at hr
      refine mV_push f9_act_35 ?_
      have hr := Option.some.inj hr; subst hr
      exact keyz0
    · rw [if_neg h1] at hr
      refine mV_iload f9_act_16 rfl ?_
      refine mV_push f9_act_17 ?_
      refine mV_icmp_ge f9_act_19 (fun h2 => ?_) (fun h2 => ?_)
      · rw [if_pos h2] at hr
        refine mV_push f9_act_35 ?_
        have hr := Option.some.inj hr; subst hr
        exact keyz0
      · rw [if_neg h2] at hr
        refine mV_aload f9_act_22 rfl ?_
        refine mV_getP f9_act_23 (by decide) kk_3 rfl (pp_3_3 _) ?_
        refine mV_iload f9_act_26 rfl ?_
        obtain ⟨z1, hz1, hr⟩ := mBind hr
        refine mV_ldO f9_act_27 (by decide) kk_7 hz1 ?_
        refine mV_if_le f9_act_28 (fun h3 => ?_) (fun h3 => ?_)
        · rw [if_pos h3] at hr
          refine mV_push f9_act_35 ?_
          have hr := Option.some.inj hr; subst hr
          exact keyz0
        · rw [if_neg h3] at hr
          refine mV_push f9_act_31 ?_
          refine mV_goto f9_act_32 ?_
          have hr := Option.some.inj hr; subst hr
          exact keyz0
theorem c9_act (X : Nat × (Nat → Int32)) (I : mI) (s : Nat) (hs : mStg s) (x0 : Int32) (x1 : Int32) {res : Int32 × mI × Nat} (hr : r9_act I s x0 x1 = some res) : mC X m9_act 3 0 0 [.ref 0, .int x0, .int x1] NN KK I (PP s) (mRet (some (.int res.1)) NN KK res.2.1 (PP res.2.2)) :=
  mC_of (L0 := [.ref 0, .int x0, .int x1, mX0, mX0, mX0, mX0]) rfl (Nat.le_of_ble_eq_true rfl) (w9_act X I s hs x0 x1 _ hr (mRet_ok _ _ _ _ _))
def r6_cell_21 (I : mI) (x0 : Int32) (x1 : Int32) : Option (Int32) := (if (((x0 * 9) + x1) : Int32) < (0 : Int32) then some 0 else if (144 : Int32) ≤ (((x0 * 9) + x1) : Int32) then some 0 else (mLd I 22 144 ((x0 * 9) + x1)).bind fun z1 => some z1 : Option (Int32)).bind fun z0 => some z0
set_option maxHeartbeats 4000000 in
set_option maxRecDepth 100000 in
theorem w6_cell_21 (X : Nat × (Nat → Int32)) (I : mI) (s : Nat) (x0 : Int32) (x1 : Int32) (Q : mQ) {res : Int32} (hr : r6_cell_21 I x0 x1 = some res) (hQ : Q (some (.int res)) NN KK I (PP s)) : mV X m6_cell 0 0 0 0 [.ref 21, .int x0, .int x1, mX0] [] NN KK I (PP s) Q := by
  unfold r6_cell_21 at hr
  refine mV_iload f6_cell_0 rfl ?_
  refine mV_push f6_cell_1 ?_
  refine mV_imul f6_cell_3 ?_
  refine mV_iload f6_cell_4 rfl ?_
  refine mV_iadd f6_cell_5 ?_
  refine mV_istore (L' := [.ref 21, .int x0, .int x1, .int ((x0 * 9) + x1)]) f6_cell_6 (by decide) rfl rfl ?_
  refine mV_iload f6_cell_7 rfl ?_
  obtain ⟨z0, hz0, hr⟩ := mBind hr
  have keyz0 : mV X m6_cell 0 0 0 30 [.ref 21, mX0, mX0, mX0] [.int z0] NN KK I (PP s) Q := by
    have hr := Option.some.inj hr; subst hr
    exact mV_iret rfl rfl f6_cell_30 hQ
  clear hr
  have hr := hz0
  clear hz0
  refine mV_if_lt f6_cell_8 (fun h0 => ?_) (fun h0 => ?_)
  · rw [if_pos h0] at hr
    refine mV_push f6_cell_29 ?_
    have hr := Option.some.inj hr; subst hr
    refine mV_drop (L' := [.ref 21, mX0, mX0, mX0]) (mSub_k (mSub_x (mSub_x (mSub_x mSub_n)))) ?_
    exact keyz0
  · rw [if_neg h0] at hr
    refine mV_iload f6_cell_11 rfl ?_
    refine mV_aload f6_cell_12 rfl ?_
    refine mV_getP f6_cell_13 (by decide) kk_21 rfl (pp_21_0 _) ?_
    refine mV_alen f6_cell_16 (by decide) kk_22 ?_
    refine mV_as 144 (by decide) ?_
    refine mV_icmp_ge f6_cell_17 (fun h1 => ?_) (fun h1 => ?_)
    · rw [if_pos h1] at hr
      refine mV_push f6_cell_29 ?_
      have hr := Option.some.inj hr; subst hr
      refine mV_drop (L' := [.ref 21, mX0, mX0, mX0]) (mSub_k (mSub_x (mSub_x (mSub_x mSub_n)))) ?_
      exact keyz0
    · rw [if_neg h1] at hr
      refine mV_aload f6_cell_20 rfl ?_
      refine mV_getP f6_cell_21 (by decide) kk_21 rfl (pp_21_0 _) ?_
      refine mV_iload f6_cell_24 rfl ?_
      obtain ⟨z1, hz1, hr⟩ := mBind hr
      refine mV_ldO f6_cell_25 (by decide) kk_22 hz1 ?_
      refine mV_goto f6_cell_26 ?_
      have hr := Option.some.inj hr; subst hr
      refine mV_drop (L' := [.ref 21, mX0, mX0, mX0]) (mSub_k (mSub_x (mSub_x (mSub_x mSub_n)))) ?_
      exact keyz0
theorem c6_cell_21 (X : Nat × (Nat → Int32)) (I : mI) (s : Nat) (x0 : Int32) (x1 : Int32) {res : Int32} (hr : r6_cell_21 I x0 x1 = some res) : mC X m6_cell 0 0 0 [.ref 21, .int x0, .int x1] NN KK I (PP s) (mRet (some (.int res)) NN KK I (PP s)) :=
  mC_of (L0 := [.ref 21, .int x0, .int x1, mX0]) rfl (Nat.le_of_ble_eq_true rfl) (w6_cell_21 X I s x0 x1 _ hr (mRet_ok _ _ _ _ _))
def r5_takeCare (I : mI) (s : Nat) (x0 : Int32) (x1 : Int32) : Option (mI) := (if (x0 : Int32) = 15 then some (mW I s 7 x1) else if (x0 : Int32) = 16 then some I else if (x0 : Int32) = 17 then some I else if (x0 : Int32) = 18 then some I else if (x0 : Int32) = 19 then some I else if (x0 : Int32) = 20 then some I else if (x0 : Int32) = 21 then some I else if (x0 : Int32) = 22 then (r5_tuneString I s x1).bind fun z1 => some z1 else if (x0 : Int32) = 23 then (r5_emptyDrawer I s).bind fun z2 => some z2 else if (x0 : Int32) = 24 then (r5_bringChild I s x1).bind fun z3 => some z3 else if (x0 : Int32) = 25 then some (mW I s 6 x1) else some I : Option (mI)).bind fun z0 => some z0
set_option maxHeartbeats 4000000 in
set_option maxRecDepth 100000 in
theorem w5_takeCare (X : Nat × (Nat → Int32)) (I : mI) (s : Nat) (hs : mStg s) (x0 : Int32) (x1 : Int32) (Q : mQ) {res : mI} (hr : r5_takeCare I s x0 x1 = some res) (hQ : Q none NN KK res (PP s)) : mV X m5_takeCare 3 0 0 0 [.ref 1, .int x0, .int x1] [] NN KK I (PP s) Q := by
  unfold r5_takeCare at hr
  refine mV_iload f5_takeCare_0 rfl ?_
  obtain ⟨z0, hz0, hr⟩ := mBind hr
  have keyz0 : mV X m5_takeCare 3 0 0 105 [.ref 1, mX0, mX0] [] NN KK z0 (PP s) Q := by
    have hr := Option.some.inj hr; subst hr
    exact mV_vret rfl f5_takeCare_105 hQ
  clear hr
  have hr := hz0
  clear hz0
  by_cases h0 : x0 = 15
  · rw [if_pos h0] at hr
    refine mV_tabEq (v := 15) f5_takeCare_1 h0 (by decide) (by decide) (by decide) (by decide : (1 : Int) + 82 = (83 : Nat)) ?_
    refine mV_aload f5_takeCare_83 rfl ?_
    refine mV_getP f5_takeCare_84 (by decide) kk_1 rfl (pp_1_2 _) ?_
    refine mV_iload f5_takeCare_87 rfl ?_
    refine mV_putI f5_takeCare_88 hs.l0 hs.1.2.1 rfl rfl ?_
    refine mV_goto f5_takeCare_91 ?_
    have hr := Option.some.inj hr; subst hr
    refine mV_drop (L' := [.ref 1, mX0, mX0]) (mSub_k (mSub_x (mSub_x mSub_n))) ?_
    exact keyz0
  rw [if_neg h0] at hr
  by_cases h1 : x0 = 16
  · rw [if_pos h1] at hr
    refine mV_tabEq (v := 16) f5_takeCare_1 h1 (by decide) (by decide) (by decide) (by decide : (1 : Int) + 104 = (105 : Nat)) ?_
    have hr := Option.some.inj hr; subst hr
    refine mV_drop (L' := [.ref 1, mX0, mX0]) (mSub_k (mSub_x (mSub_x mSub_n))) ?_
    exact keyz0
  rw [if_neg h1] at hr
  by_cases h2 : x0 = 17
  · rw [if_pos h2] at hr
    refine mV_tabEq (v := 17) f5_takeCare_1 h2 (by decide) (by decide) (by decide) (by decide : (1 : Int) + 104 = (105 : Nat)) ?_
    have hr := Option.some.inj hr; subst hr
    refine mV_drop (L' := [.ref 1, mX0, mX0]) (mSub_k (mSub_x (mSub_x mSub_n))) ?_
    exact keyz0
  rw [if_neg h2] at hr
  by_cases h3 : x0 = 18
  · rw [if_pos h3] at hr
    refine mV_tabEq (v := 18) f5_takeCare_1 h3 (by decide) (by decide) (by decide) (by decide : (1 : Int) + 104 = (105 : Nat)) ?_
    have hr := Option.some.inj hr; subst hr
    refine mV_drop (L' := [.ref 1, mX0, mX0]) (mSub_k (mSub_x (mSub_x mSub_n))) ?_
    exact keyz0
  rw [if_neg h3] at hr
  by_cases h4 : x0 = 19
  · rw [if_pos h4] at hr
    refine mV_tabEq (v := 19) f5_takeCare_1 h4 (by decide) (by decide) (by decide) (by decide : (1 : Int) + 104 = (105 : Nat)) ?_
    have hr := Option.some.inj hr; subst hr
    refine mV_drop (L' := [.ref 1, mX0, mX0]) (mSub_k (mSub_x (mSub_x mSub_n))) ?_
    exact keyz0
  rw [if_neg h4] at hr
  by_cases h5 : x0 = 20
  · rw [if_pos h5] at hr
    refine mV_tabEq (v := 20) f5_takeCare_1 h5 (by decide) (by decide) (by decide) (by decide : (1 : Int) + 104 = (105 : Nat)) ?_
    have hr := Option.some.inj hr; subst hr
    refine mV_drop (L' := [.ref 1, mX0, mX0]) (mSub_k (mSub_x (mSub_x mSub_n))) ?_
    exact keyz0
  rw [if_neg h5] at hr
  by_cases h6 : x0 = 21
  · rw [if_pos h6] at hr
    refine mV_tabEq (v := 21) f5_takeCare_1 h6 (by decide) (by decide) (by decide) (by decide : (1 : Int) + 104 = (105 : Nat)) ?_
    have hr := Option.some.inj hr; subst hr
    refine mV_drop (L' := [.ref 1, mX0, mX0]) (mSub_k (mSub_x (mSub_x mSub_n))) ?_
    exact keyz0
  rw [if_neg h6] at hr
  by_cases h7 : x0 = 22
  · rw [if_pos h7] at hr
    refine mV_tabEq (v := 22) f5_takeCare_1 h7 (by decide) (by decide) (by decide) (by decide : (1 : Int) + 59 = (60 : Nat)) ?_
    refine mV_aload f5_takeCare_60 rfl ?_
    refine mV_iload f5_takeCare_61 rfl ?_
    obtain ⟨z1, hz1, hr⟩ := mBind hr
    refine mV_cV f5_takeCare_62 tg_m5_tuneString mCls5 (by decide) kk_1 (mC_deep (c5_tuneString X I s hs x1 hz1) (by decide)) rfl rfl (Nat.le_of_ble_eq_true rfl) ?_
    refine mV_goto f5_takeCare_65 ?_
    have hr := Option.some.inj hr; subst hr
    refine mV_drop (L' := [.ref 1, mX0, mX0]) (mSub_k (mSub_x (mSub_x mSub_n))) ?_
    exact keyz0
  rw [if_neg h7] at hr
  by_cases h8 : x0 = 23
  · rw [if_pos h8] at hr
    refine mV_tabEq (v := 23) f5_takeCare_1 h8 (by decide) (by decide) (by decide) (by decide : (1 : Int) + 67 = (68 : Nat)) ?_
    refine mV_aload f5_takeCare_68 rfl ?_
    obtain ⟨z2, hz2, hr⟩ := mBind hr
    refine mV_cV f5_takeCare_69 tg_m5_emptyDrawer mCls5 (by decide) kk_1 (mC_deep (c5_emptyDrawer X I s hs hz2) (by decide)) rfl rfl (Nat.le_of_ble_eq_true rfl) ?_
    refine mV_goto f5_takeCare_72 ?_
    have hr := Option.some.inj hr; subst hr
    refine mV_drop (L' := [.ref 1, mX0, mX0]) (mSub_k (mSub_x (mSub_x mSub_n))) ?_
    exact keyz0
  rw [if_neg h8] at hr
  by_cases h9 : x0 = 24
  · rw [if_pos h9] at hr
    refine mV_tabEq (v := 24) f5_takeCare_1 h9 (by decide) (by decide) (by decide) (by decide : (1 : Int) + 74 = (75 : Nat)) ?_
    refine mV_aload f5_takeCare_75 rfl ?_
    refine mV_iload f5_takeCare_76 rfl ?_
    obtain ⟨z3, hz3, hr⟩ := mBind hr
    refine mV_cV f5_takeCare_77 tg_m5_bringChild mCls5 (by decide) kk_1 (mC_deep (c5_bringChild X I s hs x1 hz3) (by decide)) rfl rfl (Nat.le_of_ble_eq_true rfl) ?_
    refine mV_goto f5_takeCare_80 ?_
    have hr := Option.some.inj hr; subst hr
    refine mV_drop (L' := [.ref 1, mX0, mX0]) (mSub_k (mSub_x (mSub_x mSub_n))) ?_
    exact keyz0
  rw [if_neg h9] at hr
  by_cases h10 : x0 = 25
  · rw [if_pos h10] at hr
    refine mV_tabEq (v := 25) f5_takeCare_1 h10 (by decide) (by decide) (by decide) (by decide : (1 : Int) + 93 = (94 : Nat)) ?_
    refine mV_aload f5_takeCare_94 rfl ?_
    refine mV_getP f5_takeCare_95 (by decide) kk_1 rfl (pp_1_2 _) ?_
    refine mV_iload f5_takeCare_98 rfl ?_
    refine mV_putI f5_takeCare_99 hs.l0 hs.1.2.1 rfl rfl ?_
    refine mV_goto f5_takeCare_102 ?_
    have hr := Option.some.inj hr; subst hr
    refine mV_drop (L' := [.ref 1, mX0, mX0]) (mSub_k (mSub_x (mSub_x mSub_n))) ?_
    exact keyz0
  rw [if_neg h10] at hr
  refine mV_tabNo f5_takeCare_1 [15, 16, 17, 18, 19, 20, 21, 22, 23, 24, 25] (by decide) (List.forall_mem_cons.mpr ⟨h0, (List.forall_mem_cons.mpr ⟨h1, (List.forall_mem_cons.mpr ⟨h2, (List.forall_mem_cons.mpr ⟨h3, (List.forall_mem_cons.mpr ⟨h4, (List.forall_mem_cons.mpr ⟨h5, (List.forall_mem_cons.mpr ⟨h6, (List.forall_mem_cons.mpr ⟨h7, (List.forall_mem_cons.mpr ⟨h8, (List.forall_mem_cons.mpr ⟨h9, (List.forall_mem_cons.mpr ⟨h10, (fun _ hc => absurd hc List.not_mem_nil)⟩)⟩)⟩)⟩)⟩)⟩)⟩)⟩)⟩)⟩)⟩) (by decide : (1 : Int) + 104 = (105 : Nat)) ?_
  have hr := Option.some.inj hr; subst hr
  refine mV_drop (L' := [.ref 1, mX0, mX0]) (mSub_k (mSub_x (mSub_x mSub_n))) ?_
  exact keyz0
theorem c5_takeCare (X : Nat × (Nat → Int32)) (I : mI) (s : Nat) (hs : mStg s) (x0 : Int32) (x1 : Int32) {res : mI} (hr : r5_takeCare I s x0 x1 = some res) : mC X m5_takeCare 3 0 0 [.ref 1, .int x0, .int x1] NN KK I (PP s) (mRet none NN KK res (PP s)) :=
  mC_of (L0 := [.ref 1, .int x0, .int x1]) rfl (Nat.le_of_ble_eq_true rfl) (w5_takeCare X I s hs x0 x1 _ hr (mRet_ok _ _ _ _ _))
def r6_cell_18 (I : mI) (x0 : Int32) (x1 : Int32) : Option (Int32) := (if (((x0 * 9) + x1) : Int32) < (0 : Int32) then some 0 else if (144 : Int32) ≤ (((x0 * 9) + x1) : Int32) then some 0 else (mLd I 19 144 ((x0 * 9) + x1)).bind fun z1 => some z1 : Option (Int32)).bind fun z0 => some z0
set_option maxHeartbeats 4000000 in
set_option maxRecDepth 100000 in
theorem w6_cell_18 (X : Nat × (Nat → Int32)) (I : mI) (s : Nat) (x0 : Int32) (x1 : Int32) (Q : mQ) {res : Int32} (hr : r6_cell_18 I x0 x1 = some res) (hQ : Q (some (.int res)) NN KK I (PP s)) : mV X m6_cell 0 0 0 0 [.ref 18, .int x0, .int x1, mX0] [] NN KK I (PP s) Q := by
  unfold r6_cell_18 at hr
  refine mV_iload f6_cell_0 rfl ?_
  refine mV_push f6_cell_1 ?_
  refine mV_imul f6_cell_3 ?_
  refine mV_iload f6_cell_4 rfl ?_
  refine mV_iadd f6_cell_5 ?_
  refine mV_istore (L' := [.ref 18, .int x0, .int x1, .int ((x0 * 9) + x1)]) f6_cell_6 (by decide) rfl rfl ?_
  refine mV_iload f6_cell_7 rfl ?_
  obtain ⟨z0, hz0, hr⟩ := mBind hr
  have keyz0 : mV X m6_cell 0 0 0 30 [.ref 18, mX0, mX0, mX0] [.int z0] NN KK I (PP s) Q := by
    have hr := Option.some.inj hr; subst hr
    exact mV_iret rfl rfl f6_cell_30 hQ
  clear hr
  have hr := hz0
  clear hz0
  refine mV_if_lt f6_cell_8 (fun h0 => ?_) (fun h0 => ?_)
  · rw [if_pos h0] at hr
    refine mV_push f6_cell_29 ?_
    have hr := Option.some.inj hr; subst hr
    refine mV_drop (L' := [.ref 18, mX0, mX0, mX0]) (mSub_k (mSub_x (mSub_x (mSub_x mSub_n)))) ?_
    exact keyz0
  · rw [if_neg h0] at hr
    refine mV_iload f6_cell_11 rfl ?_
    refine mV_aload f6_cell_12 rfl ?_
    refine mV_getP f6_cell_13 (by decide) kk_18 rfl (pp_18_0 _) ?_
    refine mV_alen f6_cell_16 (by decide) kk_19 ?_
    refine mV_as 144 (by decide) ?_
    refine mV_icmp_ge f6_cell_17 (fun h1 => ?_) (fun h1 => ?_)
    · rw [if_pos h1] at hr
      refine mV_push f6_cell_29 ?_
      have hr := Option.some.inj hr; subst hr
      refine mV_drop (L' := [.ref 18, mX0, mX0, mX0]) (mSub_k (mSub_x (mSub_x (mSub_x mSub_n)))) ?_
      exact keyz0
    · rw [if_neg h1] at hr
      refine mV_aload f6_cell_20 rfl ?_
      refine mV_getP f6_cell_21 (by decide) kk_18 rfl (pp_18_0 _) ?_
      refine mV_iload f6_cell_24 rfl ?_
      obtain ⟨z1, hz1, hr⟩ := mBind hr
      refine mV_ldO f6_cell_25 (by decide) kk_19 hz1 ?_
      refine mV_goto f6_cell_26 ?_
      have hr := Option.some.inj hr; subst hr
      refine mV_drop (L' := [.ref 18, mX0, mX0, mX0]) (mSub_k (mSub_x (mSub_x (mSub_x mSub_n)))) ?_
      exact keyz0
theorem c6_cell_18 (X : Nat × (Nat → Int32)) (I : mI) (s : Nat) (x0 : Int32) (x1 : Int32) {res : Int32} (hr : r6_cell_18 I x0 x1 = some res) : mC X m6_cell 0 0 0 [.ref 18, .int x0, .int x1] NN KK I (PP s) (mRet (some (.int res)) NN KK I (PP s)) :=
  mC_of (L0 := [.ref 18, .int x0, .int x1, mX0]) rfl (Nat.le_of_ble_eq_true rfl) (w6_cell_18 X I s x0 x1 _ hr (mRet_ok _ _ _ _ _))
def r7_dryUp (I : mI) (a : Nat) (x0 : Int32) : Option (mI) := some (mW (mW I a 4 (I a 4 - x0)) a 5 (mMin 9999 ((mW I a 4 (I a 4 - x0)) a 5 + (x0 / 4))))
set_option maxHeartbeats 4000000 in
set_option maxRecDepth 100000 in
theorem w7_dryUp (X : Nat × (Nat → Int32)) (I : mI) (s : Nat) (a : Nat) (ha : mStg a) (x0 : Int32) (Q : mQ) {res : mI} (hr : r7_dryUp I a x0 = some res) (hQ : Q none NN KK res (PP s)) : mV X m7_dryUp 1 0 0 0 [.ref a, .int x0] [] NN KK I (PP s) Q := by
  unfold r7_dryUp at hr
  refine mV_aload f7_dryUp_0 rfl ?_
  refine mV_dup f7_dryUp_1 rfl ?_
  refine mV_gI (I a 4) f7_dryUp_2 ha.l0 ha.1.2.1 rfl rfl ?_
  refine mV_iload f7_dryUp_5 rfl ?_
  refine mV_isub f7_dryUp_6 ?_
  refine mV_putI f7_dryUp_7 ha.l0 ha.1.2.1 rfl rfl ?_
  refine mV_aload f7_dryUp_10 rfl ?_
  refine mV_push f7_dryUp_11 ?_
  refine mV_aload f7_dryUp_14 rfl ?_
  refine mV_gI ((mW I a 4 (I a 4 - x0)) a 5) f7_dryUp_15 ha.l0 ha.1.2.1 rfl rfl ?_
  refine mV_iload f7_dryUp_18 rfl ?_
  refine mV_push f7_dryUp_19 ?_
  refine mV_idiv f7_dryUp_20 (by decide) ?_
  refine mV_iadd f7_dryUp_21 ?_
  refine mV_minC fm7_dryUp_22 (Nat.le_of_ble_eq_true rfl) ?_
  refine mV_putI f7_dryUp_25 ha.l0 ha.1.2.1 rfl rfl ?_
  have hr := Option.some.inj hr; subst hr
  exact mV_vret rfl f7_dryUp_28 hQ
theorem c7_dryUp (X : Nat × (Nat → Int32)) (I : mI) (s : Nat) (a : Nat) (ha : mStg a) (x0 : Int32) {res : mI} (hr : r7_dryUp I a x0 = some res) : mC X m7_dryUp 1 0 0 [.ref a, .int x0] NN KK I (PP s) (mRet none NN KK res (PP s)) :=
  mC_of (L0 := [.ref a, .int x0]) rfl (Nat.le_of_ble_eq_true rfl) (w7_dryUp X I s a ha x0 _ hr (mRet_ok _ _ _ _ _))
def l5_waitBehind_34 (s : Nat) : Nat → Int32 → mI → Option (Int32 × mI)
  | 0, _, _ => none
  | f + 1, y2, I => if (60 : Int32) ≤ (y2 : Int32) then some (y2, I) else if (I s 4 : Int32) ≤ (I s 6 : Int32) then some (y2, I) else (r5_ask (mW I 40 9 y2) s 2).bind fun z0 => (r7_dryUp z0.2 s (mMin ((mW I 40 9 y2) s 4) z0.1)).bind fun z1 => l5_waitBehind_34 s f (y2 + 1) z1
def r5_waitBehind (I : mI) (s : Nat) (x0 : Int32) : Option (Int32 × mI) := if ((r0_hasPiece I x0) : Int32) = (0 : Int32) then some (0, I) else (mLd I (s + 1) 12 x0).bind fun z0 => (l5_waitBehind_34 s FU 0 (mW I 40 10 z0)).bind fun z1 => (if (z1.1 : Int32) ≤ (0 : Int32) then some (mW z1.2 s 9 (z1.2 s 9 + z1.1)) else (r5_note (mW z1.2 s 9 (z1.2 s 9 + z1.1)) 1 x0 z1.1).bind fun z3 => some z3 : Option (mI)).bind fun z2 => some (z1.1, z2)
set_option maxHeartbeats 4000000 in
set_option maxRecDepth 100000 in
theorem t5_waitBehind_34 (X : Nat × (Nat → Int32)) (Q : mQ) (s : Nat) (hs : mStg s) (k1 : Int32) : ∀ (f : Nat) (y2 : Int32) (I : mI) (z : Int32 × mI), l5_waitBehind_34 s f y2 I = some z → mV X m5_waitBehind 3 0 0 93 [.ref 1, .int k1, .int z.1] [] NN KK z.2 (PP s) Q → mV X m5_waitBehind 3 0 0 34 [.ref 1, .int k1, .int y2] [] NN KK I (PP s) Q := by
  intro f
  induction f with
  | zero => intro y2 I z hr hk; cases hr
  | succ f ih =>
    intro y2 I z hr hk
    unfold l5_waitBehind_34 at hr
    refine mV_iload f5_waitBehind_34 rfl ?_
    refine mV_push f5_waitBehind_35 ?_
    refine mV_icmp_ge f5_waitBehind_37 (fun h0 => ?_) (fun h0 => ?_)
    · rw [if_pos h0] at hr
      have hr := Option.some.inj hr; subst hr
      exact hk
    · rw [if_neg h0] at hr
      refine mV_aload f5_waitBehind_40 rfl ?_
      refine mV_getP f5_waitBehind_41 (by decide) kk_1 rfl (pp_1_2 _) ?_
      refine mV_gI (I s 4) f5_waitBehind_44 hs.l0 hs.1.2.1 rfl rfl ?_
      refine mV_aload f5_waitBehind_47 rfl ?_
      refine mV_getP f5_waitBehind_48 (by decide) kk_1 rfl (pp_1_2 _) ?_
      refine mV_gI (I s 6) f5_waitBehind_51 hs.l0 hs.1.2.1 rfl rfl ?_
      refine mV_icmp_le f5_waitBehind_54 (fun h1 => ?_) (fun h1 => ?_)
      · rw [if_pos h1] at hr
        have hr := Option.some.inj hr; subst hr
        exact hk
      · rw [if_neg h1] at hr
        refine mV_aload f5_waitBehind_57 rfl ?_
        refine mV_getP f5_waitBehind_58 (by decide) kk_1 rfl (pp_1_4 _) ?_
        refine mV_push f5_waitBehind_61 ?_
        refine mV_iload f5_waitBehind_63 rfl ?_
        refine mV_sto 9 f5_waitBehind_64 (by decide) kk_40 (by decide) ?_
        refine mV_aload f5_waitBehind_65 rfl ?_
        refine mV_getP f5_waitBehind_66 (by decide) kk_1 rfl (pp_1_2 _) ?_
        refine mV_aload f5_waitBehind_69 rfl ?_
        refine mV_getP f5_waitBehind_70 (by decide) kk_1 rfl (pp_1_2 _) ?_
        refine mV_gI ((mW I 40 9 y2) s 4) f5_waitBehind_73 hs.l0 hs.1.2.1 rfl rfl ?_
        refine mV_aload f5_waitBehind_76 rfl ?_
        refine mV_push f5_waitBehind_77 ?_
        obtain ⟨z0, hz0, hr⟩ := mBind hr
        refine mV_cV f5_waitBehind_78 tg_m5_ask mCls5 (by decide) kk_1 (mC_deep (c5_ask X (mW I 40 9 y2) s hs 2 hz0) (by decide)) rfl rfl (Nat.le_of_ble_eq_true rfl) ?_
        refine mV_minC fm5_waitBehind_81 (Nat.le_of_ble_eq_true rfl) ?_
        obtain ⟨z1, hz1, hr⟩ := mBind hr
        refine mV_cV f5_waitBehind_84 tg_m7_dryUp mCls7 hs.l0 hs.1.2.1 (mC_deep (c7_dryUp X z0.2 s s hs (mMin ((mW I 40 9 y2) s 4) z0.1) hz1) (by decide)) rfl rfl (Nat.le_of_ble_eq_true rfl) ?_
        refine mV_iinc (y := (y2 + 1)) (L' := [.ref 1, .int k1, .int (y2 + 1)]) f5_waitBehind_87 rfl rfl (by decide) rfl rfl ?_
        refine mV_goto f5_waitBehind_90 ?_
        exact ih (y2 + 1) z1 _ hr hk
set_option maxHeartbeats 4000000 in
set_option maxRecDepth 100000 in
theorem w5_waitBehind (X : Nat × (Nat → Int32)) (I : mI) (s : Nat) (hs : mStg s) (x0 : Int32) (Q : mQ) {res : Int32 × mI} (hr : r5_waitBehind I s x0 = some res) (hQ : Q (some (.int res.1)) NN KK res.2 (PP s)) : mV X m5_waitBehind 3 0 0 0 [.ref 1, .int x0, mX0] [] NN KK I (PP s) Q := by
  unfold r5_waitBehind at hr
  refine mV_aload f5_waitBehind_0 rfl ?_
  refine mV_getP f5_waitBehind_1 (by decide) kk_1 rfl (pp_1_0 _) ?_
  refine mV_getP f5_waitBehind_4 (by decide) kk_2 rfl (pp_2_1 _) ?_
  refine mV_iload f5_waitBehind_7 rfl ?_
  refine mV_cV f5_waitBehind_8 tg_m0_hasPiece mCls0 (by decide) kk_8 (mC_deep (c0_hasPiece X I s x0 rfl) (by decide)) rfl rfl (Nat.le_of_ble_eq_true rfl) ?_
  refine mV_if_ne f5_waitBehind_11 (fun h0 => ?_) (fun h0 => ?_)
  · rw [if_neg h0] at hr
    refine mV_aload f5_waitBehind_16 rfl ?_
    refine mV_getP f5_waitBehind_17 (by decide) kk_1 rfl (pp_1_4 _) ?_
    refine mV_push f5_waitBehind_20 ?_
    refine mV_aload f5_waitBehind_22 rfl ?_
    refine mV_getP f5_waitBehind_23 (by decide) kk_1 rfl (pp_1_2 _) ?_
    refine mV_getP f5_waitBehind_26 hs.l0 hs.1.2.1 rfl (hs.p0 _) ?_
    refine mV_iload f5_waitBehind_29 rfl ?_
    obtain ⟨z0, hz0, hr⟩ := mBind hr
    refine mV_ldO f5_waitBehind_30 (hs.l (by decide)) hs.1.2.2.1 hz0 ?_
    refine mV_sto 10 f5_waitBehind_31 (by decide) kk_40 (by decide) ?_
    refine mV_push f5_waitBehind_32 ?_
    refine mV_istore (L' := [.ref 1, .int x0, .int 0]) f5_waitBehind_33 (by decide) rfl rfl ?_
    obtain ⟨z1, hz1, hr⟩ := mBind hr
    refine t5_waitBehind_34 X Q s hs x0 FU 0 (mW I 40 10 z0) _ hz1 ?_
    refine mV_aload f5_waitBehind_93 rfl ?_
    refine mV_getP f5_waitBehind_94 (by decide) kk_1 rfl (pp_1_2 _) ?_
    refine mV_dup f5_waitBehind_97 rfl ?_
    refine mV_gI (z1.2 s 9) f5_waitBehind_98 hs.l0 hs.1.2.1 rfl rfl ?_
    refine mV_iload f5_waitBehind_101 rfl ?_
    refine mV_iadd f5_waitBehind_102 ?_
    refine mV_putI f5_waitBehind_103 hs.l0 hs.1.2.1 rfl rfl ?_
    refine mV_iload f5_waitBehind_106 rfl ?_
    obtain ⟨z2, hz2, hr⟩ := mBind hr
    have keyz2 : mV X m5_waitBehind 3 0 0 117 [.ref 1, mX0, .int z1.1] [] NN KK z2 (PP s) Q := by
      refine mV_iload f5_waitBehind_117 rfl ?_
      have hr := Option.some.inj hr; subst hr
      exact mV_iret rfl rfl f5_waitBehind_118 hQ
    clear hr
    have hr := hz2
    clear hz2
    refine mV_if_le f5_waitBehind_107 (fun h1 => ?_) (fun h1 => ?_)
    · rw [if_pos h1] at hr
      have hr := Option.some.inj hr; subst hr
      refine mV_drop (L' := [.ref 1, mX0, .int z1.1]) (mSub_k (mSub_x (mSub_k mSub_n))) ?_
      exact keyz2
    · rw [if_neg h1] at hr
      refine mV_aload f5_waitBehind_110 rfl ?_
      refine mV_push f5_waitBehind_111 ?_
      refine mV_iload f5_waitBehind_112 rfl ?_
      refine mV_iload f5_waitBehind_113 rfl ?_
      obtain ⟨z3, hz3, hr⟩ := mBind hr
      refine mV_cV f5_waitBehind_114 tg_m5_note mCls5 (by decide) kk_1 (mC_deep (c5_note X (mW z1.2 s 9 (z1.2 s 9 + z1.1)) s 1 x0 z1.1 hz3) (by decide)) rfl rfl (Nat.le_of_ble_eq_true rfl) ?_
      have hr := Option.some.inj hr; subst hr
      refine mV_drop (L' := [.ref 1, mX0, .int z1.1]) (mSub_k (mSub_x (mSub_k mSub_n))) ?_
      exact keyz2
  · rw [if_pos h0] at hr
    refine mV_push f5_waitBehind_14 ?_
    have hr := Option.some.inj hr; subst hr
    exact mV_iret rfl rfl f5_waitBehind_15 hQ
theorem c5_waitBehind (X : Nat × (Nat → Int32)) (I : mI) (s : Nat) (hs : mStg s) (x0 : Int32) {res : Int32 × mI} (hr : r5_waitBehind I s x0 = some res) : mC X m5_waitBehind 3 0 0 [.ref 1, .int x0] NN KK I (PP s) (mRet (some (.int res.1)) NN KK res.2 (PP s)) :=
  mC_of (L0 := [.ref 1, .int x0, mX0]) rfl (Nat.le_of_ble_eq_true rfl) (w5_waitBehind X I s hs x0 _ hr (mRet_ok _ _ _ _ _))
def l5_playLine_18 (s : Nat) (k1 : Int32) (k3 : Int32) : Nat → Int32 → mI → Option (mI)
  | 0, _, _ => none
  | f + 1, y4, I => if (k3 : Int32) ≤ (y4 : Int32) then some I else if (6 : Int32) ≤ (y4 : Int32) then some I else (r6_cell_18 I k1 (3 + y4)).bind fun z0 => (r6_cell_18 I k1 1).bind fun z1 => (r5_perform I s z1 z0 1).bind fun z2 => (if (k3 : Int32) ≤ ((y4 + 1) : Int32) then some z2.2 else (r5_waitBehind z2.2 s z0).bind fun z4 => some z4.2 : Option (mI)).bind fun z3 => l5_playLine_18 s k1 k3 f (y4 + 1) z3
def r5_playLine (I : mI) (s : Nat) (x0 : Int32) : Option (mI) := (r6_cell_18 I x0 2).bind fun z0 => (l5_playLine_18 s x0 z0 FU 0 I).bind fun z1 => some z1
set_option maxHeartbeats 4000000 in
set_option maxRecDepth 100000 in
theorem t5_playLine_18 (X : Nat × (Nat → Int32)) (Q : mQ) (s : Nat) (hs : mStg s) (k1 : Int32) (k3 : Int32) : ∀ (f : Nat) (y4 : Int32) (I : mI) (z : mI), l5_playLine_18 s k1 k3 f y4 I = some z → mV X m5_playLine 5 0 0 77 [.ref 1, .int k1, .ref 18, .int k3, mX0, mX0] [] NN KK z (PP s) Q → mV X m5_playLine 5 0 0 18 [.ref 1, .int k1, .ref 18, .int k3, .int y4, mX0] [] NN KK I (PP s) Q := by
  intro f
  induction f with
  | zero => intro y4 I z hr hk; cases hr
  | succ f ih =>
    intro y4 I z hr hk
    unfold l5_playLine_18 at hr
    refine mV_iload f5_playLine_18 rfl ?_
    refine mV_iload f5_playLine_20 rfl ?_
    refine mV_icmp_ge f5_playLine_21 (fun h0 => ?_) (fun h0 => ?_)
    · rw [if_pos h0] at hr
      have hr := Option.some.inj hr; subst hr
      refine mV_drop (L' := [.ref 1, .int k1, .ref 18, .int k3, mX0, mX0]) (mSub_k (mSub_k (mSub_k (mSub_k (mSub_x (mSub_x mSub_n)))))) ?_
      exact hk
    · rw [if_neg h0] at hr
      refine mV_iload f5_playLine_24 rfl ?_
      refine mV_push f5_playLine_26 ?_
      refine mV_icmp_ge f5_playLine_28 (fun h1 => ?_) (fun h1 => ?_)
      · rw [if_pos h1] at hr
        have hr := Option.some.inj hr; subst hr
        refine mV_drop (L' := [.ref 1, .int k1, .ref 18, .int k3, mX0, mX0]) (mSub_k (mSub_k (mSub_k (mSub_k (mSub_x (mSub_x mSub_n)))))) ?_
        exact hk
      · rw [if_neg h1] at hr
        refine mV_aload f5_playLine_31 rfl ?_
        refine mV_iload f5_playLine_32 rfl ?_
        refine mV_push f5_playLine_33 ?_
        refine mV_iload f5_playLine_34 rfl ?_
        refine mV_iadd f5_playLine_36 ?_
        obtain ⟨z0, hz0, hr⟩ := mBind hr
        refine mV_cV f5_playLine_37 tg_m6_cell mCls6 (by decide) kk_18 (mC_deep (c6_cell_18 X I s k1 (3 + y4) hz0) (by decide)) rfl rfl (Nat.le_of_ble_eq_true rfl) ?_
        refine mV_istore (L' := [.ref 1, .int k1, .ref 18, .int k3, .int y4, .int z0]) f5_playLine_40 (by decide) rfl rfl ?_
        refine mV_aload f5_playLine_42 rfl ?_
        refine mV_aload f5_playLine_43 rfl ?_
        refine mV_iload f5_playLine_44 rfl ?_
        refine mV_push f5_playLine_45 ?_
        obtain ⟨z1, hz1, hr⟩ := mBind hr
        refine mV_cV f5_playLine_46 tg_m6_cell mCls6 (by decide) kk_18 (mC_deep (c6_cell_18 X I s k1 1 hz1) (by decide)) rfl rfl (Nat.le_of_ble_eq_true rfl) ?_
        refine mV_iload f5_playLine_49 rfl ?_
        refine mV_push f5_playLine_51 ?_
        obtain ⟨z2, hz2, hr⟩ := mBind hr
        refine mV_cV f5_playLine_52 tg_m5_perform mCls5 (by decide) kk_1 (mC_deep (c5_perform X I s hs z1 z0 1 hz2) (by decide)) rfl rfl (Nat.le_of_ble_eq_true rfl) ?_
        refine mV_pop f5_playLine_55 rfl ?_
        refine mV_iload f5_playLine_56 rfl ?_
        refine mV_push f5_playLine_58 ?_
        refine mV_iadd f5_playLine_59 ?_
        refine mV_iload f5_playLine_60 rfl ?_
        obtain ⟨z3, hz3, hr⟩ := mBind hr
        have keyz3 : mV X m5_playLine 5 0 0 71 [.ref 1, .int k1, .ref 18, .int k3, .int y4, mX0] [] NN KK z3 (PP s) Q := by
          refine mV_iinc (y := (y4 + 1)) (L' := [.ref 1, .int k1, .ref 18, .int k3, .int (y4 + 1), mX0]) f5_playLine_71 rfl rfl (by decide) rfl rfl ?_
          refine mV_goto f5_playLine_74 ?_
          exact ih (y4 + 1) z3 _ hr hk
        clear hr
        have hr := hz3
        clear hz3
        refine mV_icmp_ge f5_playLine_61 (fun h2 => ?_) (fun h2 => ?_)
        · rw [if_pos h2] at hr
          have hr := Option.some.inj hr; subst hr
          refine mV_drop (L' := [.ref 1, .int k1, .ref 18, .int k3, .int y4, mX0]) (mSub_k (mSub_k (mSub_k (mSub_k (mSub_k (mSub_x mSub_n)))))) ?_
          exact keyz3
        · rw [if_neg h2] at hr
          refine mV_aload f5_playLine_64 rfl ?_
          refine mV_iload f5_playLine_65 rfl ?_
          obtain ⟨z4, hz4, hr⟩ := mBind hr
          refine mV_cV f5_playLine_67 tg_m5_waitBehind mCls5 (by decide) kk_1 (mC_deep (c5_waitBehind X z2.2 s hs z0 hz4) (by decide)) rfl rfl (Nat.le_of_ble_eq_true rfl) ?_
          refine mV_pop f5_playLine_70 rfl ?_
          have hr := Option.some.inj hr; subst hr
          refine mV_drop (L' := [.ref 1, .int k1, .ref 18, .int k3, .int y4, mX0]) (mSub_k (mSub_k (mSub_k (mSub_k (mSub_k (mSub_x mSub_n)))))) ?_
          exact keyz3
set_option maxHeartbeats 4000000 in
set_option maxRecDepth 100000 in
theorem w5_playLine (X : Nat × (Nat → Int32)) (I : mI) (s : Nat) (hs : mStg s) (x0 : Int32) (Q : mQ) {res : mI} (hr : r5_playLine I s x0 = some res) (hQ : Q none NN KK res (PP s)) : mV X m5_playLine 5 0 0 0 [.ref 1, .int x0, mX0, mX0, mX0, mX0] [] NN KK I (PP s) Q := by
  unfold r5_playLine at hr
  refine mV_aload f5_playLine_0 rfl ?_
  refine mV_getP f5_playLine_1 (by decide) kk_1 rfl (pp_1_0 _) ?_
  refine mV_getP f5_playLine_4 (by decide) kk_2 rfl (pp_2_3 _) ?_
  refine mV_astore (L' := [.ref 1, .int x0, .ref 18, mX0, mX0, mX0]) f5_playLine_7 (by decide) rfl rfl ?_
  refine mV_aload f5_playLine_8 rfl ?_
  refine mV_iload f5_playLine_9 rfl ?_
  refine mV_push f5_playLine_10 ?_
  obtain ⟨z0, hz0, hr⟩ := mBind hr
  refine mV_cV f5_playLine_11 tg_m6_cell mCls6 (by decide) kk_18 (mC_deep (c6_cell_18 X I s x0 2 hz0) (by decide)) rfl rfl (Nat.le_of_ble_eq_true rfl) ?_
  refine mV_istore (L' := [.ref 1, .int x0, .ref 18, .int z0, mX0, mX0]) f5_playLine_14 (by decide) rfl rfl ?_
  refine mV_push f5_playLine_15 ?_
  refine mV_istore (L' := [.ref 1, .int x0, .ref 18, .int z0, .int 0, mX0]) f5_playLine_16 (by decide) rfl rfl ?_
  obtain ⟨z1, hz1, hr⟩ := mBind hr
  refine t5_playLine_18 X Q s hs x0 z0 FU 0 I _ hz1 ?_
  have hr := Option.some.inj hr; subst hr
  exact mV_vret rfl f5_playLine_77 hQ
theorem c5_playLine (X : Nat × (Nat → Int32)) (I : mI) (s : Nat) (hs : mStg s) (x0 : Int32) {res : mI} (hr : r5_playLine I s x0 = some res) : mC X m5_playLine 5 0 0 [.ref 1, .int x0] NN KK I (PP s) (mRet none NN KK res (PP s)) :=
  mC_of (L0 := [.ref 1, .int x0, mX0, mX0, mX0, mX0]) rfl (Nat.le_of_ble_eq_true rfl) (w5_playLine X I s hs x0 _ hr (mRet_ok _ _ _ _ _))
def l5_passDay_10 (s : Nat) : Nat → Int32 → mI → Option (mI)
  | 0, _, _ => none
  | f + 1, y2, I => if (I 21 2 : Int32) ≤ (y2 : Int32) then some I else (r6_cell_21 I y2 0).bind fun z0 => (if (z0 : Int32) = (I s 10 : Int32) then (r6_cell_21 I y2 1).bind fun z2 => (r6_cell_21 I y2 2).bind fun z3 => (r5_takeCare I s z2 z3).bind fun z4 => some z4 else some I : Option (mI)).bind fun z1 => l5_passDay_10 s f (y2 + 1) z1
def l5_passDay_69 (s : Nat) : Nat → Int32 → Int32 → mI → Option (Int32 × mI)
  | 0, _, _, _ => none
  | f + 1, y3, y4, I => if (I 18 2 : Int32) ≤ (y4 : Int32) then some (y3, I) else (r6_cell_18 I y4 0).bind fun z0 => (if (z0 : Int32) = (I s 10 : Int32) then (r5_playLine I s y4).bind fun z2 => (r6_cell_18 z2 y4 2).bind fun z3 => some ((y3 + z3), z2) else some (y3, I) : Option (Int32 × mI)).bind fun z1 => l5_passDay_69 s f z1.1 (y4 + 1) z1.2
def r5_passDay (I : mI) (s : Nat) : Option (Int32 × mI) := (l5_passDay_10 s FU 0 I).bind fun z0 => (l5_passDay_69 s FU 0 0 z0).bind fun z1 => (r7_dryUp z1.2 s (z1.2 s 4 - (z1.2 s 4 / 2))).bind fun z2 => some (z1.1, (mW (mW z2 s 7 (mMax 0 (z2 s 7 - 1))) s 10 ((mW z2 s 7 (mMax 0 (z2 s 7 - 1))) s 10 + 1)))
set_option maxHeartbeats 4000000 in
set_option maxRecDepth 100000 in
theorem t5_passDay_10 (X : Nat × (Nat → Int32)) (Q : mQ) (s : Nat) (hs : mStg s) : ∀ (f : Nat) (y2 : Int32) (I : mI) (z : mI), l5_passDay_10 s f y2 I = some z → mV X m5_passDay 6 0 0 56 [.ref 1, .ref 21, mX0, mX0, mX0] [] NN KK z (PP s) Q → mV X m5_passDay 6 0 0 10 [.ref 1, .ref 21, .int y2, mX0, mX0] [] NN KK I (PP s) Q := by
  intro f
  induction f with
  | zero => intro y2 I z hr hk; cases hr
  | succ f ih =>
    intro y2 I z hr hk
    unfold l5_passDay_10 at hr
    refine mV_iload f5_passDay_10 rfl ?_
    refine mV_aload f5_passDay_11 rfl ?_
    refine mV_gI (I 21 2) f5_passDay_12 (by decide) kk_21 rfl rfl ?_
    refine mV_icmp_ge f5_passDay_15 (fun h0 => ?_) (fun h0 => ?_)
    · rw [if_pos h0] at hr
      have hr := Option.some.inj hr; subst hr
      refine mV_drop (L' := [.ref 1, .ref 21, mX0, mX0, mX0]) (mSub_k (mSub_k (mSub_x (mSub_x (mSub_x mSub_n))))) ?_
      exact hk
    · rw [if_neg h0] at hr
      refine mV_aload f5_passDay_18 rfl ?_
      refine mV_iload f5_passDay_19 rfl ?_
      refine mV_push f5_passDay_20 ?_
      obtain ⟨z0, hz0, hr⟩ := mBind hr
      refine mV_cV f5_passDay_21 tg_m6_cell mCls6 (by decide) kk_21 (mC_deep (c6_cell_21 X I s y2 0 hz0) (by decide)) rfl rfl (Nat.le_of_ble_eq_true rfl) ?_
      refine mV_aload f5_passDay_24 rfl ?_
      refine mV_getP f5_passDay_25 (by decide) kk_1 rfl (pp_1_2 _) ?_
      refine mV_gI (I s 10) f5_passDay_28 hs.l0 hs.1.2.1 rfl rfl ?_
      obtain ⟨z1, hz1, hr⟩ := mBind hr
      have keyz1 : mV X m5_passDay 6 0 0 50 [.ref 1, .ref 21, .int y2, mX0, mX0] [] NN KK z1 (PP s) Q := by
        refine mV_iinc (y := (y2 + 1)) (L' := [.ref 1, .ref 21, .int (y2 + 1), mX0, mX0]) f5_passDay_50 rfl rfl (by decide) rfl rfl ?_
        refine mV_goto f5_passDay_53 ?_
        exact ih (y2 + 1) z1 _ hr hk
      clear hr
      have hr := hz1
      clear hz1
      refine mV_icmp_ne f5_passDay_31 (fun h1 => ?_) (fun h1 => ?_)
      · rw [if_neg h1] at hr
        have hr := Option.some.inj hr; subst hr
        exact keyz1
      · rw [if_pos h1] at hr
        refine mV_aload f5_passDay_34 rfl ?_
        refine mV_aload f5_passDay_35 rfl ?_
        refine mV_iload f5_passDay_36 rfl ?_
        refine mV_push f5_passDay_37 ?_
        obtain ⟨z2, hz2, hr⟩ := mBind hr
        refine mV_cV f5_passDay_38 tg_m6_cell mCls6 (by decide) kk_21 (mC_deep (c6_cell_21 X I s y2 1 hz2) (by decide)) rfl rfl (Nat.le_of_ble_eq_true rfl) ?_
        refine mV_aload f5_passDay_41 rfl ?_
        refine mV_iload f5_passDay_42 rfl ?_
        refine mV_push f5_passDay_43 ?_
        obtain ⟨z3, hz3, hr⟩ := mBind hr
        refine mV_cV f5_passDay_44 tg_m6_cell mCls6 (by decide) kk_21 (mC_deep (c6_cell_21 X I s y2 2 hz3) (by decide)) rfl rfl (Nat.le_of_ble_eq_true rfl) ?_
        obtain ⟨z4, hz4, hr⟩ := mBind hr
        refine mV_cV f5_passDay_47 tg_m5_takeCare mCls5 (by decide) kk_1 (mC_deep (c5_takeCare X I s hs z2 z3 hz4) (by decide)) rfl rfl (Nat.le_of_ble_eq_true rfl) ?_
        have hr := Option.some.inj hr; subst hr
        exact keyz1
set_option maxHeartbeats 4000000 in
set_option maxRecDepth 100000 in
theorem t5_passDay_69 (X : Nat × (Nat → Int32)) (Q : mQ) (s : Nat) (hs : mStg s) : ∀ (f : Nat) (y3 : Int32) (y4 : Int32) (I : mI) (z : Int32 × mI), l5_passDay_69 s f y3 y4 I = some z → mV X m5_passDay 6 0 0 117 [.ref 1, .ref 21, .ref 18, .int z.1, mX0] [] NN KK z.2 (PP s) Q → mV X m5_passDay 6 0 0 69 [.ref 1, .ref 21, .ref 18, .int y3, .int y4] [] NN KK I (PP s) Q := by
  intro f
  induction f with
  | zero => intro y3 y4 I z hr hk; cases hr
  | succ f ih =>
    intro y3 y4 I z hr hk
    unfold l5_passDay_69 at hr
    refine mV_iload f5_passDay_69 rfl ?_
    refine mV_aload f5_passDay_71 rfl ?_
    refine mV_gI (I 18 2) f5_passDay_72 (by decide) kk_18 rfl rfl ?_
    refine mV_icmp_ge f5_passDay_75 (fun h0 => ?_) (fun h0 => ?_)
    · rw [if_pos h0] at hr
      have hr := Option.some.inj hr; subst hr
      refine mV_drop (L' := [.ref 1, .ref 21, .ref 18, .int y3, mX0]) (mSub_k (mSub_k (mSub_k (mSub_k (mSub_x mSub_n))))) ?_
      exact hk
    · rw [if_neg h0] at hr
      refine mV_aload f5_passDay_78 rfl ?_
      refine mV_iload f5_passDay_79 rfl ?_
      refine mV_push f5_passDay_81 ?_
      obtain ⟨z0, hz0, hr⟩ := mBind hr
      refine mV_cV f5_passDay_82 tg_m6_cell mCls6 (by decide) kk_18 (mC_deep (c6_cell_18 X I s y4 0 hz0) (by decide)) rfl rfl (Nat.le_of_ble_eq_true rfl) ?_
      refine mV_aload f5_passDay_85 rfl ?_
      refine mV_getP f5_passDay_86 (by decide) kk_1 rfl (pp_1_2 _) ?_
      refine mV_gI (I s 10) f5_passDay_89 hs.l0 hs.1.2.1 rfl rfl ?_
      obtain ⟨z1, hz1, hr⟩ := mBind hr
      have keyz1 : mV X m5_passDay 6 0 0 111 [.ref 1, .ref 21, .ref 18, .int z1.1, .int y4] [] NN KK z1.2 (PP s) Q := by
        refine mV_iinc (y := (y4 + 1)) (L' := [.ref 1, .ref 21, .ref 18, .int z1.1, .int (y4 + 1)]) f5_passDay_111 rfl rfl (by decide) rfl rfl ?_
        refine mV_goto f5_passDay_114 ?_
        exact ih z1.1 (y4 + 1) z1.2 _ hr hk
      clear hr
      have hr := hz1
      clear hz1
      refine mV_icmp_ne f5_passDay_92 (fun h1 => ?_) (fun h1 => ?_)
      · rw [if_neg h1] at hr
        have hr := Option.some.inj hr; subst hr
        exact keyz1
      · rw [if_pos h1] at hr
        refine mV_aload f5_passDay_95 rfl ?_
        refine mV_iload f5_passDay_96 rfl ?_
        obtain ⟨z2, hz2, hr⟩ := mBind hr
        refine mV_cV f5_passDay_98 tg_m5_playLine mCls5 (by decide) kk_1 (mC_deep (c5_playLine X I s hs y4 hz2) (by decide)) rfl rfl (Nat.le_of_ble_eq_true rfl) ?_
        refine mV_iload f5_passDay_101 rfl ?_
        refine mV_aload f5_passDay_102 rfl ?_
        refine mV_iload f5_passDay_103 rfl ?_
        refine mV_push f5_passDay_105 ?_
        obtain ⟨z3, hz3, hr⟩ := mBind hr
        refine mV_cV f5_passDay_106 tg_m6_cell mCls6 (by decide) kk_18 (mC_deep (c6_cell_18 X z2 s y4 2 hz3) (by decide)) rfl rfl (Nat.le_of_ble_eq_true rfl) ?_
        refine mV_iadd f5_passDay_109 ?_
        refine mV_istore (L' := [.ref 1, .ref 21, .ref 18, .int (y3 + z3), .int y4]) f5_passDay_110 (by decide) rfl rfl ?_
        have hr := Option.some.inj hr; subst hr
        exact keyz1
set_option maxHeartbeats 4000000 in
set_option maxRecDepth 100000 in
theorem w5_passDay (X : Nat × (Nat → Int32)) (I : mI) (s : Nat) (hs : mStg s) (Q : mQ) {res : Int32 × mI} (hr : r5_passDay I s = some res) (hQ : Q (some (.int res.1)) NN KK res.2 (PP s)) : mV X m5_passDay 6 0 0 0 [.ref 1, mX0, mX0, mX0, mX0] [] NN KK I (PP s) Q := by
  unfold r5_passDay at hr
  refine mV_aload f5_passDay_0 rfl ?_
  refine mV_getP f5_passDay_1 (by decide) kk_1 rfl (pp_1_0 _) ?_
  refine mV_getP f5_passDay_4 (by decide) kk_2 rfl (pp_2_4 _) ?_
  refine mV_astore (L' := [.ref 1, .ref 21, mX0, mX0, mX0]) f5_passDay_7 (by decide) rfl rfl ?_
  refine mV_push f5_passDay_8 ?_
  refine mV_istore (L' := [.ref 1, .ref 21, .int 0, mX0, mX0]) f5_passDay_9 (by decide) rfl rfl ?_
  obtain ⟨z0, hz0, hr⟩ := mBind hr
  refine t5_passDay_10 X Q s hs FU 0 I _ hz0 ?_
  refine mV_aload f5_passDay_56 rfl ?_
  refine mV_getP f5_passDay_57 (by decide) kk_1 rfl (pp_1_0 _) ?_
  refine mV_getP f5_passDay_60 (by decide) kk_2 rfl (pp_2_3 _) ?_
  refine mV_astore (L' := [.ref 1, .ref 21, .ref 18, mX0, mX0]) f5_passDay_63 (by decide) rfl rfl ?_
  refine mV_push f5_passDay_64 ?_
  refine mV_istore (L' := [.ref 1, .ref 21, .ref 18, .int 0, mX0]) f5_passDay_65 (by decide) rfl rfl ?_
  refine mV_push f5_passDay_66 ?_
  refine mV_istore (L' := [.ref 1, .ref 21, .ref 18, .int 0, .int 0]) f5_passDay_67 (by decide) rfl rfl ?_
  obtain ⟨z1, hz1, hr⟩ := mBind hr
  refine t5_passDay_69 X Q s hs FU 0 0 z0 _ hz1 ?_
  refine mV_aload f5_passDay_117 rfl ?_
  refine mV_getP f5_passDay_118 (by decide) kk_1 rfl (pp_1_2 _) ?_
  refine mV_aload f5_passDay_121 rfl ?_
  refine mV_getP f5_passDay_122 (by decide) kk_1 rfl (pp_1_2 _) ?_
  refine mV_gI (z1.2 s 4) f5_passDay_125 hs.l0 hs.1.2.1 rfl rfl ?_
  refine mV_aload f5_passDay_128 rfl ?_
  refine mV_getP f5_passDay_129 (by decide) kk_1 rfl (pp_1_2 _) ?_
  refine mV_gI (z1.2 s 4) f5_passDay_132 hs.l0 hs.1.2.1 rfl rfl ?_
  refine mV_push f5_passDay_135 ?_
  refine mV_idiv f5_passDay_136 (by decide) ?_
  refine mV_isub f5_passDay_137 ?_
  obtain ⟨z2, hz2, hr⟩ := mBind hr
  refine mV_cV f5_passDay_138 tg_m7_dryUp mCls7 hs.l0 hs.1.2.1 (mC_deep (c7_dryUp X z1.2 s s hs (z1.2 s 4 - (z1.2 s 4 / 2)) hz2) (by decide)) rfl rfl (Nat.le_of_ble_eq_true rfl) ?_
  refine mV_aload f5_passDay_141 rfl ?_
  refine mV_getP f5_passDay_142 (by decide) kk_1 rfl (pp_1_2 _) ?_
  refine mV_push f5_passDay_145 ?_
  refine mV_aload f5_passDay_146 rfl ?_
  refine mV_getP f5_passDay_147 (by decide) kk_1 rfl (pp_1_2 _) ?_
  refine mV_gI (z2 s 7) f5_passDay_150 hs.l0 hs.1.2.1 rfl rfl ?_
  refine mV_push f5_passDay_153 ?_
  refine mV_isub f5_passDay_154 ?_
  refine mV_maxC fm5_passDay_155 (Nat.le_of_ble_eq_true rfl) ?_
  refine mV_putI f5_passDay_158 hs.l0 hs.1.2.1 rfl rfl ?_
  refine mV_aload f5_passDay_161 rfl ?_
  refine mV_getP f5_passDay_162 (by decide) kk_1 rfl (pp_1_2 _) ?_
  refine mV_dup f5_passDay_165 rfl ?_
  refine mV_gI ((mW z2 s 7 (mMax 0 (z2 s 7 - 1))) s 10) f5_passDay_166 hs.l0 hs.1.2.1 rfl rfl ?_
  refine mV_push f5_passDay_169 ?_
  refine mV_iadd f5_passDay_170 ?_
  refine mV_putI f5_passDay_171 hs.l0 hs.1.2.1 rfl rfl ?_
  refine mV_iload f5_passDay_174 rfl ?_
  have hr := Option.some.inj hr; subst hr
  exact mV_iret rfl rfl f5_passDay_175 hQ
theorem c5_passDay (X : Nat × (Nat → Int32)) (I : mI) (s : Nat) (hs : mStg s) {res : Int32 × mI} (hr : r5_passDay I s = some res) : mC X m5_passDay 6 0 0 [.ref 1] NN KK I (PP s) (mRet (some (.int res.1)) NN KK res.2 (PP s)) :=
  mC_of (L0 := [.ref 1, mX0, mX0, mX0, mX0]) rfl (Nat.le_of_ble_eq_true rfl) (w5_passDay X I s hs _ hr (mRet_ok _ _ _ _ _))
def l9_days_42 (s : Nat) (k1 : Int32) : Nat → Int32 → Int32 → mI → Option (Int32 × mI)
  | 0, _, _, _ => none
  | f + 1, y2, y3, I => if (k1 : Int32) ≤ (y3 : Int32) then some (y2, I) else (r3_keep I).bind fun z0 => (r5_passDay z0 3).bind fun z1 => l9_days_42 s k1 f (y2 + z1.1) (y3 + 1) z1.2
def r9_days (I : mI) (s : Nat) (x0 : Int32) : Option (Int32 × mI × Nat) := if (x0 : Int32) < (1 : Int32) then some ((-1), I, s) else if (20 : Int32) < (x0 : Int32) then some ((-1), I, s) else if ((I 3 10 + x0) : Int32) ≤ (9999 : Int32) then (r5_wake I s).bind fun z0 => (l9_days_42 3 x0 FU 0 0 z0).bind fun z1 => some (z1.1, z1.2, 3) else some ((-1), I, s)
set_option maxHeartbeats 4000000 in
set_option maxRecDepth 100000 in
theorem t9_days_42 (X : Nat × (Nat → Int32)) (Q : mQ) (s : Nat) (hs : mStg s) (k1 : Int32) : ∀ (f : Nat) (y2 : Int32) (y3 : Int32) (I : mI) (z : Int32 × mI), l9_days_42 s k1 f y2 y3 I = some z → mV X m9_days 7 0 0 77 [.ref 0, .int k1, .int z.1, mX0] [] NN KK z.2 (PP 3) Q → mV X m9_days 7 0 0 42 [.ref 0, .int k1, .int y2, .int y3] [] NN KK I (PP 3) Q := by
  intro f
  induction f with
  | zero => intro y2 y3 I z hr hk; cases hr
  | succ f ih =>
    intro y2 y3 I z hr hk
    unfold l9_days_42 at hr
    refine mV_iload f9_days_42 rfl ?_
    refine mV_iload f9_days_43 rfl ?_
    refine mV_icmp_ge f9_days_44 (fun h0 => ?_) (fun h0 => ?_)
    · rw [if_pos h0] at hr
      have hr := Option.some.inj hr; subst hr
      refine mV_drop (L' := [.ref 0, .int k1, .int y2, mX0]) (mSub_k (mSub_k (mSub_k (mSub_x mSub_n)))) ?_
      exact hk
    · rw [if_neg h0] at hr
      refine mV_aload f9_days_47 rfl ?_
      refine mV_getP f9_days_48 (by decide) kk_0 rfl (pp_0_4 _) ?_
      refine mV_aload f9_days_51 rfl ?_
      refine mV_getP f9_days_52 (by decide) kk_0 rfl (pp_0_1 _) ?_
      refine mV_getP f9_days_55 (by decide) kk_2 rfl (pp_2_0 _) ?_
      obtain ⟨z0, hz0, hr⟩ := mBind hr
      refine mV_cV f9_days_58 tg_m3_keep mCls3 (by decide) kk_77 (mC_deep (c3_keep X I 3 hz0) (by decide)) rfl rfl (Nat.le_of_ble_eq_true rfl) ?_
      refine mV_iload f9_days_61 rfl ?_
      refine mV_aload f9_days_62 rfl ?_
      refine mV_getP f9_days_63 (by decide) kk_0 rfl (pp_0_0 _) ?_
      obtain ⟨z1, hz1, hr⟩ := mBind hr
      refine mV_cV f9_days_66 tg_m5_passDay mCls5 (by decide) kk_1 (mC_deep (c5_passDay X z0 3 mStg_3 hz1) (by decide)) rfl rfl (Nat.le_of_ble_eq_true rfl) ?_
      refine mV_iadd f9_days_69 ?_
      refine mV_istore (L' := [.ref 0, .int k1, .int (y2 + z1.1), .int y3]) f9_days_70 (by decide) rfl rfl ?_
      refine mV_iinc (y := (y3 + 1)) (L' := [.ref 0, .int k1, .int (y2 + z1.1), .int (y3 + 1)]) f9_days_71 rfl rfl (by decide) rfl rfl ?_
      refine mV_goto f9_days_74 ?_
      exact ih (y2 + z1.1) (y3 + 1) z1.2 _ hr hk
set_option maxHeartbeats 4000000 in
set_option maxRecDepth 100000 in
theorem w9_days (X : Nat × (Nat → Int32)) (I : mI) (s : Nat) (hs : mStg s) (x0 : Int32) (Q : mQ) {res : Int32 × mI × Nat} (hr : r9_days I s x0 = some res) (hQ : Q (some (.int res.1)) NN KK res.2.1 (PP res.2.2)) : mV X m9_days 7 0 0 0 [.ref 0, .int x0, mX0, mX0] [] NN KK I (PP s) Q := by
  unfold r9_days at hr
  refine mV_iload f9_days_0 rfl ?_
  refine mV_push f9_days_1 ?_
  refine mV_icmp_lt f9_days_2 (fun h0 => ?_) (fun h0 => ?_)
  · rw [if_pos h0] at hr
    refine mV_push f9_days_29 ?_
    have hr := Option.some.inj hr; subst hr
    exact mV_iret rfl rfl f9_days_30 hQ
  · rw [if_neg h0] at hr
    refine mV_iload f9_days_5 rfl ?_
    refine mV_push f9_days_6 ?_
    refine mV_icmp_gt f9_days_8 (fun h1 => ?_) (fun h1 => ?_)
    · rw [if_pos h1] at hr
      refine mV_push f9_days_29 ?_
      have hr := Option.some.inj hr; subst hr
      exact mV_iret rfl rfl f9_days_30 hQ
    · rw [if_neg h1] at hr
      refine mV_aload f9_days_11 rfl ?_
      refine mV_getP f9_days_12 (by decide) kk_0 rfl (pp_0_1 _) ?_
      refine mV_getP f9_days_15 (by decide) kk_2 rfl (pp_2_0 _) ?_
      refine mV_gI (I 3 10) f9_days_18 (by decide) kk_3 rfl rfl ?_
      refine mV_iload f9_days_21 rfl ?_
      refine mV_iadd f9_days_22 ?_
      refine mV_push f9_days_23 ?_
      refine mV_icmp_le f9_days_26 (fun h2 => ?_) (fun h2 => ?_)
      · rw [if_pos h2] at hr
        refine mV_aload f9_days_31 rfl ?_
        refine mV_getP f9_days_32 (by decide) kk_0 rfl (pp_0_0 _) ?_
        obtain ⟨z0, hz0, hr⟩ := mBind hr
        refine mV_cV f9_days_35 tg_m5_wake mCls5 (by decide) kk_1 (mC_deep (c5_wake X I s hz0) (by decide)) rfl rfl (Nat.le_of_ble_eq_true rfl) ?_
        refine mV_push f9_days_38 ?_
        refine mV_istore (L' := [.ref 0, .int x0, .int 0, mX0]) f9_days_39 (by decide) rfl rfl ?_
        refine mV_push f9_days_40 ?_
        refine mV_istore (L' := [.ref 0, .int x0, .int 0, .int 0]) f9_days_41 (by decide) rfl rfl ?_
        obtain ⟨z1, hz1, hr⟩ := mBind hr
        refine t9_days_42 X Q 3 mStg_3 x0 FU 0 0 z0 _ hz1 ?_
        refine mV_iload f9_days_77 rfl ?_
        have hr := Option.some.inj hr; subst hr
        exact mV_iret rfl rfl f9_days_78 hQ
      · rw [if_neg h2] at hr
        refine mV_push f9_days_29 ?_
        have hr := Option.some.inj hr; subst hr
        exact mV_iret rfl rfl f9_days_30 hQ
theorem c9_days (X : Nat × (Nat → Int32)) (I : mI) (s : Nat) (hs : mStg s) (x0 : Int32) {res : Int32 × mI × Nat} (hr : r9_days I s x0 = some res) : mC X m9_days 7 0 0 [.ref 0, .int x0] NN KK I (PP s) (mRet (some (.int res.1)) NN KK res.2.1 (PP res.2.2)) :=
  mC_of (L0 := [.ref 0, .int x0, mX0, mX0]) rfl (Nat.le_of_ble_eq_true rfl) (w9_days X I s hs x0 _ hr (mRet_ok _ _ _ _ _))
def r4_hasRoomFor (I : mI) (x0 : Int32) : Int32 := if (400 : Int32) < ((I 109 1 + x0) : Int32) then 0 else 1
set_option maxHeartbeats 4000000 in
set_option maxRecDepth 100000 in
theorem w4_hasRoomFor (X : Nat × (Nat → Int32)) (I : mI) (s : Nat) (x0 : Int32) (Q : mQ) {res : Int32} (hr : r4_hasRoomFor I x0 = res) (hQ : Q (some (.int res)) NN KK I (PP s)) : mV X m4_hasRoomFor 0 0 0 0 [.ref 109, .int x0] [] NN KK I (PP s) Q := by
  unfold r4_hasRoomFor at hr
  refine mV_aload f4_hasRoomFor_0 rfl ?_
  refine mV_gI (I 109 1) f4_hasRoomFor_1 (by decide) kk_109 rfl rfl ?_
  refine mV_iload f4_hasRoomFor_4 rfl ?_
  refine mV_iadd f4_hasRoomFor_5 ?_
  refine mV_push f4_hasRoomFor_6 ?_
  refine mV_icmp_gt f4_hasRoomFor_9 (fun h0 => ?_) (fun h0 => ?_)
  · rw [if_pos h0] at hr
    refine mV_push f4_hasRoomFor_16 ?_
    subst hr
    exact mV_iret rfl rfl f4_hasRoomFor_17 hQ
  · rw [if_neg h0] at hr
    refine mV_push f4_hasRoomFor_12 ?_
    refine mV_goto f4_hasRoomFor_13 ?_
    subst hr
    exact mV_iret rfl rfl f4_hasRoomFor_17 hQ
theorem c4_hasRoomFor (X : Nat × (Nat → Int32)) (I : mI) (s : Nat) (x0 : Int32) {res : Int32} (hr : r4_hasRoomFor I x0 = res) : mC X m4_hasRoomFor 0 0 0 [.ref 109, .int x0] NN KK I (PP s) (mRet (some (.int res)) NN KK I (PP s)) :=
  mC_of (L0 := [.ref 109, .int x0]) rfl (Nat.le_of_ble_eq_true rfl) (w4_hasRoomFor X I s x0 _ hr (mRet_ok _ _ _ _ _))
def l4_takeNumber_3 (k1 : Int32) : Nat → Int32 → mI → Option (mI)
  | 0, _, _ => none
  | f + 1, y2, I => if (y2 : Int32) < (0 : Int32) then some I else (if (400 : Int32) ≤ (I 109 1 : Int32) then some I else (mSto I 110 400 (I 109 1) ((mUsh k1 y2) &&& 255)).bind fun z1 => some (mW z1 109 1 (z1 109 1 + 1)) : Option (mI)).bind fun z0 => l4_takeNumber_3 k1 f (y2 + (-8)) z0
def r4_takeNumber (I : mI) (x0 : Int32) : Option (mI) := (l4_takeNumber_3 x0 FU 24 I).bind fun z0 => some z0
set_option maxHeartbeats 4000000 in
set_option maxRecDepth 100000 in
theorem t4_takeNumber_3 (X : Nat × (Nat → Int32)) (Q : mQ) (s : Nat) (k1 : Int32) : ∀ (f : Nat) (y2 : Int32) (I : mI) (z : mI), l4_takeNumber_3 k1 f y2 I = some z → mV X m4_takeNumber 0 0 0 49 [.ref 109, .int k1, mX0] [] NN KK z (PP s) Q → mV X m4_takeNumber 0 0 0 3 [.ref 109, .int k1, .int y2] [] NN KK I (PP s) Q := by
  intro f
  induction f with
  | zero => intro y2 I z hr hk; cases hr
  | succ f ih =>
    intro y2 I z hr hk
    unfold l4_takeNumber_3 at hr
    refine mV_iload f4_takeNumber_3 rfl ?_
    refine mV_if_lt f4_takeNumber_4 (fun h0 => ?_) (fun h0 => ?_)
    · rw [if_pos h0] at hr
      have hr := Option.some.inj hr; subst hr
      refine mV_drop (L' := [.ref 109, .int k1, mX0]) (mSub_k (mSub_k (mSub_x mSub_n))) ?_
      exact hk
    · rw [if_neg h0] at hr
      refine mV_aload f4_takeNumber_7 rfl ?_
      refine mV_gI (I 109 1) f4_takeNumber_8 (by decide) kk_109 rfl rfl ?_
      refine mV_push f4_takeNumber_11 ?_
      obtain ⟨z0, hz0, hr⟩ := mBind hr
      have keyz0 : mV X m4_takeNumber 0 0 0 43 [.ref 109, .int k1, .int y2] [] NN KK z0 (PP s) Q := by
        refine mV_iinc (y := (y2 + (-8))) (L' := [.ref 109, .int k1, .int (y2 + (-8))]) f4_takeNumber_43 rfl rfl (by decide) rfl rfl ?_
        refine mV_goto f4_takeNumber_46 ?_
        exact ih (y2 + (-8)) z0 _ hr hk
      clear hr
      have hr := hz0
      clear hz0
      refine mV_icmp_ge f4_takeNumber_14 (fun h1 => ?_) (fun h1 => ?_)
      · rw [if_pos h1] at hr
        have hr := Option.some.inj hr; subst hr
        exact keyz0
      · rw [if_neg h1] at hr
        refine mV_aload f4_takeNumber_17 rfl ?_
        refine mV_getP f4_takeNumber_18 (by decide) kk_109 rfl (pp_109_0 _) ?_
        refine mV_aload f4_takeNumber_21 rfl ?_
        refine mV_gI (I 109 1) f4_takeNumber_22 (by decide) kk_109 rfl rfl ?_
        refine mV_iload f4_takeNumber_25 rfl ?_
        refine mV_iload f4_takeNumber_26 rfl ?_
        refine mV_ushC f4_takeNumber_27 ?_
        refine mV_push f4_takeNumber_28 ?_
        refine mV_iand f4_takeNumber_31 ?_
        obtain ⟨z1, hz1, hr⟩ := mBind hr
        refine mV_stO f4_takeNumber_32 (by decide) kk_110 hz1 ?_
        refine mV_aload f4_takeNumber_33 rfl ?_
        refine mV_dup f4_takeNumber_34 rfl ?_
        refine mV_gI (z1 109 1) f4_takeNumber_35 (by decide) kk_109 rfl rfl ?_
        refine mV_push f4_takeNumber_38 ?_
        refine mV_iadd f4_takeNumber_39 ?_
        refine mV_putI f4_takeNumber_40 (by decide) kk_109 rfl rfl ?_
        have hr := Option.some.inj hr; subst hr
        exact keyz0
set_option maxHeartbeats 4000000 in
set_option maxRecDepth 100000 in
theorem w4_takeNumber (X : Nat × (Nat → Int32)) (I : mI) (s : Nat) (x0 : Int32) (Q : mQ) {res : mI} (hr : r4_takeNumber I x0 = some res) (hQ : Q none NN KK res (PP s)) : mV X m4_takeNumber 0 0 0 0 [.ref 109, .int x0, mX0] [] NN KK I (PP s) Q := by
  unfold r4_takeNumber at hr
  refine mV_push f4_takeNumber_0 ?_
  refine mV_istore (L' := [.ref 109, .int x0, .int 24]) f4_takeNumber_2 (by decide) rfl rfl ?_
  obtain ⟨z0, hz0, hr⟩ := mBind hr
  refine t4_takeNumber_3 X Q s x0 FU 24 I _ hz0 ?_
  have hr := Option.some.inj hr; subst hr
  exact mV_vret rfl f4_takeNumber_49 hQ
theorem c4_takeNumber (X : Nat × (Nat → Int32)) (I : mI) (s : Nat) (x0 : Int32) {res : mI} (hr : r4_takeNumber I x0 = some res) : mC X m4_takeNumber 0 0 0 [.ref 109, .int x0] NN KK I (PP s) (mRet none NN KK res (PP s)) :=
  mC_of (L0 := [.ref 109, .int x0, mX0]) rfl (Nat.le_of_ble_eq_true rfl) (w4_takeNumber X I s x0 _ hr (mRet_ok _ _ _ _ _))
def r9_feed (I : mI) (x0 : Int32) (x1 : Int32) (x2 : Int32) (x3 : Int32) (x4 : Int32) : Option (Int32 × mI) := if ((r4_hasRoomFor I 20) : Int32) = (0 : Int32) then some ((-1), I) else (r4_takeNumber I x0).bind fun z0 => (r4_takeNumber z0 x1).bind fun z1 => (r4_takeNumber z1 x2).bind fun z2 => (r4_takeNumber z2 x3).bind fun z3 => (r4_takeNumber z3 x4).bind fun z4 => some (z4 109 1, z4)
set_option maxHeartbeats 4000000 in
set_option maxRecDepth 100000 in
theorem w9_feed (X : Nat × (Nat → Int32)) (I : mI) (s : Nat) (x0 : Int32) (x1 : Int32) (x2 : Int32) (x3 : Int32) (x4 : Int32) (Q : mQ) {res : Int32 × mI} (hr : r9_feed I x0 x1 x2 x3 x4 = some res) (hQ : Q (some (.int res.1)) NN KK res.2 (PP s)) : mV X m9_feed 1 0 0 0 [.ref 0, .int x0, .int x1, .int x2, .int x3, .int x4] [] NN KK I (PP s) Q := by
  unfold r9_feed at hr
  refine mV_aload f9_feed_0 rfl ?_
  refine mV_getP f9_feed_1 (by decide) kk_0 rfl (pp_0_5 _) ?_
  refine mV_push f9_feed_4 ?_
  refine mV_cV f9_feed_6 tg_m4_hasRoomFor mCls4 (by decide) kk_109 (mC_deep (c4_hasRoomFor X I s 20 rfl) (by decide)) rfl rfl (Nat.le_of_ble_eq_true rfl) ?_
  refine mV_if_ne f9_feed_9 (fun h0 => ?_) (fun h0 => ?_)
  · rw [if_neg h0] at hr
    refine mV_aload f9_feed_14 rfl ?_
    refine mV_getP f9_feed_15 (by decide) kk_0 rfl (pp_0_5 _) ?_
    refine mV_iload f9_feed_18 rfl ?_
    obtain ⟨z0, hz0, hr⟩ := mBind hr
    refine mV_cV f9_feed_19 tg_m4_takeNumber mCls4 (by decide) kk_109 (mC_deep (c4_takeNumber X I s x0 hz0) (by decide)) rfl rfl (Nat.le_of_ble_eq_true rfl) ?_
    refine mV_aload f9_feed_22 rfl ?_
    refine mV_getP f9_feed_23 (by decide) kk_0 rfl (pp_0_5 _) ?_
    refine mV_iload f9_feed_26 rfl ?_
    obtain ⟨z1, hz1, hr⟩ := mBind hr
    refine mV_cV f9_feed_27 tg_m4_takeNumber mCls4 (by decide) kk_109 (mC_deep (c4_takeNumber X z0 s x1 hz1) (by decide)) rfl rfl (Nat.le_of_ble_eq_true rfl) ?_
    refine mV_aload f9_feed_30 rfl ?_
    refine mV_getP f9_feed_31 (by decide) kk_0 rfl (pp_0_5 _) ?_
    refine mV_iload f9_feed_34 rfl ?_
    obtain ⟨z2, hz2, hr⟩ := mBind hr
    refine mV_cV f9_feed_35 tg_m4_takeNumber mCls4 (by decide) kk_109 (mC_deep (c4_takeNumber X z1 s x2 hz2) (by decide)) rfl rfl (Nat.le_of_ble_eq_true rfl) ?_
    refine mV_aload f9_feed_38 rfl ?_
    refine mV_getP f9_feed_39 (by decide) kk_0 rfl (pp_0_5 _) ?_
    refine mV_iload f9_feed_42 rfl ?_
    obtain ⟨z3, hz3, hr⟩ := mBind hr
    refine mV_cV f9_feed_44 tg_m4_takeNumber mCls4 (by decide) kk_109 (mC_deep (c4_takeNumber X z2 s x3 hz3) (by decide)) rfl rfl (Nat.le_of_ble_eq_true rfl) ?_
    refine mV_aload f9_feed_47 rfl ?_
    refine mV_getP f9_feed_48 (by decide) kk_0 rfl (pp_0_5 _) ?_
    refine mV_iload f9_feed_51 rfl ?_
    obtain ⟨z4, hz4, hr⟩ := mBind hr
    refine mV_cV f9_feed_53 tg_m4_takeNumber mCls4 (by decide) kk_109 (mC_deep (c4_takeNumber X z3 s x4 hz4) (by decide)) rfl rfl (Nat.le_of_ble_eq_true rfl) ?_
    refine mV_aload f9_feed_56 rfl ?_
    refine mV_getP f9_feed_57 (by decide) kk_0 rfl (pp_0_5 _) ?_
    refine mV_gI (z4 109 1) f9_feed_60 (by decide) kk_109 rfl rfl ?_
    have hr := Option.some.inj hr; subst hr
    exact mV_iret rfl rfl f9_feed_63 hQ
  · rw [if_pos h0] at hr
    refine mV_push f9_feed_12 ?_
    have hr := Option.some.inj hr; subst hr
    exact mV_iret rfl rfl f9_feed_13 hQ
theorem c9_feed (X : Nat × (Nat → Int32)) (I : mI) (s : Nat) (x0 : Int32) (x1 : Int32) (x2 : Int32) (x3 : Int32) (x4 : Int32) {res : Int32 × mI} (hr : r9_feed I x0 x1 x2 x3 x4 = some res) : mC X m9_feed 1 0 0 [.ref 0, .int x0, .int x1, .int x2, .int x3, .int x4] NN KK I (PP s) (mRet (some (.int res.1)) NN KK res.2 (PP s)) :=
  mC_of (L0 := [.ref 0, .int x0, .int x1, .int x2, .int x3, .int x4]) rfl (Nat.le_of_ble_eq_true rfl) (w9_feed X I s x0 x1 x2 x3 x4 _ hr (mRet_ok _ _ _ _ _))
def r4_cutTo (I : mI) (x0 : Int32) : Option (Int32 × mI) := if (x0 : Int32) < (0 : Int32) then some (0, I) else if (x0 : Int32) ≤ (I 109 1 : Int32) then some (1, (mW I 109 1 x0)) else some (0, I)
set_option maxHeartbeats 4000000 in
set_option maxRecDepth 100000 in
theorem w4_cutTo (X : Nat × (Nat → Int32)) (I : mI) (s : Nat) (x0 : Int32) (Q : mQ) {res : Int32 × mI} (hr : r4_cutTo I x0 = some res) (hQ : Q (some (.int res.1)) NN KK res.2 (PP s)) : mV X m4_cutTo 0 0 0 0 [.ref 109, .int x0] [] NN KK I (PP s) Q := by
  unfold r4_cutTo at hr
  refine mV_iload f4_cutTo_0 rfl ?_
  refine mV_if_lt f4_cutTo_1 (fun h0 => ?_) (fun h0 => ?_)
  · rw [if_pos h0] at hr
    refine mV_push f4_cutTo_12 ?_
    have hr := Option.some.inj hr; subst hr
    exact mV_iret rfl rfl f4_cutTo_13 hQ
  · rw [if_neg h0] at hr
    refine mV_iload f4_cutTo_4 rfl ?_
    refine mV_aload f4_cutTo_5 rfl ?_
    refine mV_gI (I 109 1) f4_cutTo_6 (by decide) kk_109 rfl rfl ?_
    refine mV_icmp_le f4_cutTo_9 (fun h1 => ?_) (fun h1 => ?_)
    · rw [if_pos h1] at hr
      refine mV_aload f4_cutTo_14 rfl ?_
      refine mV_iload f4_cutTo_15 rfl ?_
      refine mV_putI f4_cutTo_16 (by decide) kk_109 rfl rfl ?_
      refine mV_push f4_cutTo_19 ?_
      have hr := Option.some.inj hr; subst hr
      exact mV_iret rfl rfl f4_cutTo_20 hQ
    · rw [if_neg h1] at hr
      refine mV_push f4_cutTo_12 ?_
      have hr := Option.some.inj hr; subst hr
      exact mV_iret rfl rfl f4_cutTo_13 hQ
theorem c4_cutTo (X : Nat × (Nat → Int32)) (I : mI) (s : Nat) (x0 : Int32) {res : Int32 × mI} (hr : r4_cutTo I x0 = some res) : mC X m4_cutTo 0 0 0 [.ref 109, .int x0] NN KK I (PP s) (mRet (some (.int res.1)) NN KK res.2 (PP s)) :=
  mC_of (L0 := [.ref 109, .int x0]) rfl (Nat.le_of_ble_eq_true rfl) (w4_cutTo X I s x0 _ hr (mRet_ok _ _ _ _ _))
def r9_end (I : mI) (x0 : Int32) : Option (Int32 × mI) := (r4_cutTo I x0).bind fun z0 => some ((z0.1 &&& 1), z0.2)
set_option maxHeartbeats 4000000 in
set_option maxRecDepth 100000 in
theorem w9_end (X : Nat × (Nat → Int32)) (I : mI) (s : Nat) (x0 : Int32) (Q : mQ) {res : Int32 × mI} (hr : r9_end I x0 = some res) (hQ : Q (some (.int res.1)) NN KK res.2 (PP s)) : mV X m9_end 1 0 0 0 [.ref 0, .int x0] [] NN KK I (PP s) Q := by
  unfold r9_end at hr
  refine mV_aload f9_end_0 rfl ?_
  refine mV_getP f9_end_1 (by decide) kk_0 rfl (pp_0_5 _) ?_
  refine mV_iload f9_end_4 rfl ?_
  obtain ⟨z0, hz0, hr⟩ := mBind hr
  refine mV_cV f9_end_5 tg_m4_cutTo mCls4 (by decide) kk_109 (mC_deep (c4_cutTo X I s x0 hz0) (by decide)) rfl rfl (Nat.le_of_ble_eq_true rfl) ?_
  have hr := Option.some.inj hr; subst hr
  exact mV_zret rfl f9_end_8 hQ
theorem c9_end (X : Nat × (Nat → Int32)) (I : mI) (s : Nat) (x0 : Int32) {res : Int32 × mI} (hr : r9_end I x0 = some res) : mC X m9_end 1 0 0 [.ref 0, .int x0] NN KK I (PP s) (mRet (some (.int res.1)) NN KK res.2 (PP s)) :=
  mC_of (L0 := [.ref 0, .int x0]) rfl (Nat.le_of_ble_eq_true rfl) (w9_end X I s x0 _ hr (mRet_ok _ _ _ _ _))
def r6_clear_114 (I : mI) : Option (mI) := some (mW (mW I 114 2 0) 114 3 0)
set_option maxHeartbeats 4000000 in
set_option maxRecDepth 100000 in
theorem w6_clear_114 (X : Nat × (Nat → Int32)) (I : mI) (s : Nat) (Q : mQ) {res : mI} (hr : r6_clear_114 I = some res) (hQ : Q none NN KK res (PP s)) : mV X m6_clear 0 0 0 0 [.ref 114] [] NN KK I (PP s) Q := by
  unfold r6_clear_114 at hr
  refine mV_aload f6_clear_0 rfl ?_
  refine mV_push f6_clear_1 ?_
  refine mV_putI f6_clear_2 (by decide) kk_114 rfl rfl ?_
  refine mV_aload f6_clear_5 rfl ?_
  refine mV_push f6_clear_6 ?_
  refine mV_putI f6_clear_7 (by decide) kk_114 rfl rfl ?_
  have hr := Option.some.inj hr; subst hr
  exact mV_vret rfl f6_clear_10 hQ
theorem c6_clear_114 (X : Nat × (Nat → Int32)) (I : mI) (s : Nat) {res : mI} (hr : r6_clear_114 I = some res) : mC X m6_clear 0 0 0 [.ref 114] NN KK I (PP s) (mRet none NN KK res (PP s)) :=
  mC_of (L0 := [.ref 114]) rfl (Nat.le_of_ble_eq_true rfl) (w6_clear_114 X I s _ hr (mRet_ok _ _ _ _ _))
def r4_isLetter (x0 : Int32) : Int32 := if (x0 : Int32) < (97 : Int32) then if (x0 : Int32) < (65 : Int32) then 0 else if (90 : Int32) < (x0 : Int32) then 0 else 1 else if (x0 : Int32) ≤ (122 : Int32) then 1 else if (x0 : Int32) < (65 : Int32) then 0 else if (90 : Int32) < (x0 : Int32) then 0 else 1
set_option maxHeartbeats 4000000 in
set_option maxRecDepth 100000 in
theorem w4_isLetter (X : Nat × (Nat → Int32)) (I : mI) (s : Nat) (x0 : Int32) (Q : mQ) {res : Int32} (hr : r4_isLetter x0 = res) (hQ : Q (some (.int res)) NN KK I (PP s)) : mV X m4_isLetter 0 0 0 0 [.int x0] [] NN KK I (PP s) Q := by
  unfold r4_isLetter at hr
  refine mV_iload f4_isLetter_0 rfl ?_
  refine mV_push f4_isLetter_1 ?_
  refine mV_icmp_lt f4_isLetter_3 (fun h0 => ?_) (fun h0 => ?_)
  · rw [if_pos h0] at hr
    refine mV_iload f4_isLetter_12 rfl ?_
    refine mV_push f4_isLetter_13 ?_
    refine mV_icmp_lt f4_isLetter_15 (fun h1 => ?_) (fun h1 => ?_)
    · rw [if_pos h1] at hr
      refine mV_push f4_isLetter_28 ?_
      subst hr
      exact mV_iret rfl rfl f4_isLetter_29 hQ
    · rw [if_neg h1] at hr
      refine mV_iload f4_isLetter_18 rfl ?_
      refine mV_push f4_isLetter_19 ?_
      refine mV_icmp_gt f4_isLetter_21 (fun h2 => ?_) (fun h2 => ?_)
      · rw [if_pos h2] at hr
        refine mV_push f4_isLetter_28 ?_
        subst hr
        exact mV_iret rfl rfl f4_isLetter_29 hQ
      · rw [if_neg h2] at hr
        refine mV_push f4_isLetter_24 ?_
        refine mV_goto f4_isLetter_25 ?_
        subst hr
        exact mV_iret rfl rfl f4_isLetter_29 hQ
  · rw [if_neg h0] at hr
    refine mV_iload f4_isLetter_6 rfl ?_
    refine mV_push f4_isLetter_7 ?_
    refine mV_icmp_le f4_isLetter_9 (fun h3 => ?_) (fun h3 => ?_)
    · rw [if_pos h3] at hr
      refine mV_push f4_isLetter_24 ?_
      refine mV_goto f4_isLetter_25 ?_
      subst hr
      exact mV_iret rfl rfl f4_isLetter_29 hQ
    · rw [if_neg h3] at hr
      refine mV_iload f4_isLetter_12 rfl ?_
      refine mV_push f4_isLetter_13 ?_
      refine mV_icmp_lt f4_isLetter_15 (fun h4 => ?_) (fun h4 => ?_)
      · rw [if_pos h4] at hr
        refine mV_push f4_isLetter_28 ?_
        subst hr
        exact mV_iret rfl rfl f4_isLetter_29 hQ
      · rw [if_neg h4] at hr
        refine mV_iload f4_isLetter_18 rfl ?_
        refine mV_push f4_isLetter_19 ?_
        refine mV_icmp_gt f4_isLetter_21 (fun h5 => ?_) (fun h5 => ?_)
        · rw [if_pos h5] at hr
          refine mV_push f4_isLetter_28 ?_
          subst hr
          exact mV_iret rfl rfl f4_isLetter_29 hQ
        · rw [if_neg h5] at hr
          refine mV_push f4_isLetter_24 ?_
          refine mV_goto f4_isLetter_25 ?_
          subst hr
          exact mV_iret rfl rfl f4_isLetter_29 hQ
theorem c4_isLetter (X : Nat × (Nat → Int32)) (I : mI) (s : Nat) (x0 : Int32) {res : Int32} (hr : r4_isLetter x0 = res) : mC X m4_isLetter 0 0 0 [.int x0] NN KK I (PP s) (mRet (some (.int res)) NN KK I (PP s)) :=
  mC_of (L0 := [.int x0]) rfl (Nat.le_of_ble_eq_true rfl) (w4_isLetter X I s x0 _ hr (mRet_ok _ _ _ _ _))
def l4_endOfLetters_2 (I : mI) : Nat → Int32 → Option (Int32)
  | 0, _ => none
  | f + 1, y2 => if (I 109 1 : Int32) ≤ (y2 : Int32) then some y2 else (mLd I 110 400 y2).bind fun z0 => if ((r4_isLetter z0) : Int32) = (0 : Int32) then some y2 else l4_endOfLetters_2 I f (y2 + 1)
def r4_endOfLetters (I : mI) (x0 : Int32) : Option (Int32) := (l4_endOfLetters_2 I FU x0).bind fun z0 => some z0
set_option maxHeartbeats 4000000 in
set_option maxRecDepth 100000 in
theorem t4_endOfLetters_2 (X : Nat × (Nat → Int32)) (Q : mQ) (s : Nat) (I : mI) : ∀ (f : Nat) (y2 : Int32) (z : Int32), l4_endOfLetters_2 I f y2 = some z → mV X m4_endOfLetters 1 0 0 28 [.ref 109, mX0, .int z] [] NN KK I (PP s) Q → mV X m4_endOfLetters 1 0 0 2 [.ref 109, mX0, .int y2] [] NN KK I (PP s) Q := by
  intro f
  induction f with
  | zero => intro y2 z hr hk; cases hr
  | succ f ih =>
    intro y2 z hr hk
    unfold l4_endOfLetters_2 at hr
    refine mV_iload f4_endOfLetters_2 rfl ?_
    refine mV_aload f4_endOfLetters_3 rfl ?_
    refine mV_gI (I 109 1) f4_endOfLetters_4 (by decide) kk_109 rfl rfl ?_
    refine mV_icmp_ge f4_endOfLetters_7 (fun h0 => ?_) (fun h0 => ?_)
    · rw [if_pos h0] at hr
      have hr := Option.some.inj hr; subst hr
      exact hk
    · rw [if_neg h0] at hr
      refine mV_aload f4_endOfLetters_10 rfl ?_
      refine mV_getP f4_endOfLetters_11 (by decide) kk_109 rfl (pp_109_0 _) ?_
      refine mV_iload f4_endOfLetters_14 rfl ?_
      obtain ⟨z0, hz0, hr⟩ := mBind hr
      refine mV_ldO f4_endOfLetters_15 (by decide) kk_110 hz0 ?_
      refine mV_cS f4_endOfLetters_16 tg_m4_isLetter (mC_deep (c4_isLetter X I s z0 rfl) (by decide)) rfl rfl (Nat.le_of_ble_eq_true rfl) ?_
      refine mV_if_eq f4_endOfLetters_19 (fun h1 => ?_) (fun h1 => ?_)
      · rw [if_pos h1] at hr
        have hr := Option.some.inj hr; subst hr
        exact hk
      · rw [if_neg h1] at hr
        refine mV_iinc (y := (y2 + 1)) (L' := [.ref 109, mX0, .int (y2 + 1)]) f4_endOfLetters_22 rfl rfl (by decide) rfl rfl ?_
        refine mV_goto f4_endOfLetters_25 ?_
        exact ih (y2 + 1) _ hr hk
set_option maxHeartbeats 4000000 in
set_option maxRecDepth 100000 in
theorem w4_endOfLetters (X : Nat × (Nat → Int32)) (I : mI) (s : Nat) (x0 : Int32) (Q : mQ) {res : Int32} (hr : r4_endOfLetters I x0 = some res) (hQ : Q (some (.int res)) NN KK I (PP s)) : mV X m4_endOfLetters 1 0 0 0 [.ref 109, .int x0, mX0] [] NN KK I (PP s) Q := by
  unfold r4_endOfLetters at hr
  refine mV_iload f4_endOfLetters_0 rfl ?_
  refine mV_istore (L' := [.ref 109, .int x0, .int x0]) f4_endOfLetters_1 (by decide) rfl rfl ?_
  obtain ⟨z0, hz0, hr⟩ := mBind hr
  refine mV_drop (L' := [.ref 109, mX0, .int x0]) (mSub_k (mSub_x (mSub_k mSub_n))) ?_
  refine t4_endOfLetters_2 X Q s I FU x0 _ hz0 ?_
  refine mV_iload f4_endOfLetters_28 rfl ?_
  have hr := Option.some.inj hr; subst hr
  exact mV_iret rfl rfl f4_endOfLetters_29 hQ
theorem c4_endOfLetters (X : Nat × (Nat → Int32)) (I : mI) (s : Nat) (x0 : Int32) {res : Int32} (hr : r4_endOfLetters I x0 = some res) : mC X m4_endOfLetters 1 0 0 [.ref 109, .int x0] NN KK I (PP s) (mRet (some (.int res)) NN KK I (PP s)) :=
  mC_of (L0 := [.ref 109, .int x0, mX0]) rfl (Nat.le_of_ble_eq_true rfl) (w4_endOfLetters X I s x0 _ hr (mRet_ok _ _ _ _ _))
def rJ0_coder_s0 : Int32 := 0
set_option maxHeartbeats 4000000 in
set_option maxRecDepth 100000 in
theorem wJ0_coder_s0 (X : Nat × (Nat → Int32)) (I : mI) (s : Nat) (Q : mQ) {res : Int32} (hr : rJ0_coder_s0 = res) (hQ : Q (some (.int res)) NN KK I (PP s)) : mV X mJ0_coder 0 0 0 0 [.retAddr 0] [] NN KK I (PP s) Q := by
  unfold rJ0_coder_s0 at hr
  refine mV_gCmp fJ0_coder_0 ?_
  refine mV_if_eq fJ0_coder_3 (fun h => absurd h (by decide)) (fun _ => ?_)
  refine mV_aloadS fJ0_coder_6 rfl ?_
  refine mV_gCod (by decide) fJ0_coder_7 ?_
  refine mV_goto fJ0_coder_10 ?_
  subst hr
  exact mV_iret rfl rfl fJ0_coder_14 hQ
theorem cJ0_coder_s0 (X : Nat × (Nat → Int32)) (I : mI) (s : Nat) {res : Int32} (hr : rJ0_coder_s0 = res) : mC X mJ0_coder 0 0 0 [.retAddr 0] NN KK I (PP s) (mRet (some (.int res)) NN KK I (PP s)) :=
  mC_of (L0 := [.retAddr 0]) rfl (Nat.le_of_ble_eq_true rfl) (wJ0_coder_s0 X I s _ hr (mRet_ok _ _ _ _ _))
def rJ0_length_s0 : Int32 := ((142 : Int32) >>> (0 &&& 31))
set_option maxHeartbeats 4000000 in
set_option maxRecDepth 100000 in
theorem wJ0_length_s0 (X : Nat × (Nat → Int32)) (I : mI) (s : Nat) (Q : mQ) {res : Int32} (hr : rJ0_length_s0 = res) (hQ : Q (some (.int res)) NN KK I (PP s)) : mV X mJ0_length 1 0 0 0 [.retAddr 0] [] NN KK I (PP s) Q := by
  unfold rJ0_length_s0 at hr
  refine mV_aloadS fJ0_length_0 rfl ?_
  refine mV_gVal (by decide) fJ0_length_1 ?_
  refine mV_tlen (i := 0) (x := 142) (by decide) (by decide) fJ0_length_4 ?_
  refine mV_aloadS fJ0_length_5 rfl ?_
  refine mV_cStr (i := 0) (by decide) fJ0_length_6 tg_mJ0_coder rfl (mC_deep (cJ0_coder_s0 X I s rfl) (by decide)) rfl rfl (Nat.le_of_ble_eq_true rfl) ?_
  refine mV_as 0 rfl ?_
  refine mV_ishr fJ0_length_9 ?_
  subst hr
  exact mV_iret rfl rfl fJ0_length_10 hQ
theorem cJ0_length_s0 (X : Nat × (Nat → Int32)) (I : mI) (s : Nat) {res : Int32} (hr : rJ0_length_s0 = res) : mC X mJ0_length 1 0 0 [.retAddr 0] NN KK I (PP s) (mRet (some (.int res)) NN KK I (PP s)) :=
  mC_of (L0 := [.retAddr 0]) rfl (Nat.le_of_ble_eq_true rfl) (wJ0_length_s0 X I s _ hr (mRet_ok _ _ _ _ _))
def rJ0_isLatin1_s0 : Int32 := 1
set_option maxHeartbeats 4000000 in
set_option maxRecDepth 100000 in
theorem wJ0_isLatin1_s0 (X : Nat × (Nat → Int32)) (I : mI) (s : Nat) (Q : mQ) {res : Int32} (hr : rJ0_isLatin1_s0 = res) (hQ : Q (some (.int res)) NN KK I (PP s)) : mV X mJ0_isLatin1 0 0 0 0 [.retAddr 0] [] NN KK I (PP s) Q := by
  unfold rJ0_isLatin1_s0 at hr
  refine mV_gCmp fJ0_isLatin1_0 ?_
  refine mV_if_eq fJ0_isLatin1_3 (fun h => absurd h (by decide)) (fun _ => ?_)
  refine mV_aloadS fJ0_isLatin1_6 rfl ?_
  refine mV_gCod (by decide) fJ0_isLatin1_7 ?_
  refine mV_if_ne fJ0_isLatin1_10 (fun h => absurd h (by decide)) (fun _ => ?_)
  refine mV_push fJ0_isLatin1_13 ?_
  refine mV_goto fJ0_isLatin1_14 ?_
  subst hr
  exact mV_iret rfl rfl fJ0_isLatin1_18 hQ
theorem cJ0_isLatin1_s0 (X : Nat × (Nat → Int32)) (I : mI) (s : Nat) {res : Int32} (hr : rJ0_isLatin1_s0 = res) : mC X mJ0_isLatin1 0 0 0 [.retAddr 0] NN KK I (PP s) (mRet (some (.int res)) NN KK I (PP s)) :=
  mC_of (L0 := [.retAddr 0]) rfl (Nat.le_of_ble_eq_true rfl) (wJ0_isLatin1_s0 X I s _ hr (mRet_ok _ _ _ _ _))
def rJ1_charAt_s3 (x0 : Int32) : Option (Int32) := (mChkI x0 142).bind fun z0 => (mByt 0 x0).bind fun z1 => some (mI2c (mI2c (z1 &&& 255)))
set_option maxHeartbeats 4000000 in
set_option maxRecDepth 100000 in
theorem wJ1_charAt_s3 (X : Nat × (Nat → Int32)) (I : mI) (s : Nat) (x0 : Int32) (Q : mQ) {res : Int32} (hr : rJ1_charAt_s3 x0 = some res) (hQ : Q (some (.int res)) NN KK I (PP s)) : mV X mJ1_charAt 2 0 0 0 [.retAddr 3, .int x0] [] NN KK I (PP s) Q := by
  unfold rJ1_charAt_s3 at hr
  refine mV_iload fJ1_charAt_0 rfl ?_
  refine mV_aloadS fJ1_charAt_1 rfl ?_
  refine mV_tlen (i := 0) (x := 142) (by decide) (by decide) fJ1_charAt_2 ?_
  obtain ⟨z0, hz0, hr⟩ := mBind hr
  refine mV_cS fJ1_charAt_3 tg_mJ0_checkIndex (mC_deep (cJ0_checkIndex X I s x0 142 hz0) (by decide)) rfl rfl (Nat.le_of_ble_eq_true rfl) ?_
  refine mV_aloadS fJ1_charAt_6 rfl ?_
  refine mV_iload fJ1_charAt_7 rfl ?_
  obtain ⟨z1, hz1, hr⟩ := mBind hr
  refine mV_tb (i := 0) (by decide) fJ1_charAt_8 hz1 ?_
  refine mV_push fJ1_charAt_9 ?_
  refine mV_iand fJ1_charAt_12 ?_
  refine mV_i2cC fJ1_charAt_13 ?_
  have hr := Option.some.inj hr; subst hr
  exact mV_nret rfl rfl fJ1_charAt_14 hQ
theorem cJ1_charAt_s3 (X : Nat × (Nat → Int32)) (I : mI) (s : Nat) (x0 : Int32) {res : Int32} (hr : rJ1_charAt_s3 x0 = some res) : mC X mJ1_charAt 2 0 0 [.retAddr 3, .int x0] NN KK I (PP s) (mRet (some (.int res)) NN KK I (PP s)) :=
  mC_of (L0 := [.retAddr 3, .int x0]) rfl (Nat.le_of_ble_eq_true rfl) (wJ1_charAt_s3 X I s x0 _ hr (mRet_ok _ _ _ _ _))
def rJ0_charAt_s0 (x0 : Int32) : Option (Int32) := (rJ1_charAt_s3 x0).bind fun z0 => some (mI2c z0)
set_option maxHeartbeats 4000000 in
set_option maxRecDepth 100000 in
theorem wJ0_charAt_s0 (X : Nat × (Nat → Int32)) (I : mI) (s : Nat) (x0 : Int32) (Q : mQ) {res : Int32} (hr : rJ0_charAt_s0 x0 = some res) (hQ : Q (some (.int res)) NN KK I (PP s)) : mV X mJ0_charAt 3 0 0 0 [.retAddr 0, .int x0] [] NN KK I (PP s) Q := by
  unfold rJ0_charAt_s0 at hr
  refine mV_aloadS fJ0_charAt_0 rfl ?_
  refine mV_cStr (i := 0) (by decide) fJ0_charAt_1 tg_mJ0_isLatin1 rfl (mC_deep (cJ0_isLatin1_s0 X I s rfl) (by decide)) rfl rfl (Nat.le_of_ble_eq_true rfl) ?_
  refine mV_as 1 rfl ?_
  refine mV_if_eq fJ0_charAt_4 (fun h => absurd h (by decide)) (fun _ => ?_)
  refine mV_aloadS fJ0_charAt_7 rfl ?_
  refine mV_gVal (by decide) fJ0_charAt_8 ?_
  refine mV_iload fJ0_charAt_11 rfl ?_
  obtain ⟨z0, hz0, hr⟩ := mBind hr
  refine mV_cS fJ0_charAt_12 tg_mJ1_charAt (mC_deep (cJ1_charAt_s3 X I s x0 hz0) (by decide)) rfl rfl (Nat.le_of_ble_eq_true rfl) ?_
  have hr := Option.some.inj hr; subst hr
  exact mV_nret rfl rfl fJ0_charAt_15 hQ
theorem cJ0_charAt_s0 (X : Nat × (Nat → Int32)) (I : mI) (s : Nat) (x0 : Int32) {res : Int32} (hr : rJ0_charAt_s0 x0 = some res) : mC X mJ0_charAt 3 0 0 [.retAddr 0, .int x0] NN KK I (PP s) (mRet (some (.int res)) NN KK I (PP s)) :=
  mC_of (L0 := [.retAddr 0, .int x0]) rfl (Nat.le_of_ble_eq_true rfl) (wJ0_charAt_s0 X I s x0 _ hr (mRet_ok _ _ _ _ _))
def l4_wordKind_11 (I : mI) (k1 : Int32) (k2 : Int32) : Nat → Int32 → Int32 → Int32 → Int32 → Option ((Int32) ⊕ (Unit))
  | 0, _, _, _, _ => none
  | f + 1, y3, y4, y5, y6 => if ((rJ0_length_s0) : Int32) ≤ (y6 : Int32) then some (.inr ()) else (rJ0_charAt_s0 y6).bind fun z0 => if (z0 : Int32) = (32 : Int32) then if (y5 : Int32) = (0 : Int32) then l4_wordKind_11 I k1 k2 f (y3 + 1) k1 1 (y6 + 1) else if (y4 : Int32) = (k2 : Int32) then some (.inl y3) else l4_wordKind_11 I k1 k2 f (y3 + 1) k1 1 (y6 + 1) else (if (y5 : Int32) = (0 : Int32) then some (y4, 0) else if (k2 : Int32) ≤ (y4 : Int32) then some (y4, 0) else (mLd I 110 400 y4).bind fun z2 => if (z2 : Int32) = (z0 : Int32) then some ((y4 + 1), y5) else some (y4, 0) : Option (Int32 × Int32)).bind fun z1 => l4_wordKind_11 I k1 k2 f y3 z1.1 z1.2 (y6 + 1)
def r4_wordKind (I : mI) (x0 : Int32) (x1 : Int32) : Option (Int32) := (l4_wordKind_11 I x0 x1 FU 0 x0 1 0).bind fun z0 => match z0 with | .inl rz0 => some rz0 | .inr wz0 => some 130
set_option maxHeartbeats 4000000 in
set_option maxRecDepth 100000 in
theorem t4_wordKind_11 (X : Nat × (Nat → Int32)) (Q : mQ) (s : Nat) (I : mI) (k1 : Int32) (k2 : Int32) : ∀ (f : Nat) (y3 : Int32) (y4 : Int32) (y5 : Int32) (y6 : Int32) (z : (Int32) ⊕ (Unit)), l4_wordKind_11 I k1 k2 f y3 y4 y5 y6 = some z → (∀ res, z = .inl res → Q (some (.int res)) NN KK I (PP s)) → (∀ w, z = .inr w → mV X m4_wordKind 4 0 0 100 [.ref 109, .int k1, .int k2, mX0, mX0, mX0, mX0, mX0] [] NN KK I (PP s) Q) → mV X m4_wordKind 4 0 0 11 [.ref 109, .int k1, .int k2, .int y3, .int y4, .int y5, .int y6, mX0] [] NN KK I (PP s) Q := by
  intro f
  induction f with
  | zero => intro y3 y4 y5 y6 z hr hret hk; cases hr
  | succ f ih =>
    intro y3 y4 y5 y6 z hr hret hk
    unfold l4_wordKind_11 at hr
    refine mV_iload f4_wordKind_11 rfl ?_
    refine mV_ldcS0 f4_wordKind_13 rfl ?_
    refine mV_cStr (i := 0) (by decide) f4_wordKind_15 tg_mJ0_length rfl (mC_deep (cJ0_length_s0 X I s rfl) (by decide)) rfl rfl (Nat.le_of_ble_eq_true rfl) ?_
    refine mV_icmp_ge f4_wordKind_18 (fun h0 => ?_) (fun h0 => ?_)
    · rw [if_pos h0] at hr
      have hr := Option.some.inj hr; subst hr
      refine mV_drop (L' := [.ref 109, .int k1, .int k2, mX0, mX0, mX0, mX0, mX0]) (mSub_k (mSub_k (mSub_k (mSub_x (mSub_x (mSub_x (mSub_x (mSub_x mSub_n)))))))) ?_
      exact hk _ rfl
    · rw [if_neg h0] at hr
      refine mV_ldcS0 f4_wordKind_21 rfl ?_
      refine mV_iload f4_wordKind_23 rfl ?_
      obtain ⟨z0, hz0, hr⟩ := mBind hr
      refine mV_cStr (i := 0) (by decide) f4_wordKind_25 tg_mJ0_charAt rfl (mC_deep (cJ0_charAt_s0 X I s y6 hz0) (by decide)) rfl rfl (Nat.le_of_ble_eq_true rfl) ?_
      refine mV_istore (L' := [.ref 109, .int k1, .int k2, .int y3, .int y4, .int y5, .int y6, .int z0]) f4_wordKind_28 (by decide) rfl rfl ?_
      refine mV_iload f4_wordKind_30 rfl ?_
      refine mV_push f4_wordKind_32 ?_
      refine mV_icmp_ne f4_wordKind_34 (fun h1 => ?_) (fun h1 => ?_)
      · rw [if_neg h1] at hr
        refine mV_iload f4_wordKind_62 rfl ?_
        obtain ⟨z1, hz1, hr⟩ := mBind hr
        have keyz1 : mV X m4_wordKind 4 0 0 94 [.ref 109, .int k1, .int k2, .int y3, .int z1.1, .int z1.2, .int y6, mX0] [] NN KK I (PP s) Q := by
          refine mV_iinc (y := (y6 + 1)) (L' := [.ref 109, .int k1, .int k2, .int y3, .int z1.1, .int z1.2, .int (y6 + 1), mX0]) f4_wordKind_94 rfl rfl (by decide) rfl rfl ?_
          refine mV_goto f4_wordKind_97 ?_
          exact ih y3 z1.1 z1.2 (y6 + 1) _ hr hret hk
        clear hr
        have hr := hz1
        clear hz1
        refine mV_if_eq f4_wordKind_64 (fun h2 => ?_) (fun h2 => ?_)
        · rw [if_pos h2] at hr
          refine mV_push f4_wordKind_91 ?_
          refine mV_istore (L' := [.ref 109, .int k1, .int k2, .int y3, .int y4, .int 0, .int y6, .int z0]) f4_wordKind_92 (by decide) rfl rfl ?_
          have hr := Option.some.inj hr; subst hr
          refine mV_drop (L' := [.ref 109, .int k1, .int k2, .int y3, .int y4, .int 0, .int y6, mX0]) (mSub_k (mSub_k (mSub_k (mSub_k (mSub_k (mSub_k (mSub_k (mSub_x mSub_n)))))))) ?_
          exact keyz1
        · rw [if_neg h2] at hr
          refine mV_iload f4_wordKind_67 rfl ?_
          refine mV_iload f4_wordKind_69 rfl ?_
          refine mV_icmp_ge f4_wordKind_70 (fun h3 => ?_) (fun h3 => ?_)
          · rw [if_pos h3] at hr
            refine mV_push f4_wordKind_91 ?_
            refine mV_istore (L' := [.ref 109, .int k1, .int k2, .int y3, .int y4, .int 0, .int y6, .int z0]) f4_wordKind_92 (by decide) rfl rfl ?_
            have hr := Option.some.inj hr; subst hr
            refine mV_drop (L' := [.ref 109, .int k1, .int k2, .int y3, .int y4, .int 0, .int y6, mX0]) (mSub_k (mSub_k (mSub_k (mSub_k (mSub_k (mSub_k (mSub_k (mSub_x mSub_n)))))))) ?_
            exact keyz1
          · rw [if_neg h3] at hr
            refine mV_aload f4_wordKind_73 rfl ?_
            refine mV_getP f4_wordKind_74 (by decide) kk_109 rfl (pp_109_0 _) ?_
            refine mV_iload f4_wordKind_77 rfl ?_
            obtain ⟨z2, hz2, hr⟩ := mBind hr
            refine mV_ldO f4_wordKind_79 (by decide) kk_110 hz2 ?_
            refine mV_iload f4_wordKind_80 rfl ?_
            refine mV_icmp_ne f4_wordKind_82 (fun h4 => ?_) (fun h4 => ?_)
            · rw [if_neg h4] at hr
              refine mV_push f4_wordKind_91 ?_
              refine mV_istore (L' := [.ref 109, .int k1, .int k2, .int y3, .int y4, .int 0, .int y6, .int z0]) f4_wordKind_92 (by decide) rfl rfl ?_
              have hr := Option.some.inj hr; subst hr
              refine mV_drop (L' := [.ref 109, .int k1, .int k2, .int y3, .int y4, .int 0, .int y6, mX0]) (mSub_k (mSub_k (mSub_k (mSub_k (mSub_k (mSub_k (mSub_k (mSub_x mSub_n)))))))) ?_
              exact keyz1
            · rw [if_pos h4] at hr
              refine mV_iinc (y := (y4 + 1)) (L' := [.ref 109, .int k1, .int k2, .int y3, .int (y4 + 1), .int y5, .int y6, .int z0]) f4_wordKind_85 rfl rfl (by decide) rfl rfl ?_
              refine mV_goto f4_wordKind_88 ?_
              have hr := Option.some.inj hr; subst hr
              refine mV_drop (L' := [.ref 109, .int k1, .int k2, .int y3, .int (y4 + 1), .int y5, .int y6, mX0]) (mSub_k (mSub_k (mSub_k (mSub_k (mSub_k (mSub_k (mSub_k (mSub_x mSub_n)))))))) ?_
              exact keyz1
      · rw [if_pos h1] at hr
        refine mV_iload f4_wordKind_37 rfl ?_
        refine mV_if_eq f4_wordKind_39 (fun h5 => ?_) (fun h5 => ?_)
        · rw [if_pos h5] at hr
          refine mV_iinc (y := (y3 + 1)) (L' := [.ref 109, .int k1, .int k2, .int (y3 + 1), .int y4, .int y5, .int y6, .int z0]) f4_wordKind_50 rfl rfl (by decide) rfl rfl ?_
          refine mV_iload f4_wordKind_53 rfl ?_
          refine mV_istore (L' := [.ref 109, .int k1, .int k2, .int (y3 + 1), .int k1, .int y5, .int y6, .int z0]) f4_wordKind_54 (by decide) rfl rfl ?_
          refine mV_push f4_wordKind_56 ?_
          refine mV_istore (L' := [.ref 109, .int k1, .int k2, .int (y3 + 1), .int k1, .int 1, .int y6, .int z0]) f4_wordKind_57 (by decide) rfl rfl ?_
          refine mV_goto f4_wordKind_59 ?_
          refine mV_iinc (y := (y6 + 1)) (L' := [.ref 109, .int k1, .int k2, .int (y3 + 1), .int k1, .int 1, .int (y6 + 1), .int z0]) f4_wordKind_94 rfl rfl (by decide) rfl rfl ?_
          refine mV_goto f4_wordKind_97 ?_
          refine mV_drop (L' := [.ref 109, .int k1, .int k2, .int (y3 + 1), .int k1, .int 1, .int (y6 + 1), mX0]) (mSub_k (mSub_k (mSub_k (mSub_k (mSub_k (mSub_k (mSub_k (mSub_x mSub_n)))))))) ?_
          exact ih (y3 + 1) k1 1 (y6 + 1) _ hr hret hk
        · rw [if_neg h5] at hr
          refine mV_iload f4_wordKind_42 rfl ?_
          refine mV_iload f4_wordKind_44 rfl ?_
          refine mV_icmp_ne f4_wordKind_45 (fun h6 => ?_) (fun h6 => ?_)
          · rw [if_neg h6] at hr
            refine mV_iinc (y := (y3 + 1)) (L' := [.ref 109, .int k1, .int k2, .int (y3 + 1), .int y4, .int y5, .int y6, .int z0]) f4_wordKind_50 rfl rfl (by decide) rfl rfl ?_
            refine mV_iload f4_wordKind_53 rfl ?_
            refine mV_istore (L' := [.ref 109, .int k1, .int k2, .int (y3 + 1), .int k1, .int y5, .int y6, .int z0]) f4_wordKind_54 (by decide) rfl rfl ?_
            refine mV_push f4_wordKind_56 ?_
            refine mV_istore (L' := [.ref 109, .int k1, .int k2, .int (y3 + 1), .int k1, .int 1, .int y6, .int z0]) f4_wordKind_57 (by decide) rfl rfl ?_
            refine mV_goto f4_wordKind_59 ?_
            refine mV_iinc (y := (y6 + 1)) (L' := [.ref 109, .int k1, .int k2, .int (y3 + 1), .int k1, .int 1, .int (y6 + 1), .int z0]) f4_wordKind_94 rfl rfl (by decide) rfl rfl ?_
            refine mV_goto f4_wordKind_97 ?_
            refine mV_drop (L' := [.ref 109, .int k1, .int k2, .int (y3 + 1), .int k1, .int 1, .int (y6 + 1), mX0]) (mSub_k (mSub_k (mSub_k (mSub_k (mSub_k (mSub_k (mSub_k (mSub_x mSub_n)))))))) ?_
            exact ih (y3 + 1) k1 1 (y6 + 1) _ hr hret hk
          · rw [if_pos h6] at hr
            refine mV_iload f4_wordKind_48 rfl ?_
            have hr := Option.some.inj hr; subst hr; have hQ := hret _ rfl
            exact mV_iret rfl rfl f4_wordKind_49 hQ
set_option maxHeartbeats 4000000 in
set_option maxRecDepth 100000 in
theorem w4_wordKind (X : Nat × (Nat → Int32)) (I : mI) (s : Nat) (x0 : Int32) (x1 : Int32) (Q : mQ) {res : Int32} (hr : r4_wordKind I x0 x1 = some res) (hQ : Q (some (.int res)) NN KK I (PP s)) : mV X m4_wordKind 4 0 0 0 [.ref 109, .int x0, .int x1, mX0, mX0, mX0, mX0, mX0] [] NN KK I (PP s) Q := by
  unfold r4_wordKind at hr
  refine mV_push f4_wordKind_0 ?_
  refine mV_istore (L' := [.ref 109, .int x0, .int x1, .int 0, mX0, mX0, mX0, mX0]) f4_wordKind_1 (by decide) rfl rfl ?_
  refine mV_iload f4_wordKind_2 rfl ?_
  refine mV_istore (L' := [.ref 109, .int x0, .int x1, .int 0, .int x0, mX0, mX0, mX0]) f4_wordKind_3 (by decide) rfl rfl ?_
  refine mV_push f4_wordKind_5 ?_
  refine mV_istore (L' := [.ref 109, .int x0, .int x1, .int 0, .int x0, .int 1, mX0, mX0]) f4_wordKind_6 (by decide) rfl rfl ?_
  refine mV_push f4_wordKind_8 ?_
  refine mV_istore (L' := [.ref 109, .int x0, .int x1, .int 0, .int x0, .int 1, .int 0, mX0]) f4_wordKind_9 (by decide) rfl rfl ?_
  obtain ⟨z0, hz0, hr⟩ := mBind hr
  refine t4_wordKind_11 X Q s I x0 x1 FU 0 x0 1 0 _ hz0 (fun res ez0 => ?_) (fun wz0 ez0 => ?_)
  · rw [ez0] at hr; have hr := Option.some.inj hr; subst hr; exact hQ
  rw [ez0] at hr
  dsimp only at hr
  refine mV_push f4_wordKind_100 ?_
  have hr := Option.some.inj hr; subst hr
  exact mV_iret rfl rfl f4_wordKind_103 hQ
theorem c4_wordKind (X : Nat × (Nat → Int32)) (I : mI) (s : Nat) (x0 : Int32) (x1 : Int32) {res : Int32} (hr : r4_wordKind I x0 x1 = some res) : mC X m4_wordKind 4 0 0 [.ref 109, .int x0, .int x1] NN KK I (PP s) (mRet (some (.int res)) NN KK I (PP s)) :=
  mC_of (L0 := [.ref 109, .int x0, .int x1, mX0, mX0, mX0, mX0, mX0]) rfl (Nat.le_of_ble_eq_true rfl) (w4_wordKind X I s x0 x1 _ hr (mRet_ok _ _ _ _ _))

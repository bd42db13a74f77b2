def r9_game (I : mI) (x0 : Int32) : Option (Int32) := (r7_goodString I 3).bind fun z0 => if (z0 : Int32) = ((-1) : Int32) then some (-1) else if (x0 : Int32) < (0 : Int32) then some (-1) else if (x0 : Int32) ≤ (1 : Int32) then (if (x0 : Int32) = (0 : Int32) then some z0 else (r7_goodTake I 3 z0).bind fun z2 => some z2 : Option (Int32)).bind fun z1 => some z1 else some (-1)
set_option maxHeartbeats 4000000 in
set_option maxRecDepth 100000 in
theorem w9_game (X : Nat × (Nat → Int32)) (I : mI) (s : Nat) (x0 : Int32) (Q : mQ) {res : Int32} (hr : r9_game I x0 = some res) (hQ : Q (some (.int res)) NN KK I (PP s)) : mV X m9_game 3 0 0 0 [.ref 0, .int x0, mX0] [] NN KK I (PP s) Q := by
  unfold r9_game at hr
  refine mV_aload f9_game_0 rfl ?_
  refine mV_getP f9_game_1 (by decide) kk_0 rfl (pp_0_1 _) ?_
  refine mV_getP f9_game_4 (by decide) kk_2 rfl (pp_2_0 _) ?_
  obtain ⟨z0, hz0, hr⟩ := mBind hr
  refine mV_cV f9_game_7 tg_m7_goodString mCls7 (by decide) kk_3 (mC_deep (c7_goodString X I s 3 mStg_3 hz0) (by decide)) rfl rfl (Nat.le_of_ble_eq_true rfl) ?_
  refine mV_istore (L' := [.ref 0, .int x0, .int z0]) f9_game_10 (by decide) rfl rfl ?_
  refine mV_iload f9_game_11 rfl ?_
  refine mV_push f9_game_12 ?_
  refine mV_icmp_eq f9_game_13 (fun h0 => ?_) (fun h0 => ?_)
  · rw [if_pos h0] at hr
    refine mV_push f9_game_25 ?_
    have hr := Option.some.inj hr; subst hr
    exact mV_iret rfl rfl f9_game_26 hQ
  · rw [if_neg h0] at hr
    refine mV_iload f9_game_16 rfl ?_
    refine mV_if_lt f9_game_17 (fun h1 => ?_) (fun h1 => ?_)
    · rw [if_pos h1] at hr
      refine mV_push f9_game_25 ?_
      have hr := Option.some.inj hr; subst hr
      exact mV_iret rfl rfl f9_game_26 hQ
    · rw [if_neg h1] at hr
      refine mV_iload f9_game_20 rfl ?_
      refine mV_push f9_game_21 ?_
      refine mV_icmp_le f9_game_22 (fun h2 => ?_) (fun h2 => ?_)
      · rw [if_pos h2] at hr
        refine mV_iload f9_game_27 rfl ?_
        obtain ⟨z1, hz1, hr⟩ := mBind hr
        have keyz1 : mV X m9_game 3 0 0 46 [.ref 0, mX0, mX0] [.int z1] NN KK I (PP s) Q := by
          have hr := Option.some.inj hr; subst hr
          exact mV_iret rfl rfl f9_game_46 hQ
        clear hr
        have hr := hz1
        clear hz1
        refine mV_if_ne f9_game_28 (fun h3 => ?_) (fun h3 => ?_)
        · rw [if_neg h3] at hr
          refine mV_aload f9_game_35 rfl ?_
          refine mV_getP f9_game_36 (by decide) kk_0 rfl (pp_0_1 _) ?_
          refine mV_getP f9_game_39 (by decide) kk_2 rfl (pp_2_0 _) ?_
          refine mV_iload f9_game_42 rfl ?_
          obtain ⟨z2, hz2, hr⟩ := mBind hr
          refine mV_cV f9_game_43 tg_m7_goodTake mCls7 (by decide) kk_3 (mC_deep (c7_goodTake X I s 3 mStg_3 z0 hz2) (by decide)) rfl rfl (Nat.le_of_ble_eq_true rfl) ?_
          have hr := Option.some.inj hr; subst hr
          refine mV_drop (L' := [.ref 0, mX0, mX0]) (mSub_k (mSub_x (mSub_x mSub_n))) ?_
          exact keyz1
        · rw [if_pos h3] at hr
          refine mV_iload f9_game_31 rfl ?_
          refine mV_goto f9_game_32 ?_
          have hr := Option.some.inj hr; subst hr
          refine mV_drop (L' := [.ref 0, mX0, mX0]) (mSub_k (mSub_x (mSub_x mSub_n))) ?_
          exact keyz1
      · rw [if_neg h2] at hr
        refine mV_push f9_game_25 ?_
        have hr := Option.some.inj hr; subst hr
        exact mV_iret rfl rfl f9_game_26 hQ
theorem c9_game (X : Nat × (Nat → Int32)) (I : mI) (s : Nat) (x0 : Int32) {res : Int32} (hr : r9_game I x0 = some res) : mC X m9_game 3 0 0 [.ref 0, .int x0] NN KK I (PP s) (mRet (some (.int res)) NN KK I (PP s)) :=
  mC_of (L0 := [.ref 0, .int x0, mX0]) rfl (Nat.le_of_ble_eq_true rfl) (w9_game X I s x0 _ hr (mRet_ok _ _ _ _ _))
def r3_goBack (I : mI) : Option (Int32 × mI) := if (I 77 2 : Int32) = (0 : Int32) then some (0, I) else (mLdP (mRm (I 77 1 + (I 77 2 - 1)) 6)).bind fun z0 => (r7_copyFrom (mW I 77 2 (I 77 2 - 1)) 3 z0).bind fun z1 => some (1, z1)
set_option maxHeartbeats 4000000 in
set_option maxRecDepth 100000 in
theorem w3_goBack (X : Nat × (Nat → Int32)) (I : mI) (s : Nat) (Q : mQ) {res : Int32 × mI} (hr : r3_goBack I = some res) (hQ : Q (some (.int res.1)) NN KK res.2 (PP s)) : mV X m3_goBack 2 0 0 0 [.ref 77, .ref 3, mX0] [] NN KK I (PP s) Q := by
  unfold r3_goBack at hr
  refine mV_aload f3_goBack_0 rfl ?_
  refine mV_gI (I 77 2) f3_goBack_1 (by decide) kk_77 rfl rfl ?_
  refine mV_if_ne f3_goBack_4 (fun h0 => ?_) (fun h0 => ?_)
  · rw [if_neg h0] at hr
    refine mV_aload f3_goBack_9 rfl ?_
    refine mV_dup f3_goBack_10 rfl ?_
    refine mV_gI (I 77 2) f3_goBack_11 (by decide) kk_77 rfl rfl ?_
    refine mV_push f3_goBack_14 ?_
    refine mV_isub f3_goBack_15 ?_
    refine mV_putI f3_goBack_16 (by decide) kk_77 rfl rfl ?_
    refine mV_aload f3_goBack_19 rfl ?_
    refine mV_getP f3_goBack_20 (by decide) kk_77 rfl (pp_77_0 _) ?_
    refine mV_aload f3_goBack_23 rfl ?_
    refine mV_gI (I 77 1) f3_goBack_24 (by decide) kk_77 rfl rfl ?_
    refine mV_aload f3_goBack_27 rfl ?_
    refine mV_gI (I 77 2 - 1) f3_goBack_28 (by decide) kk_77 rfl rfl ?_
    refine mV_iadd f3_goBack_31 ?_
    refine mV_push f3_goBack_32 ?_
    refine mV_remC f3_goBack_34 (by decide) ?_
    obtain ⟨z0, ez0, hr⟩ := mBind hr
    have hz0 := mLdP_stg ez0
    refine mV_ldP f3_goBack_35 ez0 ?_
    refine mV_astore (L' := [.ref 77, .ref 3, .ref z0]) f3_goBack_36 (by decide) rfl rfl ?_
    refine mV_aload f3_goBack_37 rfl ?_
    refine mV_ifnull f3_goBack_38 ?_
    refine mV_aload f3_goBack_41 rfl ?_
    refine mV_aload f3_goBack_42 rfl ?_
    obtain ⟨z1, hz1, hr⟩ := mBind hr
    refine mV_cV f3_goBack_43 tg_m7_copyFrom mCls7 (by decide) kk_3 (mC_deep (c7_copyFrom X (mW I 77 2 (I 77 2 - 1)) s 3 z0 mStg_3 hz0 hz1) (by decide)) rfl rfl (Nat.le_of_ble_eq_true rfl) ?_
    refine mV_push f3_goBack_46 ?_
    have hr := Option.some.inj hr; subst hr
    exact mV_iret rfl rfl f3_goBack_47 hQ
  · rw [if_pos h0] at hr
    refine mV_push f3_goBack_7 ?_
    have hr := Option.some.inj hr; subst hr
    exact mV_iret rfl rfl f3_goBack_8 hQ
theorem c3_goBack (X : Nat × (Nat → Int32)) (I : mI) (s : Nat) {res : Int32 × mI} (hr : r3_goBack I = some res) : mC X m3_goBack 2 0 0 [.ref 77, .ref 3] NN KK I (PP s) (mRet (some (.int res.1)) NN KK res.2 (PP s)) :=
  mC_of (L0 := [.ref 77, .ref 3, mX0]) rfl (Nat.le_of_ble_eq_true rfl) (w3_goBack X I s _ hr (mRet_ok _ _ _ _ _))
def r9_undo (I : mI) : Option (Int32 × mI) := (r3_goBack I).bind fun z0 => some ((z0.1 &&& 1), z0.2)
set_option maxHeartbeats 4000000 in
set_option maxRecDepth 100000 in
theorem w9_undo (X : Nat × (Nat → Int32)) (I : mI) (s : Nat) (Q : mQ) {res : Int32 × mI} (hr : r9_undo I = some res) (hQ : Q (some (.int res.1)) NN KK res.2 (PP s)) : mV X m9_undo 3 0 0 0 [.ref 0] [] NN KK I (PP s) Q := by
  unfold r9_undo at hr
  refine mV_aload f9_undo_0 rfl ?_
  refine mV_getP f9_undo_1 (by decide) kk_0 rfl (pp_0_4 _) ?_
  refine mV_aload f9_undo_4 rfl ?_
  refine mV_getP f9_undo_5 (by decide) kk_0 rfl (pp_0_1 _) ?_
  refine mV_getP f9_undo_8 (by decide) kk_2 rfl (pp_2_0 _) ?_
  obtain ⟨z0, hz0, hr⟩ := mBind hr
  refine mV_cV f9_undo_11 tg_m3_goBack mCls3 (by decide) kk_77 (mC_deep (c3_goBack X I s hz0) (by decide)) rfl rfl (Nat.le_of_ble_eq_true rfl) ?_
  have hr := Option.some.inj hr; subst hr
  exact mV_zret rfl f9_undo_14 hQ
theorem c9_undo (X : Nat × (Nat → Int32)) (I : mI) (s : Nat) {res : Int32 × mI} (hr : r9_undo I = some res) : mC X m9_undo 3 0 0 [.ref 0] NN KK I (PP s) (mRet (some (.int res.1)) NN KK res.2 (PP s)) :=
  mC_of (L0 := [.ref 0]) rfl (Nat.le_of_ble_eq_true rfl) (w9_undo X I s _ hr (mRet_ok _ _ _ _ _))
def r0_copyFrom_50_8 (I : mI) : Option (mI) := (mCpO I 9 12 51 12 0 0 12).bind fun z0 => (mCpO z0 10 12 52 12 0 0 12).bind fun z1 => (mCpO z1 11 12 53 12 0 0 12).bind fun z2 => (mCpO z2 12 6 54 6 0 0 6).bind fun z3 => (mCpO z3 13 6 55 6 0 0 6).bind fun z4 => some (mW (mW z4 50 6 (z4 8 6)) 50 7 (z4 8 7))
set_option maxHeartbeats 4000000 in
set_option maxRecDepth 100000 in
theorem w0_copyFrom_50_8 (X : Nat × (Nat → Int32)) (I : mI) (s : Nat) (Q : mQ) {res : mI} (hr : r0_copyFrom_50_8 I = some res) (hQ : Q none NN KK res (PP s)) : mV X m0_copyFrom 1 0 0 0 [.ref 50, .ref 8] [] NN KK I (PP s) Q := by
  unfold r0_copyFrom_50_8 at hr
  refine mV_aload f0_copyFrom_0 rfl ?_
  refine mV_getP f0_copyFrom_1 (by decide) kk_8 rfl (pp_8_0 _) ?_
  refine mV_push f0_copyFrom_4 ?_
  refine mV_aload f0_copyFrom_5 rfl ?_
  refine mV_getP f0_copyFrom_6 (by decide) kk_50 rfl (pp_50_0 _) ?_
  refine mV_push f0_copyFrom_9 ?_
  refine mV_push f0_copyFrom_10 ?_
  obtain ⟨z0, hz0, hr⟩ := mBind hr
  refine mV_cpO f0_copyFrom_12 (by decide) (by decide) kk_9 kk_51 hz0 (Nat.le_of_ble_eq_true rfl) ?_
  refine mV_aload f0_copyFrom_15 rfl ?_
  refine mV_getP f0_copyFrom_16 (by decide) kk_8 rfl (pp_8_1 _) ?_
  refine mV_push f0_copyFrom_19 ?_
  refine mV_aload f0_copyFrom_20 rfl ?_
  refine mV_getP f0_copyFrom_21 (by decide) kk_50 rfl (pp_50_1 _) ?_
  refine mV_push f0_copyFrom_24 ?_
  refine mV_push f0_copyFrom_25 ?_
  obtain ⟨z1, hz1, hr⟩ := mBind hr
  refine mV_cpO f0_copyFrom_27 (by decide) (by decide) kk_10 kk_52 hz1 (Nat.le_of_ble_eq_true rfl) ?_
  refine mV_aload f0_copyFrom_30 rfl ?_
  refine mV_getP f0_copyFrom_31 (by decide) kk_8 rfl (pp_8_2 _) ?_
  refine mV_push f0_copyFrom_34 ?_
  refine mV_aload f0_copyFrom_35 rfl ?_
  refine mV_getP f0_copyFrom_36 (by decide) kk_50 rfl (pp_50_2 _) ?_
  refine mV_push f0_copyFrom_39 ?_
  refine mV_push f0_copyFrom_40 ?_
  obtain ⟨z2, hz2, hr⟩ := mBind hr
  refine mV_cpO f0_copyFrom_42 (by decide) (by decide) kk_11 kk_53 hz2 (Nat.le_of_ble_eq_true rfl) ?_
  refine mV_aload f0_copyFrom_45 rfl ?_
  refine mV_getP f0_copyFrom_46 (by decide) kk_8 rfl (pp_8_3 _) ?_
  refine mV_push f0_copyFrom_49 ?_
  refine mV_aload f0_copyFrom_50 rfl ?_
  refine mV_getP f0_copyFrom_51 (by decide) kk_50 rfl (pp_50_3 _) ?_
  refine mV_push f0_copyFrom_54 ?_
  refine mV_push f0_copyFrom_55 ?_
  obtain ⟨z3, hz3, hr⟩ := mBind hr
  refine mV_cpO f0_copyFrom_57 (by decide) (by decide) kk_12 kk_54 hz3 (Nat.le_of_ble_eq_true rfl) ?_
  refine mV_aload f0_copyFrom_60 rfl ?_
  refine mV_getP f0_copyFrom_61 (by decide) kk_8 rfl (pp_8_4 _) ?_
  refine mV_push f0_copyFrom_64 ?_
  refine mV_aload f0_copyFrom_65 rfl ?_
  refine mV_getP f0_copyFrom_66 (by decide) kk_50 rfl (pp_50_4 _) ?_
  refine mV_push f0_copyFrom_69 ?_
  refine mV_push f0_copyFrom_70 ?_
  obtain ⟨z4, hz4, hr⟩ := mBind hr
  refine mV_cpO f0_copyFrom_72 (by decide) (by decide) kk_13 kk_55 hz4 (Nat.le_of_ble_eq_true rfl) ?_
  refine mV_aload f0_copyFrom_75 rfl ?_
  refine mV_aload f0_copyFrom_76 rfl ?_
  refine mV_gI (z4 8 6) f0_copyFrom_77 (by decide) kk_8 rfl rfl ?_
  refine mV_putI f0_copyFrom_80 (by decide) kk_50 rfl rfl ?_
  refine mV_aload f0_copyFrom_83 rfl ?_
  refine mV_aload f0_copyFrom_84 rfl ?_
  refine mV_gI (z4 8 7) f0_copyFrom_85 (by decide) kk_8 rfl rfl ?_
  refine mV_putI f0_copyFrom_88 (by decide) kk_50 rfl rfl ?_
  have hr := Option.some.inj hr; subst hr
  exact mV_vret rfl f0_copyFrom_91 hQ
theorem c0_copyFrom_50_8 (X : Nat × (Nat → Int32)) (I : mI) (s : Nat) {res : mI} (hr : r0_copyFrom_50_8 I = some res) : mC X m0_copyFrom 1 0 0 [.ref 50, .ref 8] NN KK I (PP s) (mRet none NN KK res (PP s)) :=
  mC_of (L0 := [.ref 50, .ref 8]) rfl (Nat.le_of_ble_eq_true rfl) (w0_copyFrom_50_8 X I s _ hr (mRet_ok _ _ _ _ _))
def r6_copyFrom_57_15 (I : mI) : Option (mI) := (mCpO I 16 144 58 144 0 0 144).bind fun z0 => (mCpO (mW z0 57 3 (mMin (mMin (z0 15 3) 400) 400)) 17 400 59 400 0 0 (mMin (mMin (z0 15 3) 400) 400)).bind fun z1 => some (mW z1 57 2 (z1 15 2))
set_option maxHeartbeats 4000000 in
set_option maxRecDepth 100000 in
theorem w6_copyFrom_57_15 (X : Nat × (Nat → Int32)) (I : mI) (s : Nat) (Q : mQ) {res : mI} (hr : r6_copyFrom_57_15 I = some res) (hQ : Q none NN KK res (PP s)) : mV X m6_copyFrom 1 0 0 0 [.ref 57, .ref 15] [] NN KK I (PP s) Q := by
  unfold r6_copyFrom_57_15 at hr
  refine mV_aload f6_copyFrom_0 rfl ?_
  refine mV_getP f6_copyFrom_1 (by decide) kk_15 rfl (pp_15_0 _) ?_
  refine mV_push f6_copyFrom_4 ?_
  refine mV_aload f6_copyFrom_5 rfl ?_
  refine mV_getP f6_copyFrom_6 (by decide) kk_57 rfl (pp_57_0 _) ?_
  refine mV_push f6_copyFrom_9 ?_
  refine mV_aload f6_copyFrom_10 rfl ?_
  refine mV_getP f6_copyFrom_11 (by decide) kk_57 rfl (pp_57_0 _) ?_
  refine mV_alen f6_copyFrom_14 (by decide) kk_58 ?_
  refine mV_as 144 (by decide) ?_
  obtain ⟨z0, hz0, hr⟩ := mBind hr
  refine mV_cpO f6_copyFrom_15 (by decide) (by decide) kk_16 kk_58 hz0 (Nat.le_of_ble_eq_true rfl) ?_
  refine mV_aload f6_copyFrom_18 rfl ?_
  refine mV_aload f6_copyFrom_19 rfl ?_
  refine mV_gI (z0 15 3) f6_copyFrom_20 (by decide) kk_15 rfl rfl ?_
  refine mV_aload f6_copyFrom_23 rfl ?_
  refine mV_getP f6_copyFrom_24 (by decide) kk_15 rfl (pp_15_1 _) ?_
  refine mV_alen f6_copyFrom_27 (by decide) kk_17 ?_
  refine mV_as 400 (by decide) ?_
  refine mV_minC fm6_copyFrom_28 (Nat.le_of_ble_eq_true rfl) ?_
  refine mV_aload f6_copyFrom_31 rfl ?_
  refine mV_getP f6_copyFrom_32 (by decide) kk_57 rfl (pp_57_1 _) ?_
  refine mV_alen f6_copyFrom_35 (by decide) kk_59 ?_
  refine mV_as 400 (by decide) ?_
  refine mV_minC fm6_copyFrom_36 (Nat.le_of_ble_eq_true rfl) ?_
  refine mV_putI f6_copyFrom_39 (by decide) kk_57 rfl rfl ?_
  refine mV_aload f6_copyFrom_42 rfl ?_
  refine mV_getP f6_copyFrom_43 (by decide) kk_15 rfl (pp_15_1 _) ?_
  refine mV_push f6_copyFrom_46 ?_
  refine mV_aload f6_copyFrom_47 rfl ?_
  refine mV_getP f6_copyFrom_48 (by decide) kk_57 rfl (pp_57_1 _) ?_
  refine mV_push f6_copyFrom_51 ?_
  refine mV_aload f6_copyFrom_52 rfl ?_
  refine mV_gI (mMin (mMin (z0 15 3) 400) 400) f6_copyFrom_53 (by decide) kk_57 rfl rfl ?_
  obtain ⟨z1, hz1, hr⟩ := mBind hr
  refine mV_cpO f6_copyFrom_56 (by decide) (by decide) kk_17 kk_59 hz1 (Nat.le_of_ble_eq_true rfl) ?_
  refine mV_aload f6_copyFrom_59 rfl ?_
  refine mV_aload f6_copyFrom_60 rfl ?_
  refine mV_gI (z1 15 2) f6_copyFrom_61 (by decide) kk_15 rfl rfl ?_
  refine mV_putI f6_copyFrom_64 (by decide) kk_57 rfl rfl ?_
  have hr := Option.some.inj hr; subst hr
  exact mV_vret rfl f6_copyFrom_67 hQ
theorem c6_copyFrom_57_15 (X : Nat × (Nat → Int32)) (I : mI) (s : Nat) {res : mI} (hr : r6_copyFrom_57_15 I = some res) : mC X m6_copyFrom 1 0 0 [.ref 57, .ref 15] NN KK I (PP s) (mRet none NN KK res (PP s)) :=
  mC_of (L0 := [.ref 57, .ref 15]) rfl (Nat.le_of_ble_eq_true rfl) (w6_copyFrom_57_15 X I s _ hr (mRet_ok _ _ _ _ _))
def r6_copyFrom_60_18 (I : mI) : Option (mI) := (mCpO I 19 144 61 144 0 0 144).bind fun z0 => (mCpO (mW z0 60 3 (mMin (mMin (z0 18 3) 0) 0)) 20 0 62 0 0 0 (mMin (mMin (z0 18 3) 0) 0)).bind fun z1 => some (mW z1 60 2 (z1 18 2))
set_option maxHeartbeats 4000000 in
set_option maxRecDepth 100000 in
theorem w6_copyFrom_60_18 (X : Nat × (Nat → Int32)) (I : mI) (s : Nat) (Q : mQ) {res : mI} (hr : r6_copyFrom_60_18 I = some res) (hQ : Q none NN KK res (PP s)) : mV X m6_copyFrom 1 0 0 0 [.ref 60, .ref 18] [] NN KK I (PP s) Q := by
  unfold r6_copyFrom_60_18 at hr
  refine mV_aload f6_copyFrom_0 rfl ?_
  refine mV_getP f6_copyFrom_1 (by decide) kk_18 rfl (pp_18_0 _) ?_
  refine mV_push f6_copyFrom_4 ?_
  refine mV_aload f6_copyFrom_5 rfl ?_
  refine mV_getP f6_copyFrom_6 (by decide) kk_60 rfl (pp_60_0 _) ?_
  refine mV_push f6_copyFrom_9 ?_
  refine mV_aload f6_copyFrom_10 rfl ?_
  refine mV_getP f6_copyFrom_11 (by decide) kk_60 rfl (pp_60_0 _) ?_
  refine mV_alen f6_copyFrom_14 (by decide) kk_61 ?_
  refine mV_as 144 (by decide) ?_
  obtain ⟨z0, hz0, hr⟩ := mBind hr
  refine mV_cpO f6_copyFrom_15 (by decide) (by decide) kk_19 kk_61 hz0 (Nat.le_of_ble_eq_true rfl) ?_
  refine mV_aload f6_copyFrom_18 rfl ?_
  refine mV_aload f6_copyFrom_19 rfl ?_
  refine mV_gI (z0 18 3) f6_copyFrom_20 (by decide) kk_18 rfl rfl ?_
  refine mV_aload f6_copyFrom_23 rfl ?_
  refine mV_getP f6_copyFrom_24 (by decide) kk_18 rfl (pp_18_1 _) ?_
  refine mV_alen f6_copyFrom_27 (by decide) kk_20 ?_
  refine mV_as 0 (by decide) ?_
  refine mV_minC fm6_copyFrom_28 (Nat.le_of_ble_eq_true rfl) ?_
  refine mV_aload f6_copyFrom_31 rfl ?_
  refine mV_getP f6_copyFrom_32 (by decide) kk_60 rfl (pp_60_1 _) ?_
  refine mV_alen f6_copyFrom_35 (by decide) kk_62 ?_
  refine mV_as 0 (by decide) ?_
  refine mV_minC fm6_copyFrom_36 (Nat.le_of_ble_eq_true rfl) ?_
  refine mV_putI f6_copyFrom_39 (by decide) kk_60 rfl rfl ?_
  refine mV_aload f6_copyFrom_42 rfl ?_
  refine mV_getP f6_copyFrom_43 (by decide) kk_18 rfl (pp_18_1 _) ?_
  refine mV_push f6_copyFrom_46 ?_
  refine mV_aload f6_copyFrom_47 rfl ?_
  refine mV_getP f6_copyFrom_48 (by decide) kk_60 rfl (pp_60_1 _) ?_
  refine mV_push f6_copyFrom_51 ?_
  refine mV_aload f6_copyFrom_52 rfl ?_
  refine mV_gI (mMin (mMin (z0 18 3) 0) 0) f6_copyFrom_53 (by decide) kk_60 rfl rfl ?_
  obtain ⟨z1, hz1, hr⟩ := mBind hr
  refine mV_cpO f6_copyFrom_56 (by decide) (by decide) kk_20 kk_62 hz1 (Nat.le_of_ble_eq_true rfl) ?_
  refine mV_aload f6_copyFrom_59 rfl ?_
  refine mV_aload f6_copyFrom_60 rfl ?_
  refine mV_gI (z1 18 2) f6_copyFrom_61 (by decide) kk_18 rfl rfl ?_
  refine mV_putI f6_copyFrom_64 (by decide) kk_60 rfl rfl ?_
  have hr := Option.some.inj hr; subst hr
  exact mV_vret rfl f6_copyFrom_67 hQ
theorem c6_copyFrom_60_18 (X : Nat × (Nat → Int32)) (I : mI) (s : Nat) {res : mI} (hr : r6_copyFrom_60_18 I = some res) : mC X m6_copyFrom 1 0 0 [.ref 60, .ref 18] NN KK I (PP s) (mRet none NN KK res (PP s)) :=
  mC_of (L0 := [.ref 60, .ref 18]) rfl (Nat.le_of_ble_eq_true rfl) (w6_copyFrom_60_18 X I s _ hr (mRet_ok _ _ _ _ _))
def r6_copyFrom_63_21 (I : mI) : Option (mI) := (mCpO I 22 144 64 144 0 0 144).bind fun z0 => (mCpO (mW z0 63 3 (mMin (mMin (z0 21 3) 0) 0)) 23 0 65 0 0 0 (mMin (mMin (z0 21 3) 0) 0)).bind fun z1 => some (mW z1 63 2 (z1 21 2))
set_option maxHeartbeats 4000000 in
set_option maxRecDepth 100000 in
theorem w6_copyFrom_63_21 (X : Nat × (Nat → Int32)) (I : mI) (s : Nat) (Q : mQ) {res : mI} (hr : r6_copyFrom_63_21 I = some res) (hQ : Q none NN KK res (PP s)) : mV X m6_copyFrom 1 0 0 0 [.ref 63, .ref 21] [] NN KK I (PP s) Q := by
  unfold r6_copyFrom_63_21 at hr
  refine mV_aload f6_copyFrom_0 rfl ?_
  refine mV_getP f6_copyFrom_1 (by decide) kk_21 rfl (pp_21_0 _) ?_
  refine mV_push f6_copyFrom_4 ?_
  refine mV_aload f6_copyFrom_5 rfl ?_
  refine mV_getP f6_copyFrom_6 (by decide) kk_63 rfl (pp_63_0 _) ?_
  refine mV_push f6_copyFrom_9 ?_
  refine mV_aload f6_copyFrom_10 rfl ?_
  refine mV_getP f6_copyFrom_11 (by decide) kk_63 rfl (pp_63_0 _) ?_
  refine mV_alen f6_copyFrom_14 (by decide) kk_64 ?_
  refine mV_as 144 (by decide) ?_
  obtain ⟨z0, hz0, hr⟩ := mBind hr
  refine mV_cpO f6_copyFrom_15 (by decide) (by decide) kk_22 kk_64 hz0 (Nat.le_of_ble_eq_true rfl) ?_
  refine mV_aload f6_copyFrom_18 rfl ?_
  refine mV_aload f6_copyFrom_19 rfl ?_
  refine mV_gI (z0 21 3) f6_copyFrom_20 (by decide) kk_21 rfl rfl ?_
  refine mV_aload f6_copyFrom_23 rfl ?_
  refine mV_getP f6_copyFrom_24 (by decide) kk_21 rfl (pp_21_1 _) ?_
  refine mV_alen f6_copyFrom_27 (by decide) kk_23 ?_
  refine mV_as 0 (by decide) ?_
  refine mV_minC fm6_copyFrom_28 (Nat.le_of_ble_eq_true rfl) ?_
  refine mV_aload f6_copyFrom_31 rfl ?_
  refine mV_getP f6_copyFrom_32 (by decide) kk_63 rfl (pp_63_1 _) ?_
  refine mV_alen f6_copyFrom_35 (by decide) kk_65 ?_
  refine mV_as 0 (by decide) ?_
  refine mV_minC fm6_copyFrom_36 (Nat.le_of_ble_eq_true rfl) ?_
  refine mV_putI f6_copyFrom_39 (by decide) kk_63 rfl rfl ?_
  refine mV_aload f6_copyFrom_42 rfl ?_
  refine mV_getP f6_copyFrom_43 (by decide) kk_21 rfl (pp_21_1 _) ?_
  refine mV_push f6_copyFrom_46 ?_
  refine mV_aload f6_copyFrom_47 rfl ?_
  refine mV_getP f6_copyFrom_48 (by decide) kk_63 rfl (pp_63_1 _) ?_
  refine mV_push f6_copyFrom_51 ?_
  refine mV_aload f6_copyFrom_52 rfl ?_
  refine mV_gI (mMin (mMin (z0 21 3) 0) 0) f6_copyFrom_53 (by decide) kk_63 rfl rfl ?_
  obtain ⟨z1, hz1, hr⟩ := mBind hr
  refine mV_cpO f6_copyFrom_56 (by decide) (by decide) kk_23 kk_65 hz1 (Nat.le_of_ble_eq_true rfl) ?_
  refine mV_aload f6_copyFrom_59 rfl ?_
  refine mV_aload f6_copyFrom_60 rfl ?_
  refine mV_gI (z1 21 2) f6_copyFrom_61 (by decide) kk_21 rfl rfl ?_
  refine mV_putI f6_copyFrom_64 (by decide) kk_63 rfl rfl ?_
  have hr := Option.some.inj hr; subst hr
  exact mV_vret rfl f6_copyFrom_67 hQ
theorem c6_copyFrom_63_21 (X : Nat × (Nat → Int32)) (I : mI) (s : Nat) {res : mI} (hr : r6_copyFrom_63_21 I = some res) : mC X m6_copyFrom 1 0 0 [.ref 63, .ref 21] NN KK I (PP s) (mRet none NN KK res (PP s)) :=
  mC_of (L0 := [.ref 63, .ref 21]) rfl (Nat.le_of_ble_eq_true rfl) (w6_copyFrom_63_21 X I s _ hr (mRet_ok _ _ _ _ _))
def r6_copyFrom_66_24 (I : mI) : Option (mI) := (mCpO I 25 144 67 144 0 0 144).bind fun z0 => (mCpO (mW z0 66 3 (mMin (mMin (z0 24 3) 0) 0)) 26 0 68 0 0 0 (mMin (mMin (z0 24 3) 0) 0)).bind fun z1 => some (mW z1 66 2 (z1 24 2))
set_option maxHeartbeats 4000000 in
set_option maxRecDepth 100000 in
theorem w6_copyFrom_66_24 (X : Nat × (Nat → Int32)) (I : mI) (s : Nat) (Q : mQ) {res : mI} (hr : r6_copyFrom_66_24 I = some res) (hQ : Q none NN KK res (PP s)) : mV X m6_copyFrom 1 0 0 0 [.ref 66, .ref 24] [] NN KK I (PP s) Q := by
  unfold r6_copyFrom_66_24 at hr
  refine mV_aload f6_copyFrom_0 rfl ?_
  refine mV_getP f6_copyFrom_1 (by decide) kk_24 rfl (pp_24_0 _) ?_
  refine mV_push f6_copyFrom_4 ?_
  refine mV_aload f6_copyFrom_5 rfl ?_
  refine mV_getP f6_copyFrom_6 (by decide) kk_66 rfl (pp_66_0 _) ?_
  refine mV_push f6_copyFrom_9 ?_
  refine mV_aload f6_copyFrom_10 rfl ?_
  refine mV_getP f6_copyFrom_11 (by decide) kk_66 rfl (pp_66_0 _) ?_
  refine mV_alen f6_copyFrom_14 (by decide) kk_67 ?_
  refine mV_as 144 (by decide) ?_
  obtain ⟨z0, hz0, hr⟩ := mBind hr
  refine mV_cpO f6_copyFrom_15 (by decide) (by decide) kk_25 kk_67 hz0 (Nat.le_of_ble_eq_true rfl) ?_
  refine mV_aload f6_copyFrom_18 rfl ?_
  refine mV_aload f6_copyFrom_19 rfl ?_
  refine mV_gI (z0 24 3) f6_copyFrom_20 (by decide) kk_24 rfl rfl ?_
  refine mV_aload f6_copyFrom_23 rfl ?_
  refine mV_getP f6_copyFrom_24 (by decide) kk_24 rfl (pp_24_1 _) ?_
  refine mV_alen f6_copyFrom_27 (by decide) kk_26 ?_
  refine mV_as 0 (by decide) ?_
  refine mV_minC fm6_copyFrom_28 (Nat.le_of_ble_eq_true rfl) ?_
  refine mV_aload f6_copyFrom_31 rfl ?_
  refine mV_getP f6_copyFrom_32 (by decide) kk_66 rfl (pp_66_1 _) ?_
  refine mV_alen f6_copyFrom_35 (by decide) kk_68 ?_
  refine mV_as 0 (by decide) ?_
  refine mV_minC fm6_copyFrom_36 (Nat.le_of_ble_eq_true rfl) ?_
  refine mV_putI f6_copyFrom_39 (by decide) kk_66 rfl rfl ?_
  refine mV_aload f6_copyFrom_42 rfl ?_
  refine mV_getP f6_copyFrom_43 (by decide) kk_24 rfl (pp_24_1 _) ?_
  refine mV_push f6_copyFrom_46 ?_
  refine mV_aload f6_copyFrom_47 rfl ?_
  refine mV_getP f6_copyFrom_48 (by decide) kk_66 rfl (pp_66_1 _) ?_
  refine mV_push f6_copyFrom_51 ?_
  refine mV_aload f6_copyFrom_52 rfl ?_
  refine mV_gI (mMin (mMin (z0 24 3) 0) 0) f6_copyFrom_53 (by decide) kk_66 rfl rfl ?_
  obtain ⟨z1, hz1, hr⟩ := mBind hr
  refine mV_cpO f6_copyFrom_56 (by decide) (by decide) kk_26 kk_68 hz1 (Nat.le_of_ble_eq_true rfl) ?_
  refine mV_aload f6_copyFrom_59 rfl ?_
  refine mV_aload f6_copyFrom_60 rfl ?_
  refine mV_gI (z1 24 2) f6_copyFrom_61 (by decide) kk_24 rfl rfl ?_
  refine mV_putI f6_copyFrom_64 (by decide) kk_66 rfl rfl ?_
  have hr := Option.some.inj hr; subst hr
  exact mV_vret rfl f6_copyFrom_67 hQ
theorem c6_copyFrom_66_24 (X : Nat × (Nat → Int32)) (I : mI) (s : Nat) {res : mI} (hr : r6_copyFrom_66_24 I = some res) : mC X m6_copyFrom 1 0 0 [.ref 66, .ref 24] NN KK I (PP s) (mRet none NN KK res (PP s)) :=
  mC_of (L0 := [.ref 66, .ref 24]) rfl (Nat.le_of_ble_eq_true rfl) (w6_copyFrom_66_24 X I s _ hr (mRet_ok _ _ _ _ _))
def r1_copyFrom_69_27 (I : mI) : Option (mI) := (mCpO I 28 16 70 16 0 0 16).bind fun z0 => (mCpO z0 29 8 71 8 0 0 8).bind fun z1 => (mCpO z1 30 9 72 9 0 0 9).bind fun z2 => (mCpO z2 31 9 73 9 0 0 9).bind fun z3 => (mCpO z3 32 9 74 9 0 0 9).bind fun z4 => some (mW (mW z4 69 5 (z4 27 5)) 69 6 (z4 27 6))
set_option maxHeartbeats 4000000 in
set_option maxRecDepth 100000 in
theorem w1_copyFrom_69_27 (X : Nat × (Nat → Int32)) (I : mI) (s : Nat) (Q : mQ) {res : mI} (hr : r1_copyFrom_69_27 I = some res) (hQ : Q none NN KK res (PP s)) : mV X m1_copyFrom 1 0 0 0 [.ref 69, .ref 27] [] NN KK I (PP s) Q := by
  unfold r1_copyFrom_69_27 at hr
  refine mV_aload f1_copyFrom_0 rfl ?_
  refine mV_getP f1_copyFrom_1 (by decide) kk_27 rfl (pp_27_0 _) ?_
  refine mV_push f1_copyFrom_4 ?_
  refine mV_aload f1_copyFrom_5 rfl ?_
  refine mV_getP f1_copyFrom_6 (by decide) kk_69 rfl (pp_69_0 _) ?_
  refine mV_push f1_copyFrom_9 ?_
  refine mV_push f1_copyFrom_10 ?_
  obtain ⟨z0, hz0, hr⟩ := mBind hr
  refine mV_cpO f1_copyFrom_12 (by decide) (by decide) kk_28 kk_70 hz0 (Nat.le_of_ble_eq_true rfl) ?_
  refine mV_aload f1_copyFrom_15 rfl ?_
  refine mV_getP f1_copyFrom_16 (by decide) kk_27 rfl (pp_27_1 _) ?_
  refine mV_push f1_copyFrom_19 ?_
  refine mV_aload f1_copyFrom_20 rfl ?_
  refine mV_getP f1_copyFrom_21 (by decide) kk_69 rfl (pp_69_1 _) ?_
  refine mV_push f1_copyFrom_24 ?_
  refine mV_push f1_copyFrom_25 ?_
  obtain ⟨z1, hz1, hr⟩ := mBind hr
  refine mV_cpO f1_copyFrom_27 (by decide) (by decide) kk_29 kk_71 hz1 (Nat.le_of_ble_eq_true rfl) ?_
  refine mV_aload f1_copyFrom_30 rfl ?_
  refine mV_getP f1_copyFrom_31 (by decide) kk_27 rfl (pp_27_2 _) ?_
  refine mV_push f1_copyFrom_34 ?_
  refine mV_aload f1_copyFrom_35 rfl ?_
  refine mV_getP f1_copyFrom_36 (by decide) kk_69 rfl (pp_69_2 _) ?_
  refine mV_push f1_copyFrom_39 ?_
  refine mV_push f1_copyFrom_40 ?_
  obtain ⟨z2, hz2, hr⟩ := mBind hr
  refine mV_cpO f1_copyFrom_42 (by decide) (by decide) kk_30 kk_72 hz2 (Nat.le_of_ble_eq_true rfl) ?_
  refine mV_aload f1_copyFrom_45 rfl ?_
  refine mV_getP f1_copyFrom_46 (by decide) kk_27 rfl (pp_27_3 _) ?_
  refine mV_push f1_copyFrom_49 ?_
  refine mV_aload f1_copyFrom_50 rfl ?_
  refine mV_getP f1_copyFrom_51 (by decide) kk_69 rfl (pp_69_3 _) ?_
  refine mV_push f1_copyFrom_54 ?_
  refine mV_push f1_copyFrom_55 ?_
  obtain ⟨z3, hz3, hr⟩ := mBind hr
  refine mV_cpO f1_copyFrom_57 (by decide) (by decide) kk_31 kk_73 hz3 (Nat.le_of_ble_eq_true rfl) ?_
  refine mV_aload f1_copyFrom_60 rfl ?_
  refine mV_getP f1_copyFrom_61 (by decide) kk_27 rfl (pp_27_4 _) ?_
  refine mV_push f1_copyFrom_64 ?_
  refine mV_aload f1_copyFrom_65 rfl ?_
  refine mV_getP f1_copyFrom_66 (by decide) kk_69 rfl (pp_69_4 _) ?_
  refine mV_push f1_copyFrom_69 ?_
  refine mV_push f1_copyFrom_70 ?_
  obtain ⟨z4, hz4, hr⟩ := mBind hr
  refine mV_cpO f1_copyFrom_72 (by decide) (by decide) kk_32 kk_74 hz4 (Nat.le_of_ble_eq_true rfl) ?_
  refine mV_aload f1_copyFrom_75 rfl ?_
  refine mV_aload f1_copyFrom_76 rfl ?_
  refine mV_gI (z4 27 5) f1_copyFrom_77 (by decide) kk_27 rfl rfl ?_
  refine mV_putI f1_copyFrom_80 (by decide) kk_69 rfl rfl ?_
  refine mV_aload f1_copyFrom_83 rfl ?_
  refine mV_aload f1_copyFrom_84 rfl ?_
  refine mV_gI (z4 27 6) f1_copyFrom_85 (by decide) kk_27 rfl rfl ?_
  refine mV_putI f1_copyFrom_88 (by decide) kk_69 rfl rfl ?_
  have hr := Option.some.inj hr; subst hr
  exact mV_vret rfl f1_copyFrom_91 hQ
theorem c1_copyFrom_69_27 (X : Nat × (Nat → Int32)) (I : mI) (s : Nat) {res : mI} (hr : r1_copyFrom_69_27 I = some res) : mC X m1_copyFrom 1 0 0 [.ref 69, .ref 27] NN KK I (PP s) (mRet none NN KK res (PP s)) :=
  mC_of (L0 := [.ref 69, .ref 27]) rfl (Nat.le_of_ble_eq_true rfl) (w1_copyFrom_69_27 X I s _ hr (mRet_ok _ _ _ _ _))
def r8_copyFrom_44_2 (I : mI) : Option (mI) := (r7_copyFrom I 45 3).bind fun z0 => (r0_copyFrom_50_8 z0).bind fun z1 => (r6_copyFrom_57_15 z1).bind fun z2 => (r6_copyFrom_60_18 z2).bind fun z3 => (r6_copyFrom_63_21 z3).bind fun z4 => (r6_copyFrom_66_24 z4).bind fun z5 => (r1_copyFrom_69_27 z5).bind fun z6 => (mCpO z6 34 600 76 600 0 0 600).bind fun z7 => some z7
set_option maxHeartbeats 4000000 in
set_option maxRecDepth 100000 in
theorem w8_copyFrom_44_2 (X : Nat × (Nat → Int32)) (I : mI) (s : Nat) (Q : mQ) {res : mI} (hr : r8_copyFrom_44_2 I = some res) (hQ : Q none NN KK res (PP s)) : mV X m8_copyFrom 2 0 0 0 [.ref 44, .ref 2] [] NN KK I (PP s) Q := by
  unfold r8_copyFrom_44_2 at hr
  refine mV_aload f8_copyFrom_0 rfl ?_
  refine mV_getP f8_copyFrom_1 (by decide) kk_44 rfl (pp_44_0 _) ?_
  refine mV_aload f8_copyFrom_4 rfl ?_
  refine mV_getP f8_copyFrom_5 (by decide) kk_2 rfl (pp_2_0 _) ?_
  obtain ⟨z0, hz0, hr⟩ := mBind hr
  refine mV_cV f8_copyFrom_8 tg_m7_copyFrom mCls7 (by decide) kk_45 (mC_deep (c7_copyFrom X I s 45 3 mStg_45 mStg_3 hz0) (by decide)) rfl rfl (Nat.le_of_ble_eq_true rfl) ?_
  refine mV_aload f8_copyFrom_11 rfl ?_
  refine mV_getP f8_copyFrom_12 (by decide) kk_44 rfl (pp_44_1 _) ?_
  refine mV_aload f8_copyFrom_15 rfl ?_
  refine mV_getP f8_copyFrom_16 (by decide) kk_2 rfl (pp_2_1 _) ?_
  obtain ⟨z1, hz1, hr⟩ := mBind hr
  refine mV_cV f8_copyFrom_19 tg_m0_copyFrom mCls0 (by decide) kk_50 (mC_deep (c0_copyFrom_50_8 X z0 s hz1) (by decide)) rfl rfl (Nat.le_of_ble_eq_true rfl) ?_
  refine mV_aload f8_copyFrom_22 rfl ?_
  refine mV_getP f8_copyFrom_23 (by decide) kk_44 rfl (pp_44_2 _) ?_
  refine mV_aload f8_copyFrom_26 rfl ?_
  refine mV_getP f8_copyFrom_27 (by decide) kk_2 rfl (pp_2_2 _) ?_
  obtain ⟨z2, hz2, hr⟩ := mBind hr
  refine mV_cV f8_copyFrom_30 tg_m6_copyFrom mCls6 (by decide) kk_57 (mC_deep (c6_copyFrom_57_15 X z1 s hz2) (by decide)) rfl rfl (Nat.le_of_ble_eq_true rfl) ?_
  refine mV_aload f8_copyFrom_33 rfl ?_
  refine mV_getP f8_copyFrom_34 (by decide) kk_44 rfl (pp_44_3 _) ?_
  refine mV_aload f8_copyFrom_37 rfl ?_
  refine mV_getP f8_copyFrom_38 (by decide) kk_2 rfl (pp_2_3 _) ?_
  obtain ⟨z3, hz3, hr⟩ := mBind hr
  refine mV_cV f8_copyFrom_41 tg_m6_copyFrom mCls6 (by decide) kk_60 (mC_deep (c6_copyFrom_60_18 X z2 s hz3) (by decide)) rfl rfl (Nat.le_of_ble_eq_true rfl) ?_
  refine mV_aload f8_copyFrom_44 rfl ?_
  refine mV_getP f8_copyFrom_45 (by decide) kk_44 rfl (pp_44_4 _) ?_
  refine mV_aload f8_copyFrom_48 rfl ?_
  refine mV_getP f8_copyFrom_49 (by decide) kk_2 rfl (pp_2_4 _) ?_
  obtain ⟨z4, hz4, hr⟩ := mBind hr
  refine mV_cV f8_copyFrom_52 tg_m6_copyFrom mCls6 (by decide) kk_63 (mC_deep (c6_copyFrom_63_21 X z3 s hz4) (by decide)) rfl rfl (Nat.le_of_ble_eq_true rfl) ?_
  refine mV_aload f8_copyFrom_55 rfl ?_
  refine mV_getP f8_copyFrom_56 (by decide) kk_44 rfl (pp_44_5 _) ?_
  refine mV_aload f8_copyFrom_59 rfl ?_
  refine mV_getP f8_copyFrom_60 (by decide) kk_2 rfl (pp_2_5 _) ?_
  obtain ⟨z5, hz5, hr⟩ := mBind hr
  refine mV_cV f8_copyFrom_63 tg_m6_copyFrom mCls6 (by decide) kk_66 (mC_deep (c6_copyFrom_66_24 X z4 s hz5) (by decide)) rfl rfl (Nat.le_of_ble_eq_true rfl) ?_
  refine mV_aload f8_copyFrom_66 rfl ?_
  refine mV_getP f8_copyFrom_67 (by decide) kk_44 rfl (pp_44_6 _) ?_
  refine mV_aload f8_copyFrom_70 rfl ?_
  refine mV_getP f8_copyFrom_71 (by decide) kk_2 rfl (pp_2_6 _) ?_
  obtain ⟨z6, hz6, hr⟩ := mBind hr
  refine mV_cV f8_copyFrom_74 tg_m1_copyFrom mCls1 (by decide) kk_69 (mC_deep (c1_copyFrom_69_27 X z5 s hz6) (by decide)) rfl rfl (Nat.le_of_ble_eq_true rfl) ?_
  refine mV_aload f8_copyFrom_77 rfl ?_
  refine mV_getP f8_copyFrom_78 (by decide) kk_2 rfl (pp_2_7 _) ?_
  refine mV_push f8_copyFrom_81 ?_
  refine mV_aload f8_copyFrom_82 rfl ?_
  refine mV_getP f8_copyFrom_83 (by decide) kk_44 rfl (pp_44_7 _) ?_
  refine mV_push f8_copyFrom_86 ?_
  refine mV_aload f8_copyFrom_87 rfl ?_
  refine mV_getP f8_copyFrom_88 (by decide) kk_44 rfl (pp_44_7 _) ?_
  refine mV_alen f8_copyFrom_91 (by decide) kk_76 ?_
  refine mV_as 600 (by decide) ?_
  obtain ⟨z7, hz7, hr⟩ := mBind hr
  refine mV_cpO f8_copyFrom_92 (by decide) (by decide) kk_34 kk_76 hz7 (Nat.le_of_ble_eq_true rfl) ?_
  have hr := Option.some.inj hr; subst hr
  exact mV_vret rfl f8_copyFrom_95 hQ
theorem c8_copyFrom_44_2 (X : Nat × (Nat → Int32)) (I : mI) (s : Nat) {res : mI} (hr : r8_copyFrom_44_2 I = some res) : mC X m8_copyFrom 2 0 0 [.ref 44, .ref 2] NN KK I (PP s) (mRet none NN KK res (PP s)) :=
  mC_of (L0 := [.ref 44, .ref 2]) rfl (Nat.le_of_ble_eq_true rfl) (w8_copyFrom_44_2 X I s _ hr (mRet_ok _ _ _ _ _))
def r0_copyFrom_8_50 (I : mI) : Option (mI) := (mCpO I 51 12 9 12 0 0 12).bind fun z0 => (mCpO z0 52 12 10 12 0 0 12).bind fun z1 => (mCpO z1 53 12 11 12 0 0 12).bind fun z2 => (mCpO z2 54 6 12 6 0 0 6).bind fun z3 => (mCpO z3 55 6 13 6 0 0 6).bind fun z4 => some (mW (mW z4 8 6 (z4 50 6)) 8 7 (z4 50 7))
set_option maxHeartbeats 4000000 in
set_option maxRecDepth 100000 in
theorem w0_copyFrom_8_50 (X : Nat × (Nat → Int32)) (I : mI) (s : Nat) (Q : mQ) {res : mI} (hr : r0_copyFrom_8_50 I = some res) (hQ : Q none NN KK res (PP s)) : mV X m0_copyFrom 1 0 0 0 [.ref 8, .ref 50] [] NN KK I (PP s) Q := by
  unfold r0_copyFrom_8_50 at hr
  refine mV_aload f0_copyFrom_0 rfl ?_
  refine mV_getP f0_copyFrom_1 (by decide) kk_50 rfl (pp_50_0 _) ?_
  refine mV_push f0_copyFrom_4 ?_
  refine mV_aload f0_copyFrom_5 rfl ?_
  refine mV_getP f0_copyFrom_6 (by decide) kk_8 rfl (pp_8_0 _) ?_
  refine mV_push f0_copyFrom_9 ?_
  refine mV_push f0_copyFrom_10 ?_
  obtain ⟨z0, hz0, hr⟩ := mBind hr
  refine mV_cpO f0_copyFrom_12 (by decide) (by decide) kk_51 kk_9 hz0 (Nat.le_of_ble_eq_true rfl) ?_
  refine mV_aload f0_copyFrom_15 rfl ?_
  refine mV_getP f0_copyFrom_16 (by decide) kk_50 rfl (pp_50_1 _) ?_
  refine mV_push f0_copyFrom_19 ?_
  refine mV_aload f0_copyFrom_20 rfl ?_
  refine mV_getP f0_copyFrom_21 (by decide) kk_8 rfl (pp_8_1 _) ?_
  refine mV_push f0_copyFrom_24 ?_
  refine mV_push f0_copyFrom_25 ?_
  obtain ⟨z1, hz1, hr⟩ := mBind hr
  refine mV_cpO f0_copyFrom_27 (by decide) (by decide) kk_52 kk_10 hz1 (Nat.le_of_ble_eq_true rfl) ?_
  refine mV_aload f0_copyFrom_30 rfl ?_
  refine mV_getP f0_copyFrom_31 (by decide) kk_50 rfl (pp_50_2 _) ?_
  refine mV_push f0_copyFrom_34 ?_
  refine mV_aload f0_copyFrom_35 rfl ?_
  refine mV_getP f0_copyFrom_36 (by decide) kk_8 rfl (pp_8_2 _) ?_
  refine mV_push f0_copyFrom_39 ?_
  refine mV_push f0_copyFrom_40 ?_
  obtain ⟨z2, hz2, hr⟩ := mBind hr
  refine mV_cpO f0_copyFrom_42 (by decide) (by decide) kk_53 kk_11 hz2 (Nat.le_of_ble_eq_true rfl) ?_
  refine mV_aload f0_copyFrom_45 rfl ?_
  refine mV_getP f0_copyFrom_46 (by decide) kk_50 rfl (pp_50_3 _) ?_
  refine mV_push f0_copyFrom_49 ?_
  refine mV_aload f0_copyFrom_50 rfl ?_
  refine mV_getP f0_copyFrom_51 (by decide) kk_8 rfl (pp_8_3 _) ?_
  refine mV_push f0_copyFrom_54 ?_
  refine mV_push f0_copyFrom_55 ?_
  obtain ⟨z3, hz3, hr⟩ := mBind hr
  refine mV_cpO f0_copyFrom_57 (by decide) (by decide) kk_54 kk_12 hz3 (Nat.le_of_ble_eq_true rfl) ?_
  refine mV_aload f0_copyFrom_60 rfl ?_
  refine mV_getP f0_copyFrom_61 (by decide) kk_50 rfl (pp_50_4 _) ?_
  refine mV_push f0_copyFrom_64 ?_
  refine mV_aload f0_copyFrom_65 rfl ?_
  refine mV_getP f0_copyFrom_66 (by decide) kk_8 rfl (pp_8_4 _) ?_
  refine mV_push f0_copyFrom_69 ?_
  refine mV_push f0_copyFrom_70 ?_
  obtain ⟨z4, hz4, hr⟩ := mBind hr
  refine mV_cpO f0_copyFrom_72 (by decide) (by decide) kk_55 kk_13 hz4 (Nat.le_of_ble_eq_true rfl) ?_
  refine mV_aload f0_copyFrom_75 rfl ?_
  refine mV_aload f0_copyFrom_76 rfl ?_
  refine mV_gI (z4 50 6) f0_copyFrom_77 (by decide) kk_50 rfl rfl ?_
  refine mV_putI f0_copyFrom_80 (by decide) kk_8 rfl rfl ?_
  refine mV_aload f0_copyFrom_83 rfl ?_
  refine mV_aload f0_copyFrom_84 rfl ?_
  refine mV_gI (z4 50 7) f0_copyFrom_85 (by decide) kk_50 rfl rfl ?_
  refine mV_putI f0_copyFrom_88 (by decide) kk_8 rfl rfl ?_
  have hr := Option.some.inj hr; subst hr
  exact mV_vret rfl f0_copyFrom_91 hQ
theorem c0_copyFrom_8_50 (X : Nat × (Nat → Int32)) (I : mI) (s : Nat) {res : mI} (hr : r0_copyFrom_8_50 I = some res) : mC X m0_copyFrom 1 0 0 [.ref 8, .ref 50] NN KK I (PP s) (mRet none NN KK res (PP s)) :=
  mC_of (L0 := [.ref 8, .ref 50]) rfl (Nat.le_of_ble_eq_true rfl) (w0_copyFrom_8_50 X I s _ hr (mRet_ok _ _ _ _ _))
def r6_copyFrom_15_57 (I : mI) : Option (mI) := (mCpO I 58 144 16 144 0 0 144).bind fun z0 => (mCpO (mW z0 15 3 (mMin (mMin (z0 57 3) 400) 400)) 59 400 17 400 0 0 (mMin (mMin (z0 57 3) 400) 400)).bind fun z1 => some (mW z1 15 2 (z1 57 2))
set_option maxHeartbeats 4000000 in
set_option maxRecDepth 100000 in
theorem w6_copyFrom_15_57 (X : Nat × (Nat → Int32)) (I : mI) (s : Nat) (Q : mQ) {res : mI} (hr : r6_copyFrom_15_57 I = some res) (hQ : Q none NN KK res (PP s)) : mV X m6_copyFrom 1 0 0 0 [.ref 15, .ref 57] [] NN KK I (PP s) Q := by
  unfold r6_copyFrom_15_57 at hr
  refine mV_aload f6_copyFrom_0 rfl ?_
  refine mV_getP f6_copyFrom_1 (by decide) kk_57 rfl (pp_57_0 _) ?_
  refine mV_push f6_copyFrom_4 ?_
  refine mV_aload f6_copyFrom_5 rfl ?_
  refine mV_getP f6_copyFrom_6 (by decide) kk_15 rfl (pp_15_0 _) ?_
  refine mV_push f6_copyFrom_9 ?_
  refine mV_aload f6_copyFrom_10 rfl ?_
  refine mV_getP f6_copyFrom_11 (by decide) kk_15 rfl (pp_15_0 _) ?_
  refine mV_alen f6_copyFrom_14 (by decide) kk_16 ?_
  refine mV_as 144 (by decide) ?_
  obtain ⟨z0, hz0, hr⟩ := mBind hr
  refine mV_cpO f6_copyFrom_15 (by decide) (by decide) kk_58 kk_16 hz0 (Nat.le_of_ble_eq_true rfl) ?_
  refine mV_aload f6_copyFrom_18 rfl ?_
  refine mV_aload f6_copyFrom_19 rfl ?_
  refine mV_gI (z0 57 3) f6_copyFrom_20 (by decide) kk_57 rfl rfl ?_
  refine mV_aload f6_copyFrom_23 rfl ?_
  refine mV_getP f6_copyFrom_24 (by decide) kk_57 rfl (pp_57_1 _) ?_
  refine mV_alen f6_copyFrom_27 (by decide) kk_59 ?_
  refine mV_as 400 (by decide) ?_
  refine mV_minC fm6_copyFrom_28 (Nat.le_of_ble_eq_true rfl) ?_
  refine mV_aload f6_copyFrom_31 rfl ?_
  refine mV_getP f6_copyFrom_32 (by decide) kk_15 rfl (pp_15_1 _) ?_
  refine mV_alen f6_copyFrom_35 (by decide) kk_17 ?_
  refine mV_as 400 (by decide) ?_
  refine mV_minC fm6_copyFrom_36 (Nat.le_of_ble_eq_true rfl) ?_
  refine mV_putI f6_copyFrom_39 (by decide) kk_15 rfl rfl ?_
  refine mV_aload f6_copyFrom_42 rfl ?_
  refine mV_getP f6_copyFrom_43 (by decide) kk_57 rfl (pp_57_1 _) ?_
  refine mV_push f6_copyFrom_46 ?_
  refine mV_aload f6_copyFrom_47 rfl ?_
  refine mV_getP f6_copyFrom_48 (by decide) kk_15 rfl (pp_15_1 _) ?_
  refine mV_push f6_copyFrom_51 ?_
  refine mV_aload f6_copyFrom_52 rfl ?_
  refine mV_gI (mMin (mMin (z0 57 3) 400) 400) f6_copyFrom_53 (by decide) kk_15 rfl rfl ?_
  obtain ⟨z1, hz1, hr⟩ := mBind hr
  refine mV_cpO f6_copyFrom_56 (by decide) (by decide) kk_59 kk_17 hz1 (Nat.le_of_ble_eq_true rfl) ?_
  refine mV_aload f6_copyFrom_59 rfl ?_
  refine mV_aload f6_copyFrom_60 rfl ?_
  refine mV_gI (z1 57 2) f6_copyFrom_61 (by decide) kk_57 rfl rfl ?_
  refine mV_putI f6_copyFrom_64 (by decide) kk_15 rfl rfl ?_
  have hr := Option.some.inj hr; subst hr
  exact mV_vret rfl f6_copyFrom_67 hQ
theorem c6_copyFrom_15_57 (X : Nat × (Nat → Int32)) (I : mI) (s : Nat) {res : mI} (hr : r6_copyFrom_15_57 I = some res) : mC X m6_copyFrom 1 0 0 [.ref 15, .ref 57] NN KK I (PP s) (mRet none NN KK res (PP s)) :=
  mC_of (L0 := [.ref 15, .ref 57]) rfl (Nat.le_of_ble_eq_true rfl) (w6_copyFrom_15_57 X I s _ hr (mRet_ok _ _ _ _ _))
def r6_copyFrom_18_60 (I : mI) : Option (mI) := (mCpO I 61 144 19 144 0 0 144).bind fun z0 => (mCpO (mW z0 18 3 (mMin (mMin (z0 60 3) 0) 0)) 62 0 20 0 0 0 (mMin (mMin (z0 60 3) 0) 0)).bind fun z1 => some (mW z1 18 2 (z1 60 2))
set_option maxHeartbeats 4000000 in
set_option maxRecDepth 100000 in
theorem w6_copyFrom_18_60 (X : Nat × (Nat → Int32)) (I : mI) (s : Nat) (Q : mQ) {res : mI} (hr : r6_copyFrom_18_60 I = some res) (hQ : Q none NN KK res (PP s)) : mV X m6_copyFrom 1 0 0 0 [.ref 18, .ref 60] [] NN KK I (PP s) Q := by
  unfold r6_copyFrom_18_60 at hr
  refine mV_aload f6_copyFrom_0 rfl ?_
  refine mV_getP f6_copyFrom_1 (by decide) kk_60 rfl (pp_60_0 _) ?_
  refine mV_push f6_copyFrom_4 ?_
  refine mV_aload f6_copyFrom_5 rfl ?_
  refine mV_getP f6_copyFrom_6 (by decide) kk_18 rfl (pp_18_0 _) ?_
  refine mV_push f6_copyFrom_9 ?_
  refine mV_aload f6_copyFrom_10 rfl ?_
  refine mV_getP f6_copyFrom_11 (by decide) kk_18 rfl (pp_18_0 _) ?_
  refine mV_alen f6_copyFrom_14 (by decide) kk_19 ?_
  refine mV_as 144 (by decide) ?_
  obtain ⟨z0, hz0, hr⟩ := mBind hr
  refine mV_cpO f6_copyFrom_15 (by decide) (by decide) kk_61 kk_19 hz0 (Nat.le_of_ble_eq_true rfl) ?_
  refine mV_aload f6_copyFrom_18 rfl ?_
  refine mV_aload f6_copyFrom_19 rfl ?_
  refine mV_gI (z0 60 3) f6_copyFrom_20 (by decide) kk_60 rfl rfl ?_
  refine mV_aload f6_copyFrom_23 rfl ?_
  refine mV_getP f6_copyFrom_24 (by decide) kk_60 rfl (pp_60_1 _) ?_
  refine mV_alen f6_copyFrom_27 (by decide) kk_62 ?_
  refine mV_as 0 (by decide) ?_
  refine mV_minC fm6_copyFrom_28 (Nat.le_of_ble_eq_true rfl) ?_
  refine mV_aload f6_copyFrom_31 rfl ?_
  refine mV_getP f6_copyFrom_32 (by decide) kk_18 rfl (pp_18_1 _) ?_
  refine mV_alen f6_copyFrom_35 (by decide) kk_20 ?_
  refine mV_as 0 (by decide) ?_
  refine mV_minC fm6_copyFrom_36 (Nat.le_of_ble_eq_true rfl) ?_
  refine mV_putI f6_copyFrom_39 (by decide) kk_18 rfl rfl ?_
  refine mV_aload f6_copyFrom_42 rfl ?_
  refine mV_getP f6_copyFrom_43 (by decide) kk_60 rfl (pp_60_1 _) ?_
  refine mV_push f6_copyFrom_46 ?_
  refine mV_aload f6_copyFrom_47 rfl ?_
  refine mV_getP f6_copyFrom_48 (by decide) kk_18 rfl (pp_18_1 _) ?_
  refine mV_push f6_copyFrom_51 ?_
  refine mV_aload f6_copyFrom_52 rfl ?_
  refine mV_gI (mMin (mMin (z0 60 3) 0) 0) f6_copyFrom_53 (by decide) kk_18 rfl rfl ?_
  obtain ⟨z1, hz1, hr⟩ := mBind hr
  refine mV_cpO f6_copyFrom_56 (by decide) (by decide) kk_62 kk_20 hz1 (Nat.le_of_ble_eq_true rfl) ?_
  refine mV_aload f6_copyFrom_59 rfl ?_
  refine mV_aload f6_copyFrom_60 rfl ?_
  refine mV_gI (z1 60 2) f6_copyFrom_61 (by decide) kk_60 rfl rfl ?_
  refine mV_putI f6_copyFrom_64 (by decide) kk_18 rfl rfl ?_
  have hr := Option.some.inj hr; subst hr
  exact mV_vret rfl f6_copyFrom_67 hQ
theorem c6_copyFrom_18_60 (X : Nat × (Nat → Int32)) (I : mI) (s : Nat) {res : mI} (hr : r6_copyFrom_18_60 I = some res) : mC X m6_copyFrom 1 0 0 [.ref 18, .ref 60] NN KK I (PP s) (mRet none NN KK res (PP s)) :=
  mC_of (L0 := [.ref 18, .ref 60]) rfl (Nat.le_of_ble_eq_true rfl) (w6_copyFrom_18_60 X I s _ hr (mRet_ok _ _ _ _ _))
def r6_copyFrom_21_63 (I : mI) : Option (mI) := (mCpO I 64 144 22 144 0 0 144).bind fun z0 => (mCpO (mW z0 21 3 (mMin (mMin (z0 63 3) 0) 0)) 65 0 23 0 0 0 (mMin (mMin (z0 63 3) 0) 0)).bind fun z1 => some (mW z1 21 2 (z1 63 2))
set_option maxHeartbeats 4000000 in
set_option maxRecDepth 100000 in
theorem w6_copyFrom_21_63 (X : Nat × (Nat → Int32)) (I : mI) (s : Nat) (Q : mQ) {res : mI} (hr : r6_copyFrom_21_63 I = some res) (hQ : Q none NN KK res (PP s)) : mV X m6_copyFrom 1 0 0 0 [.ref 21, .ref 63] [] NN KK I (PP s) Q := by
  unfold r6_copyFrom_21_63 at hr
  refine mV_aload f6_copyFrom_0 rfl ?_
  refine mV_getP f6_copyFrom_1 (by decide) kk_63 rfl (pp_63_0 _) ?_
  refine mV_push f6_copyFrom_4 ?_
  refine mV_aload f6_copyFrom_5 rfl ?_
  refine mV_getP f6_copyFrom_6 (by decide) kk_21 rfl (pp_21_0 _) ?_
  refine mV_push f6_copyFrom_9 ?_
  refine mV_aload f6_copyFrom_10 rfl ?_
  refine mV_getP f6_copyFrom_11 (by decide) kk_21 rfl (pp_21_0 _) ?_
  refine mV_alen f6_copyFrom_14 (by decide) kk_22 ?_
  refine mV_as 144 (by decide) ?_
  obtain ⟨z0, hz0, hr⟩ := mBind hr
  refine mV_cpO f6_copyFrom_15 (by decide) (by decide) kk_64 kk_22 hz0 (Nat.le_of_ble_eq_true rfl) ?_
  refine mV_aload f6_copyFrom_18 rfl ?_
  refine mV_aload f6_copyFrom_19 rfl ?_
  refine mV_gI (z0 63 3) f6_copyFrom_20 (by decide) kk_63 rfl rfl ?_
  refine mV_aload f6_copyFrom_23 rfl ?_
  refine mV_getP f6_copyFrom_24 (by decide) kk_63 rfl (pp_63_1 _) ?_
  refine mV_alen f6_copyFrom_27 (by decide) kk_65 ?_
  refine mV_as 0 (by decide) ?_
  refine mV_minC fm6_copyFrom_28 (Nat.le_of_ble_eq_true rfl) ?_
  refine mV_aload f6_copyFrom_31 rfl ?_
  refine mV_getP f6_copyFrom_32 (by decide) kk_21 rfl (pp_21_1 _) ?_
  refine mV_alen f6_copyFrom_35 (by decide) kk_23 ?_
  refine mV_as 0 (by decide) ?_
  refine mV_minC fm6_copyFrom_36 (Nat.le_of_ble_eq_true rfl) ?_
  refine mV_putI f6_copyFrom_39 (by decide) kk_21 rfl rfl ?_
  refine mV_aload f6_copyFrom_42 rfl ?_
  refine mV_getP f6_copyFrom_43 (by decide) kk_63 rfl (pp_63_1 _) ?_
  refine mV_push f6_copyFrom_46 ?_
  refine mV_aload f6_copyFrom_47 rfl ?_
  refine mV_getP f6_copyFrom_48 (by decide) kk_21 rfl (pp_21_1 _) ?_
  refine mV_push f6_copyFrom_51 ?_
  refine mV_aload f6_copyFrom_52 rfl ?_
  refine mV_gI (mMin (mMin (z0 63 3) 0) 0) f6_copyFrom_53 (by decide) kk_21 rfl rfl ?_
  obtain ⟨z1, hz1, hr⟩ := mBind hr
  refine mV_cpO f6_copyFrom_56 (by decide) (by decide) kk_65 kk_23 hz1 (Nat.le_of_ble_eq_true rfl) ?_
  refine mV_aload f6_copyFrom_59 rfl ?_
  refine mV_aload f6_copyFrom_60 rfl ?_
  refine mV_gI (z1 63 2) f6_copyFrom_61 (by decide) kk_63 rfl rfl ?_
  refine mV_putI f6_copyFrom_64 (by decide) kk_21 rfl rfl ?_
  have hr := Option.some.inj hr; subst hr
  exact mV_vret rfl f6_copyFrom_67 hQ
theorem c6_copyFrom_21_63 (X : Nat × (Nat → Int32)) (I : mI) (s : Nat) {res : mI} (hr : r6_copyFrom_21_63 I = some res) : mC X m6_copyFrom 1 0 0 [.ref 21, .ref 63] NN KK I (PP s) (mRet none NN KK res (PP s)) :=
  mC_of (L0 := [.ref 21, .ref 63]) rfl (Nat.le_of_ble_eq_true rfl) (w6_copyFrom_21_63 X I s _ hr (mRet_ok _ _ _ _ _))
def r6_copyFrom_24_66 (I : mI) : Option (mI) := (mCpO I 67 144 25 144 0 0 144).bind fun z0 => (mCpO (mW z0 24 3 (mMin (mMin (z0 66 3) 0) 0)) 68 0 26 0 0 0 (mMin (mMin (z0 66 3) 0) 0)).bind fun z1 => some (mW z1 24 2 (z1 66 2))
set_option maxHeartbeats 4000000 in
set_option maxRecDepth 100000 in
theorem w6_copyFrom_24_66 (X : Nat × (Nat → Int32)) (I : mI) (s : Nat) (Q : mQ) {res : mI} (hr : r6_copyFrom_24_66 I = some res) (hQ : Q none NN KK res (PP s)) : mV X m6_copyFrom 1 0 0 0 [.ref 24, .ref 66] [] NN KK I (PP s) Q := by
  unfold r6_copyFrom_24_66 at hr
  refine mV_aload f6_copyFrom_0 rfl ?_
  refine mV_getP f6_copyFrom_1 (by decide) kk_66 rfl (pp_66_0 _) ?_
  refine mV_push f6_copyFrom_4 ?_
  refine mV_aload f6_copyFrom_5 rfl ?_
  refine mV_getP f6_copyFrom_6 (by decide) kk_24 rfl (pp_24_0 _) ?_
  refine mV_push f6_copyFrom_9 ?_
  refine mV_aload f6_copyFrom_10 rfl ?_
  refine mV_getP f6_copyFrom_11 (by decide) kk_24 rfl (pp_24_0 _) ?_
  refine mV_alen f6_copyFrom_14 (by decide) kk_25 ?_
  refine mV_as 144 (by decide) ?_
  obtain ⟨z0, hz0, hr⟩ := mBind hr
  refine mV_cpO f6_copyFrom_15 (by decide) (by decide) kk_67 kk_25 hz0 (Nat.le_of_ble_eq_true rfl) ?_
  refine mV_aload f6_copyFrom_18 rfl ?_
  refine mV_aload f6_copyFrom_19 rfl ?_
  refine mV_gI (z0 66 3) f6_copyFrom_20 (by decide) kk_66 rfl rfl ?_
  refine mV_aload f6_copyFrom_23 rfl ?_
  refine mV_getP f6_copyFrom_24 (by decide) kk_66 rfl (pp_66_1 _) ?_
  refine mV_alen f6_copyFrom_27 (by decide) kk_68 ?_
  refine mV_as 0 (by decide) ?_
  refine mV_minC fm6_copyFrom_28 (Nat.le_of_ble_eq_true rfl) ?_
  refine mV_aload f6_copyFrom_31 rfl ?_
  refine mV_getP f6_copyFrom_32 (by decide) kk_24 rfl (pp_24_1 _) ?_
  refine mV_alen f6_copyFrom_35 (by decide) kk_26 ?_
  refine mV_as 0 (by decide) ?_
  refine mV_minC fm6_copyFrom_36 (Nat.le_of_ble_eq_true rfl) ?_
  refine mV_putI f6_copyFrom_39 (by decide) kk_24 rfl rfl ?_
  refine mV_aload f6_copyFrom_42 rfl ?_
  refine mV_getP f6_copyFrom_43 (by decide) kk_66 rfl (pp_66_1 _) ?_
  refine mV_push f6_copyFrom_46 ?_
  refine mV_aload f6_copyFrom_47 rfl ?_
  refine mV_getP f6_copyFrom_48 (by decide) kk_24 rfl (pp_24_1 _) ?_
  refine mV_push f6_copyFrom_51 ?_
  refine mV_aload f6_copyFrom_52 rfl ?_
  refine mV_gI (mMin (mMin (z0 66 3) 0) 0) f6_copyFrom_53 (by decide) kk_24 rfl rfl ?_
  obtain ⟨z1, hz1, hr⟩ := mBind hr
  refine mV_cpO f6_copyFrom_56 (by decide) (by decide) kk_68 kk_26 hz1 (Nat.le_of_ble_eq_true rfl) ?_
  refine mV_aload f6_copyFrom_59 rfl ?_
  refine mV_aload f6_copyFrom_60 rfl ?_
  refine mV_gI (z1 66 2) f6_copyFrom_61 (by decide) kk_66 rfl rfl ?_
  refine mV_putI f6_copyFrom_64 (by decide) kk_24 rfl rfl ?_
  have hr := Option.some.inj hr; subst hr
  exact mV_vret rfl f6_copyFrom_67 hQ
theorem c6_copyFrom_24_66 (X : Nat × (Nat → Int32)) (I : mI) (s : Nat) {res : mI} (hr : r6_copyFrom_24_66 I = some res) : mC X m6_copyFrom 1 0 0 [.ref 24, .ref 66] NN KK I (PP s) (mRet none NN KK res (PP s)) :=
  mC_of (L0 := [.ref 24, .ref 66]) rfl (Nat.le_of_ble_eq_true rfl) (w6_copyFrom_24_66 X I s _ hr (mRet_ok _ _ _ _ _))
def r1_copyFrom_27_69 (I : mI) : Option (mI) := (mCpO I 70 16 28 16 0 0 16).bind fun z0 => (mCpO z0 71 8 29 8 0 0 8).bind fun z1 => (mCpO z1 72 9 30 9 0 0 9).bind fun z2 => (mCpO z2 73 9 31 9 0 0 9).bind fun z3 => (mCpO z3 74 9 32 9 0 0 9).bind fun z4 => some (mW (mW z4 27 5 (z4 69 5)) 27 6 (z4 69 6))
set_option maxHeartbeats 4000000 in
set_option maxRecDepth 100000 in
theorem w1_copyFrom_27_69 (X : Nat × (Nat → Int32)) (I : mI) (s : Nat) (Q : mQ) {res : mI} (hr : r1_copyFrom_27_69 I = some res) (hQ : Q none NN KK res (PP s)) : mV X m1_copyFrom 1 0 0 0 [.ref 27, .ref 69] [] NN KK I (PP s) Q := by
  unfold r1_copyFrom_27_69 at hr
  refine mV_aload f1_copyFrom_0 rfl ?_
  refine mV_getP f1_copyFrom_1 (by decide) kk_69 rfl (pp_69_0 _) ?_
  refine mV_push f1_copyFrom_4 ?_
  refine mV_aload f1_copyFrom_5 rfl ?_
  refine mV_getP f1_copyFrom_6 (by decide) kk_27 rfl (pp_27_0 _) ?_
  refine mV_push f1_copyFrom_9 ?_
  refine mV_push f1_copyFrom_10 ?_
  obtain ⟨z0, hz0, hr⟩ := mBind hr
  refine mV_cpO f1_copyFrom_12 (by decide) (by decide) kk_70 kk_28 hz0 (Nat.le_of_ble_eq_true rfl) ?_
  refine mV_aload f1_copyFrom_15 rfl ?_
  refine mV_getP f1_copyFrom_16 (by decide) kk_69 rfl (pp_69_1 _) ?_
  refine mV_push f1_copyFrom_19 ?_
  refine mV_aload f1_copyFrom_20 rfl ?_
  refine mV_getP f1_copyFrom_21 (by decide) kk_27 rfl (pp_27_1 _) ?_
  refine mV_push f1_copyFrom_24 ?_
  refine mV_push f1_copyFrom_25 ?_
  obtain ⟨z1, hz1, hr⟩ := mBind hr
  refine mV_cpO f1_copyFrom_27 (by decide) (by decide) kk_71 kk_29 hz1 (Nat.le_of_ble_eq_true rfl) ?_
  refine mV_aload f1_copyFrom_30 rfl ?_
  refine mV_getP f1_copyFrom_31 (by decide) kk_69 rfl (pp_69_2 _) ?_
  refine mV_push f1_copyFrom_34 ?_
  refine mV_aload f1_copyFrom_35 rfl ?_
  refine mV_getP f1_copyFrom_36 (by decide) kk_27 rfl (pp_27_2 _) ?_
  refine mV_push f1_copyFrom_39 ?_
  refine mV_push f1_copyFrom_40 ?_
  obtain ⟨z2, hz2, hr⟩ := mBind hr
  refine mV_cpO f1_copyFrom_42 (by decide) (by decide) kk_72 kk_30 hz2 (Nat.le_of_ble_eq_true rfl) ?_
  refine mV_aload f1_copyFrom_45 rfl ?_
  refine mV_getP f1_copyFrom_46 (by decide) kk_69 rfl (pp_69_3 _) ?_
  refine mV_push f1_copyFrom_49 ?_
  refine mV_aload f1_copyFrom_50 rfl ?_
  refine mV_getP f1_copyFrom_51 (by decide) kk_27 rfl (pp_27_3 _) ?_
  refine mV_push f1_copyFrom_54 ?_
  refine mV_push f1_copyFrom_55 ?_
  obtain ⟨z3, hz3, hr⟩ := mBind hr
  refine mV_cpO f1_copyFrom_57 (by decide) (by decide) kk_73 kk_31 hz3 (Nat.le_of_ble_eq_true rfl) ?_
  refine mV_aload f1_copyFrom_60 rfl ?_
  refine mV_getP f1_copyFrom_61 (by decide) kk_69 rfl (pp_69_4 _) ?_
  refine mV_push f1_copyFrom_64 ?_
  refine mV_aload f1_copyFrom_65 rfl ?_
  refine mV_getP f1_copyFrom_66 (by decide) kk_27 rfl (pp_27_4 _) ?_
  refine mV_push f1_copyFrom_69 ?_
  refine mV_push f1_copyFrom_70 ?_
  obtain ⟨z4, hz4, hr⟩ := mBind hr
  refine mV_cpO f1_copyFrom_72 (by decide) (by decide) kk_74 kk_32 hz4 (Nat.le_of_ble_eq_true rfl) ?_
  refine mV_aload f1_copyFrom_75 rfl ?_
  refine mV_aload f1_copyFrom_76 rfl ?_
  refine mV_gI (z4 69 5) f1_copyFrom_77 (by decide) kk_69 rfl rfl ?_
  refine mV_putI f1_copyFrom_80 (by decide) kk_27 rfl rfl ?_
  refine mV_aload f1_copyFrom_83 rfl ?_
  refine mV_aload f1_copyFrom_84 rfl ?_
  refine mV_gI (z4 69 6) f1_copyFrom_85 (by decide) kk_69 rfl rfl ?_
  refine mV_putI f1_copyFrom_88 (by decide) kk_27 rfl rfl ?_
  have hr := Option.some.inj hr; subst hr
  exact mV_vret rfl f1_copyFrom_91 hQ
theorem c1_copyFrom_27_69 (X : Nat × (Nat → Int32)) (I : mI) (s : Nat) {res : mI} (hr : r1_copyFrom_27_69 I = some res) : mC X m1_copyFrom 1 0 0 [.ref 27, .ref 69] NN KK I (PP s) (mRet none NN KK res (PP s)) :=
  mC_of (L0 := [.ref 27, .ref 69]) rfl (Nat.le_of_ble_eq_true rfl) (w1_copyFrom_27_69 X I s _ hr (mRet_ok _ _ _ _ _))
def r8_copyFrom_2_44 (I : mI) : Option (mI) := (r7_copyFrom I 3 45).bind fun z0 => (r0_copyFrom_8_50 z0).bind fun z1 => (r6_copyFrom_15_57 z1).bind fun z2 => (r6_copyFrom_18_60 z2).bind fun z3 => (r6_copyFrom_21_63 z3).bind fun z4 => (r6_copyFrom_24_66 z4).bind fun z5 => (r1_copyFrom_27_69 z5).bind fun z6 => (mCpO z6 76 600 34 600 0 0 600).bind fun z7 => some z7
set_option maxHeartbeats 4000000 in
set_option maxRecDepth 100000 in
theorem w8_copyFrom_2_44 (X : Nat × (Nat → Int32)) (I : mI) (s : Nat) (Q : mQ) {res : mI} (hr : r8_copyFrom_2_44 I = some res) (hQ : Q none NN KK res (PP s)) : mV X m8_copyFrom 2 0 0 0 [.ref 2, .ref 44] [] NN KK I (PP s) Q := by
  unfold r8_copyFrom_2_44 at hr
  refine mV_aload f8_copyFrom_0 rfl ?_
  refine mV_getP f8_copyFrom_1 (by decide) kk_2 rfl (pp_2_0 _) ?_
  refine mV_aload f8_copyFrom_4 rfl ?_
  refine mV_getP f8_copyFrom_5 (by decide) kk_44 rfl (pp_44_0 _) ?_
  obtain ⟨z0, hz0, hr⟩ := mBind hr
  refine mV_cV f8_copyFrom_8 tg_m7_copyFrom mCls7 (by decide) kk_3 (mC_deep (c7_copyFrom X I s 3 45 mStg_3 mStg_45 hz0) (by decide)) rfl rfl (Nat.le_of_ble_eq_true rfl) ?_
  refine mV_aload f8_copyFrom_11 rfl ?_
  refine mV_getP f8_copyFrom_12 (by decide) kk_2 rfl (pp_2_1 _) ?_
  refine mV_aload f8_copyFrom_15 rfl ?_
  refine mV_getP f8_copyFrom_16 (by decide) kk_44 rfl (pp_44_1 _) ?_
  obtain ⟨z1, hz1, hr⟩ := mBind hr
  refine mV_cV f8_copyFrom_19 tg_m0_copyFrom mCls0 (by decide) kk_8 (mC_deep (c0_copyFrom_8_50 X z0 s hz1) (by decide)) rfl rfl (Nat.le_of_ble_eq_true rfl) ?_
  refine mV_aload f8_copyFrom_22 rfl ?_
  refine mV_getP f8_copyFrom_23 (by decide) kk_2 rfl (pp_2_2 _) ?_
  refine mV_aload f8_copyFrom_26 rfl ?_
  refine mV_getP f8_copyFrom_27 (by decide) kk_44 rfl (pp_44_2 _) ?_
  obtain ⟨z2, hz2, hr⟩ := mBind hr
  refine mV_cV f8_copyFrom_30 tg_m6_copyFrom mCls6 (by decide) kk_15 (mC_deep (c6_copyFrom_15_57 X z1 s hz2) (by decide)) rfl rfl (Nat.le_of_ble_eq_true rfl) ?_
  refine mV_aload f8_copyFrom_33 rfl ?_
  refine mV_getP f8_copyFrom_34 (by decide) kk_2 rfl (pp_2_3 _) ?_
  refine mV_aload f8_copyFrom_37 rfl ?_
  refine mV_getP f8_copyFrom_38 (by decide) kk_44 rfl (pp_44_3 _) ?_
  obtain ⟨z3, hz3, hr⟩ := mBind hr
  refine mV_cV f8_copyFrom_41 tg_m6_copyFrom mCls6 (by decide) kk_18 (mC_deep (c6_copyFrom_18_60 X z2 s hz3) (by decide)) rfl rfl (Nat.le_of_ble_eq_true rfl) ?_
  refine mV_aload f8_copyFrom_44 rfl ?_
  refine mV_getP f8_copyFrom_45 (by decide) kk_2 rfl (pp_2_4 _) ?_
  refine mV_aload f8_copyFrom_48 rfl ?_
  refine mV_getP f8_copyFrom_49 (by decide) kk_44 rfl (pp_44_4 _) ?_
  obtain ⟨z4, hz4, hr⟩ := mBind hr
  refine mV_cV f8_copyFrom_52 tg_m6_copyFrom mCls6 (by decide) kk_21 (mC_deep (c6_copyFrom_21_63 X z3 s hz4) (by decide)) rfl rfl (Nat.le_of_ble_eq_true rfl) ?_
  refine mV_aload f8_copyFrom_55 rfl ?_
  refine mV_getP f8_copyFrom_56 (by decide) kk_2 rfl (pp_2_5 _) ?_
  refine mV_aload f8_copyFrom_59 rfl ?_
  refine mV_getP f8_copyFrom_60 (by decide) kk_44 rfl (pp_44_5 _) ?_
  obtain ⟨z5, hz5, hr⟩ := mBind hr
  refine mV_cV f8_copyFrom_63 tg_m6_copyFrom mCls6 (by decide) kk_24 (mC_deep (c6_copyFrom_24_66 X z4 s hz5) (by decide)) rfl rfl (Nat.le_of_ble_eq_true rfl) ?_
  refine mV_aload f8_copyFrom_66 rfl ?_
  refine mV_getP f8_copyFrom_67 (by decide) kk_2 rfl (pp_2_6 _) ?_
  refine mV_aload f8_copyFrom_70 rfl ?_
  refine mV_getP f8_copyFrom_71 (by decide) kk_44 rfl (pp_44_6 _) ?_
  obtain ⟨z6, hz6, hr⟩ := mBind hr
  refine mV_cV f8_copyFrom_74 tg_m1_copyFrom mCls1 (by decide) kk_27 (mC_deep (c1_copyFrom_27_69 X z5 s hz6) (by decide)) rfl rfl (Nat.le_of_ble_eq_true rfl) ?_
  refine mV_aload f8_copyFrom_77 rfl ?_
  refine mV_getP f8_copyFrom_78 (by decide) kk_44 rfl (pp_44_7 _) ?_
  refine mV_push f8_copyFrom_81 ?_
  refine mV_aload f8_copyFrom_82 rfl ?_
  refine mV_getP f8_copyFrom_83 (by decide) kk_2 rfl (pp_2_7 _) ?_
  refine mV_push f8_copyFrom_86 ?_
  refine mV_aload f8_copyFrom_87 rfl ?_
  refine mV_getP f8_copyFrom_88 (by decide) kk_2 rfl (pp_2_7 _) ?_
  refine mV_alen f8_copyFrom_91 (by decide) kk_34 ?_
  refine mV_as 600 (by decide) ?_
  obtain ⟨z7, hz7, hr⟩ := mBind hr
  refine mV_cpO f8_copyFrom_92 (by decide) (by decide) kk_76 kk_34 hz7 (Nat.le_of_ble_eq_true rfl) ?_
  have hr := Option.some.inj hr; subst hr
  exact mV_vret rfl f8_copyFrom_95 hQ
theorem c8_copyFrom_2_44 (X : Nat × (Nat → Int32)) (I : mI) (s : Nat) {res : mI} (hr : r8_copyFrom_2_44 I = some res) : mC X m8_copyFrom 2 0 0 [.ref 2, .ref 44] NN KK I (PP s) (mRet none NN KK res (PP s)) :=
  mC_of (L0 := [.ref 2, .ref 44]) rfl (Nat.le_of_ble_eq_true rfl) (w8_copyFrom_2_44 X I s _ hr (mRet_ok _ _ _ _ _))
def r9_image (I : mI) (x0 : Int32) : Option (Int32 × mI) := if (x0 : Int32) = (0 : Int32) then if (I 0 3 : Int32) = (0 : Int32) then some (0, I) else (r8_copyFrom_2_44 I).bind fun z0 => (r3_forget z0).bind fun z1 => some (1, z1) else (r8_copyFrom_44_2 I).bind fun z2 => some (1, (mW z2 0 3 1))
set_option maxHeartbeats 4000000 in
set_option maxRecDepth 100000 in
theorem w9_image (X : Nat × (Nat → Int32)) (I : mI) (s : Nat) (x0 : Int32) (Q : mQ) {res : Int32 × mI} (hr : r9_image I x0 = some res) (hQ : Q (some (.int res.1)) NN KK res.2 (PP s)) : mV X m9_image 3 0 0 0 [.ref 0, .int x0] [] NN KK I (PP s) Q := by
  unfold r9_image at hr
  refine mV_iload f9_image_0 rfl ?_
  refine mV_if_eq f9_image_1 (fun h0 => ?_) (fun h0 => ?_)
  · rw [if_pos h0] at hr
    refine mV_aload f9_image_22 rfl ?_
    refine mV_gI (I 0 3) f9_image_23 (by decide) kk_0 rfl rfl ?_
    refine mV_if_ne f9_image_26 (fun h1 => ?_) (fun h1 => ?_)
    · rw [if_neg h1] at hr
      refine mV_aload f9_image_31 rfl ?_
      refine mV_getP f9_image_32 (by decide) kk_0 rfl (pp_0_1 _) ?_
      refine mV_aload f9_image_35 rfl ?_
      refine mV_getP f9_image_36 (by decide) kk_0 rfl (pp_0_2 _) ?_
      obtain ⟨z0, hz0, hr⟩ := mBind hr
      refine mV_cV f9_image_39 tg_m8_copyFrom mCls8 (by decide) kk_2 (mC_deep (c8_copyFrom_2_44 X I s hz0) (by decide)) rfl rfl (Nat.le_of_ble_eq_true rfl) ?_
      refine mV_aload f9_image_42 rfl ?_
      refine mV_getP f9_image_43 (by decide) kk_0 rfl (pp_0_4 _) ?_
      obtain ⟨z1, hz1, hr⟩ := mBind hr
      refine mV_cV f9_image_46 tg_m3_forget mCls3 (by decide) kk_77 (mC_deep (c3_forget X z0 s hz1) (by decide)) rfl rfl (Nat.le_of_ble_eq_true rfl) ?_
      refine mV_push f9_image_49 ?_
      have hr := Option.some.inj hr; subst hr
      exact mV_iret rfl rfl f9_image_50 hQ
    · rw [if_pos h1] at hr
      refine mV_push f9_image_29 ?_
      have hr := Option.some.inj hr; subst hr
      exact mV_iret rfl rfl f9_image_30 hQ
  · rw [if_neg h0] at hr
    refine mV_aload f9_image_4 rfl ?_
    refine mV_getP f9_image_5 (by decide) kk_0 rfl (pp_0_2 _) ?_
    refine mV_aload f9_image_8 rfl ?_
    refine mV_getP f9_image_9 (by decide) kk_0 rfl (pp_0_1 _) ?_
    obtain ⟨z2, hz2, hr⟩ := mBind hr
    refine mV_cV f9_image_12 tg_m8_copyFrom mCls8 (by decide) kk_44 (mC_deep (c8_copyFrom_44_2 X I s hz2) (by decide)) rfl rfl (Nat.le_of_ble_eq_true rfl) ?_
    refine mV_aload f9_image_15 rfl ?_
    refine mV_push f9_image_16 ?_
    refine mV_putI f9_image_17 (by decide) kk_0 rfl rfl ?_
    refine mV_push f9_image_20 ?_
    have hr := Option.some.inj hr; subst hr
    exact mV_iret rfl rfl f9_image_21 hQ
theorem c9_image (X : Nat × (Nat → Int32)) (I : mI) (s : Nat) (x0 : Int32) {res : Int32 × mI} (hr : r9_image I x0 = some res) : mC X m9_image 3 0 0 [.ref 0, .int x0] NN KK I (PP s) (mRet (some (.int res.1)) NN KK res.2 (PP s)) :=
  mC_of (L0 := [.ref 0, .int x0]) rfl (Nat.le_of_ble_eq_true rfl) (w9_image X I s x0 _ hr (mRet_ok _ _ _ _ _))
def r9_look (I : mI) (x0 : Int32) : Int32 := if (x0 : Int32) = 0 then I 8 6 else if (x0 : Int32) = 1 then I 8 7 else if (x0 : Int32) = 2 then I 3 4 else if (x0 : Int32) = 3 then I 3 5 else if (x0 : Int32) = 4 then I 3 6 else if (x0 : Int32) = 5 then I 3 7 else if (x0 : Int32) = 6 then I 3 8 else if (x0 : Int32) = 7 then I 3 9 else if (x0 : Int32) = 8 then I 3 10 else if (x0 : Int32) = 9 then I 3 12 else if (x0 : Int32) = 10 then I 3 11 else if (x0 : Int32) = 11 then I 15 2 else if (x0 : Int32) = 12 then I 18 2 else if (x0 : Int32) = 13 then I 21 2 else if (x0 : Int32) = 14 then I 24 2 else if (x0 : Int32) = 15 then I 77 2 else (-1)
set_option maxHeartbeats 4000000 in
set_option maxRecDepth 100000 in
theorem w9_look (X : Nat × (Nat → Int32)) (I : mI) (s : Nat) (x0 : Int32) (Q : mQ) {res : Int32} (hr : r9_look I x0 = res) (hQ : Q (some (.int res)) NN KK I (PP s)) : mV X m9_look 0 0 0 0 [.ref 0, .int x0, mX0] [] NN KK I (PP s) Q := by
  unfold r9_look at hr
  refine mV_aload f9_look_0 rfl ?_
  refine mV_getP f9_look_1 (by decide) kk_0 rfl (pp_0_1 _) ?_
  refine mV_getP f9_look_4 (by decide) kk_2 rfl (pp_2_0 _) ?_
  refine mV_astore (L' := [.ref 0, .int x0, .ref 3]) f9_look_7 (by decide) rfl rfl ?_
  refine mV_iload f9_look_8 rfl ?_
  by_cases h0 : x0 = 0
  · rw [if_pos h0] at hr
    refine mV_tabEq (v := 0) f9_look_9 h0 (by decide) (by decide) (by decide) (by decide : (9 : Int) + 79 = (88 : Nat)) ?_
    refine mV_aload f9_look_88 rfl ?_
    refine mV_getP f9_look_89 (by decide) kk_0 rfl (pp_0_1 _) ?_
    refine mV_getP f9_look_92 (by decide) kk_2 rfl (pp_2_1 _) ?_
    refine mV_gI (I 8 6) f9_look_95 (by decide) kk_8 rfl rfl ?_
    subst hr
    exact mV_iret rfl rfl f9_look_98 hQ
  rw [if_neg h0] at hr
  by_cases h1 : x0 = 1
  · rw [if_pos h1] at hr
    refine mV_tabEq (v := 1) f9_look_9 h1 (by decide) (by decide) (by decide) (by decide : (9 : Int) + 90 = (99 : Nat)) ?_
    refine mV_aload f9_look_99 rfl ?_
    refine mV_getP f9_look_100 (by decide) kk_0 rfl (pp_0_1 _) ?_
    refine mV_getP f9_look_103 (by decide) kk_2 rfl (pp_2_1 _) ?_
    refine mV_gI (I 8 7) f9_look_106 (by decide) kk_8 rfl rfl ?_
    subst hr
    exact mV_iret rfl rfl f9_look_109 hQ
  rw [if_neg h1] at hr
  by_cases h2 : x0 = 2
  · rw [if_pos h2] at hr
    refine mV_tabEq (v := 2) f9_look_9 h2 (by decide) (by decide) (by decide) (by decide : (9 : Int) + 101 = (110 : Nat)) ?_
    refine mV_aload f9_look_110 rfl ?_
    refine mV_gI (I 3 4) f9_look_111 (by decide) kk_3 rfl rfl ?_
    subst hr
    exact mV_iret rfl rfl f9_look_114 hQ
  rw [if_neg h2] at hr
  by_cases h3 : x0 = 3
  · rw [if_pos h3] at hr
    refine mV_tabEq (v := 3) f9_look_9 h3 (by decide) (by decide) (by decide) (by decide : (9 : Int) + 106 = (115 : Nat)) ?_
    refine mV_aload f9_look_115 rfl ?_
    refine mV_gI (I 3 5) f9_look_116 (by decide) kk_3 rfl rfl ?_
    subst hr
    exact mV_iret rfl rfl f9_look_119 hQ
  rw [if_neg h3] at hr
  by_cases h4 : x0 = 4
  · rw [if_pos h4] at hr
    refine mV_tabEq (v := 4) f9_look_9 h4 (by decide) (by decide) (by decide) (by decide : (9 : Int) + 111 = (120 : Nat)) ?_
    refine mV_aload f9_look_120 rfl ?_
    refine mV_gI (I 3 6) f9_look_121 (by decide) kk_3 rfl rfl ?_
    subst hr
    exact mV_iret rfl rfl f9_look_124 hQ
  rw [if_neg h4] at hr
  by_cases h5 : x0 = 5
  · rw [if_pos h5] at hr
    refine mV_tabEq (v := 5) f9_look_9 h5 (by decide) (by decide) (by decide) (by decide : (9 : Int) + 116 = (125 : Nat)) ?_
    refine mV_aload f9_look_125 rfl ?_
    refine mV_gI (I 3 7) f9_look_126 (by decide) kk_3 rfl rfl ?_
    subst hr
    exact mV_iret rfl rfl f9_look_129 hQ
  rw [if_neg h5] at hr
  by_cases h6 : x0 = 6
  · rw [if_pos h6] at hr
    refine mV_tabEq (v := 6) f9_look_9 h6 (by decide) (by decide) (by decide) (by decide : (9 : Int) + 121 = (130 : Nat)) ?_
    refine mV_aload f9_look_130 rfl ?_
    refine mV_gI (I 3 8) f9_look_131 (by decide) kk_3 rfl rfl ?_
    subst hr
    exact mV_iret rfl rfl f9_look_134 hQ
  rw [if_neg h6] at hr
  by_cases h7 : x0 = 7
  · rw [if_pos h7] at hr
    refine mV_tabEq (v := 7) f9_look_9 h7 (by decide) (by decide) (by decide) (by decide : (9 : Int) + 126 = (135 : Nat)) ?_
    refine mV_aload f9_look_135 rfl ?_
    refine mV_gI (I 3 9) f9_look_136 (by decide) kk_3 rfl rfl ?_
    subst hr
    exact mV_iret rfl rfl f9_look_139 hQ
  rw [if_neg h7] at hr
  by_cases h8 : x0 = 8
  · rw [if_pos h8] at hr
    refine mV_tabEq (v := 8) f9_look_9 h8 (by decide) (by decide) (by decide) (by decide : (9 : Int) + 131 = (140 : Nat)) ?_
    refine mV_aload f9_look_140 rfl ?_
    refine mV_gI (I 3 10) f9_look_141 (by decide) kk_3 rfl rfl ?_
    subst hr
    exact mV_iret rfl rfl f9_look_144 hQ
  rw [if_neg h8] at hr
  by_cases h9 : x0 = 9
  · rw [if_pos h9] at hr
    refine mV_tabEq (v := 9) f9_look_9 h9 (by decide) (by decide) (by decide) (by decide : (9 : Int) + 136 = (145 : Nat)) ?_
    refine mV_aload f9_look_145 rfl ?_
    refine mV_gI (I 3 12) f9_look_146 (by decide) kk_3 rfl rfl ?_
    subst hr
    exact mV_iret rfl rfl f9_look_149 hQ
  rw [if_neg h9] at hr
  by_cases h10 : x0 = 10
  · rw [if_pos h10] at hr
    refine mV_tabEq (v := 10) f9_look_9 h10 (by decide) (by decide) (by decide) (by decide : (9 : Int) + 141 = (150 : Nat)) ?_
    refine mV_aload f9_look_150 rfl ?_
    refine mV_gI (I 3 11) f9_look_151 (by decide) kk_3 rfl rfl ?_
    subst hr
    exact mV_iret rfl rfl f9_look_154 hQ
  rw [if_neg h10] at hr
  by_cases h11 : x0 = 11
  · rw [if_pos h11] at hr
    refine mV_tabEq (v := 11) f9_look_9 h11 (by decide) (by decide) (by decide) (by decide : (9 : Int) + 146 = (155 : Nat)) ?_
    refine mV_aload f9_look_155 rfl ?_
    refine mV_getP f9_look_156 (by decide) kk_0 rfl (pp_0_1 _) ?_
    refine mV_getP f9_look_159 (by decide) kk_2 rfl (pp_2_2 _) ?_
    refine mV_gI (I 15 2) f9_look_162 (by decide) kk_15 rfl rfl ?_
    subst hr
    exact mV_iret rfl rfl f9_look_165 hQ
  rw [if_neg h11] at hr
  by_cases h12 : x0 = 12
  · rw [if_pos h12] at hr
    refine mV_tabEq (v := 12) f9_look_9 h12 (by decide) (by decide) (by decide) (by decide : (9 : Int) + 157 = (166 : Nat)) ?_
    refine mV_aload f9_look_166 rfl ?_
    refine mV_getP f9_look_167 (by decide) kk_0 rfl (pp_0_1 _) ?_
    refine mV_getP f9_look_170 (by decide) kk_2 rfl (pp_2_3 _) ?_
    refine mV_gI (I 18 2) f9_look_173 (by decide) kk_18 rfl rfl ?_
    subst hr
    exact mV_iret rfl rfl f9_look_176 hQ
  rw [if_neg h12] at hr
  by_cases h13 : x0 = 13
  · rw [if_pos h13] at hr
    refine mV_tabEq (v := 13) f9_look_9 h13 (by decide) (by decide) (by decide) (by decide : (9 : Int) + 168 = (177 : Nat)) ?_
    refine mV_aload f9_look_177 rfl ?_
    refine mV_getP f9_look_178 (by decide) kk_0 rfl (pp_0_1 _) ?_
    refine mV_getP f9_look_181 (by decide) kk_2 rfl (pp_2_4 _) ?_
    refine mV_gI (I 21 2) f9_look_184 (by decide) kk_21 rfl rfl ?_
    subst hr
    exact mV_iret rfl rfl f9_look_187 hQ
  rw [if_neg h13] at hr
  by_cases h14 : x0 = 14
  · rw [if_pos h14] at hr
    refine mV_tabEq (v := 14) f9_look_9 h14 (by decide) (by decide) (by decide) (by decide : (9 : Int) + 179 = (188 : Nat)) ?_
    refine mV_aload f9_look_188 rfl ?_
    refine mV_getP f9_look_189 (by decide) kk_0 rfl (pp_0_1 _) ?_
    refine mV_getP f9_look_192 (by decide) kk_2 rfl (pp_2_5 _) ?_
    refine mV_gI (I 24 2) f9_look_195 (by decide) kk_24 rfl rfl ?_
    subst hr
    exact mV_iret rfl rfl f9_look_198 hQ
  rw [if_neg h14] at hr
  by_cases h15 : x0 = 15
  · rw [if_pos h15] at hr
    refine mV_tabEq (v := 15) f9_look_9 h15 (by decide) (by decide) (by decide) (by decide : (9 : Int) + 190 = (199 : Nat)) ?_
    refine mV_aload f9_look_199 rfl ?_
    refine mV_getP f9_look_200 (by decide) kk_0 rfl (pp_0_4 _) ?_
    refine mV_gI (I 77 2) f9_look_203 (by decide) kk_77 rfl rfl ?_
    subst hr
    exact mV_iret rfl rfl f9_look_206 hQ
  rw [if_neg h15] at hr
  refine mV_tabNo f9_look_9 [0, 1, 2, 3, 4, 5, 6, 7, 8, 9, 10, 11, 12, 13, 14, 15] (by decide) (List.forall_mem_cons.mpr ⟨h0, (List.forall_mem_cons.mpr ⟨h1, (List.forall_mem_cons.mpr ⟨h2, (List.forall_mem_cons.mpr ⟨h3, (List.forall_mem_cons.mpr ⟨h4, (List.forall_mem_cons.mpr ⟨h5, (List.forall_mem_cons.mpr ⟨h6, (List.forall_mem_cons.mpr ⟨h7, (List.forall_mem_cons.mpr ⟨h8, (List.forall_mem_cons.mpr ⟨h9, (List.forall_mem_cons.mpr ⟨h10, (List.forall_mem_cons.mpr ⟨h11, (List.forall_mem_cons.mpr ⟨h12, (List.forall_mem_cons.mpr ⟨h13, (List.forall_mem_cons.mpr ⟨h14, (List.forall_mem_cons.mpr ⟨h15, (fun _ hc => absurd hc List.not_mem_nil)⟩)⟩)⟩)⟩)⟩)⟩)⟩)⟩)⟩)⟩)⟩)⟩)⟩)⟩)⟩)⟩) (by decide : (9 : Int) + 198 = (207 : Nat)) ?_
  refine mV_push f9_look_207 ?_
  subst hr
  exact mV_iret rfl rfl f9_look_208 hQ
theorem c9_look (X : Nat × (Nat → Int32)) (I : mI) (s : Nat) (x0 : Int32) {res : Int32} (hr : r9_look I x0 = res) : mC X m9_look 0 0 0 [.ref 0, .int x0] NN KK I (PP s) (mRet (some (.int res)) NN KK I (PP s)) :=
  mC_of (L0 := [.ref 0, .int x0, mX0]) rfl (Nat.le_of_ble_eq_true rfl) (w9_look X I s x0 _ hr (mRet_ok _ _ _ _ _))
def r10_isIn (x0 : Int32) (x1 : Int32) (x2 : Int32) : Int32 := if (x0 : Int32) < (x1 : Int32) then 0 else if (x2 : Int32) < (x0 : Int32) then 0 else 1
set_option maxHeartbeats 4000000 in
set_option maxRecDepth 100000 in
theorem w10_isIn (X : Nat × (Nat → Int32)) (I : mI) (s : Nat) (x0 : Int32) (x1 : Int32) (x2 : Int32) (Q : mQ) {res : Int32} (hr : r10_isIn x0 x1 x2 = res) (hQ : Q (some (.int res)) NN KK I (PP s)) : mV X m10_isIn 0 0 0 0 [.ref 119, .int x0, .int x1, .int x2] [] NN KK I (PP s) Q := by
  unfold r10_isIn at hr
  refine mV_iload f10_isIn_0 rfl ?_
  refine mV_iload f10_isIn_1 rfl ?_
  refine mV_icmp_lt f10_isIn_2 (fun h0 => ?_) (fun h0 => ?_)
  · rw [if_pos h0] at hr
    refine mV_push f10_isIn_14 ?_
    subst hr
    exact mV_iret rfl rfl f10_isIn_15 hQ
  · rw [if_neg h0] at hr
    refine mV_iload f10_isIn_5 rfl ?_
    refine mV_iload f10_isIn_6 rfl ?_
    refine mV_icmp_gt f10_isIn_7 (fun h1 => ?_) (fun h1 => ?_)
    · rw [if_pos h1] at hr
      refine mV_push f10_isIn_14 ?_
      subst hr
      exact mV_iret rfl rfl f10_isIn_15 hQ
    · rw [if_neg h1] at hr
      refine mV_push f10_isIn_10 ?_
      refine mV_goto f10_isIn_11 ?_
      subst hr
      exact mV_iret rfl rfl f10_isIn_15 hQ
theorem c10_isIn (X : Nat × (Nat → Int32)) (I : mI) (s : Nat) (x0 : Int32) (x1 : Int32) (x2 : Int32) {res : Int32} (hr : r10_isIn x0 x1 x2 = res) : mC X m10_isIn 0 0 0 [.ref 119, .int x0, .int x1, .int x2] NN KK I (PP s) (mRet (some (.int res)) NN KK I (PP s)) :=
  mC_of (L0 := [.ref 119, .int x0, .int x1, .int x2]) rfl (Nat.le_of_ble_eq_true rfl) (w10_isIn X I s x0 x1 x2 _ hr (mRet_ok _ _ _ _ _))
def r10_held (x0 : Int32) (x1 : Int32) (x2 : Int32) : Int32 := if (x1 : Int32) ≤ (x0 : Int32) then if (x0 : Int32) ≤ (x2 : Int32) then x0 else x2 else x1
set_option maxHeartbeats 4000000 in
set_option maxRecDepth 100000 in
theorem w10_held (X : Nat × (Nat → Int32)) (I : mI) (s : Nat) (x0 : Int32) (x1 : Int32) (x2 : Int32) (Q : mQ) {res : Int32} (hr : r10_held x0 x1 x2 = res) (hQ : Q (some (.int res)) NN KK I (PP s)) : mV X m10_held 0 0 0 0 [.ref 119, .int x0, .int x1, .int x2] [] NN KK I (PP s) Q := by
  unfold r10_held at hr
  refine mV_iload f10_held_0 rfl ?_
  refine mV_iload f10_held_1 rfl ?_
  refine mV_icmp_ge f10_held_2 (fun h0 => ?_) (fun h0 => ?_)
  · rw [if_pos h0] at hr
    refine mV_iload f10_held_9 rfl ?_
    refine mV_iload f10_held_10 rfl ?_
    refine mV_icmp_le f10_held_11 (fun h1 => ?_) (fun h1 => ?_)
    · rw [if_pos h1] at hr
      refine mV_iload f10_held_18 rfl ?_
      subst hr
      exact mV_iret rfl rfl f10_held_19 hQ
    · rw [if_neg h1] at hr
      refine mV_iload f10_held_14 rfl ?_
      refine mV_goto f10_held_15 ?_
      subst hr
      exact mV_iret rfl rfl f10_held_19 hQ
  · rw [if_neg h0] at hr
    refine mV_iload f10_held_5 rfl ?_
    refine mV_goto f10_held_6 ?_
    subst hr
    exact mV_iret rfl rfl f10_held_19 hQ
theorem c10_held (X : Nat × (Nat → Int32)) (I : mI) (s : Nat) (x0 : Int32) (x1 : Int32) (x2 : Int32) {res : Int32} (hr : r10_held x0 x1 x2 = res) : mC X m10_held 0 0 0 [.ref 119, .int x0, .int x1, .int x2] NN KK I (PP s) (mRet (some (.int res)) NN KK I (PP s)) :=
  mC_of (L0 := [.ref 119, .int x0, .int x1, .int x2]) rfl (Nat.le_of_ble_eq_true rfl) (w10_held X I s x0 x1 x2 _ hr (mRet_ok _ _ _ _ _))
def r10_greater (x0 : Int32) (x1 : Int32) : Int32 := if (x0 : Int32) ≤ (x1 : Int32) then x1 else x0
set_option maxHeartbeats 4000000 in
set_option maxRecDepth 100000 in
theorem w10_greater (X : Nat × (Nat → Int32)) (I : mI) (s : Nat) (x0 : Int32) (x1 : Int32) (Q : mQ) {res : Int32} (hr : r10_greater x0 x1 = res) (hQ : Q (some (.int res)) NN KK I (PP s)) : mV X m10_greater 0 0 0 0 [.ref 119, .int x0, .int x1] [] NN KK I (PP s) Q := by
  unfold r10_greater at hr
  refine mV_iload f10_greater_0 rfl ?_
  refine mV_iload f10_greater_1 rfl ?_
  refine mV_icmp_le f10_greater_2 (fun h0 => ?_) (fun h0 => ?_)
  · rw [if_pos h0] at hr
    refine mV_iload f10_greater_9 rfl ?_
    subst hr
    exact mV_iret rfl rfl f10_greater_10 hQ
  · rw [if_neg h0] at hr
    refine mV_iload f10_greater_5 rfl ?_
    refine mV_goto f10_greater_6 ?_
    subst hr
    exact mV_iret rfl rfl f10_greater_10 hQ
theorem c10_greater (X : Nat × (Nat → Int32)) (I : mI) (s : Nat) (x0 : Int32) (x1 : Int32) {res : Int32} (hr : r10_greater x0 x1 = res) : mC X m10_greater 0 0 0 [.ref 119, .int x0, .int x1] NN KK I (PP s) (mRet (some (.int res)) NN KK I (PP s)) :=
  mC_of (L0 := [.ref 119, .int x0, .int x1]) rfl (Nat.le_of_ble_eq_true rfl) (w10_greater X I s x0 x1 _ hr (mRet_ok _ _ _ _ _))
def r10_lesser (x0 : Int32) (x1 : Int32) : Int32 := if (x1 : Int32) ≤ (x0 : Int32) then x1 else x0
set_option maxHeartbeats 4000000 in
set_option maxRecDepth 100000 in
theorem w10_lesser (X : Nat × (Nat → Int32)) (I : mI) (s : Nat) (x0 : Int32) (x1 : Int32) (Q : mQ) {res : Int32} (hr : r10_lesser x0 x1 = res) (hQ : Q (some (.int res)) NN KK I (PP s)) : mV X m10_lesser 0 0 0 0 [.ref 119, .int x0, .int x1] [] NN KK I (PP s) Q := by
  unfold r10_lesser at hr
  refine mV_iload f10_lesser_0 rfl ?_
  refine mV_iload f10_lesser_1 rfl ?_
  refine mV_icmp_ge f10_lesser_2 (fun h0 => ?_) (fun h0 => ?_)
  · rw [if_pos h0] at hr
    refine mV_iload f10_lesser_9 rfl ?_
    subst hr
    exact mV_iret rfl rfl f10_lesser_10 hQ
  · rw [if_neg h0] at hr
    refine mV_iload f10_lesser_5 rfl ?_
    refine mV_goto f10_lesser_6 ?_
    subst hr
    exact mV_iret rfl rfl f10_lesser_10 hQ
theorem c10_lesser (X : Nat × (Nat → Int32)) (I : mI) (s : Nat) (x0 : Int32) (x1 : Int32) {res : Int32} (hr : r10_lesser x0 x1 = res) : mC X m10_lesser 0 0 0 [.ref 119, .int x0, .int x1] NN KK I (PP s) (mRet (some (.int res)) NN KK I (PP s)) :=
  mC_of (L0 := [.ref 119, .int x0, .int x1]) rfl (Nat.le_of_ble_eq_true rfl) (w10_lesser X I s x0 x1 _ hr (mRet_ok _ _ _ _ _))
def r10_apart (x0 : Int32) (x1 : Int32) : Int32 := if (x0 : Int32) ≤ (x1 : Int32) then (x1 - x0) else (x0 - x1)
set_option maxHeartbeats 4000000 in
set_option maxRecDepth 100000 in
theorem w10_apart (X : Nat × (Nat → Int32)) (I : mI) (s : Nat) (x0 : Int32) (x1 : Int32) (Q : mQ) {res : Int32} (hr : r10_apart x0 x1 = res) (hQ : Q (some (.int res)) NN KK I (PP s)) : mV X m10_apart 0 0 0 0 [.ref 119, .int x0, .int x1] [] NN KK I (PP s) Q := by
  unfold r10_apart at hr
  refine mV_iload f10_apart_0 rfl ?_
  refine mV_iload f10_apart_1 rfl ?_
  refine mV_icmp_le f10_apart_2 (fun h0 => ?_) (fun h0 => ?_)
  · rw [if_pos h0] at hr
    refine mV_iload f10_apart_11 rfl ?_
    refine mV_iload f10_apart_12 rfl ?_
    refine mV_isub f10_apart_13 ?_
    subst hr
    exact mV_iret rfl rfl f10_apart_14 hQ
  · rw [if_neg h0] at hr
    refine mV_iload f10_apart_5 rfl ?_
    refine mV_iload f10_apart_6 rfl ?_
    refine mV_isub f10_apart_7 ?_
    refine mV_goto f10_apart_8 ?_
    subst hr
    exact mV_iret rfl rfl f10_apart_14 hQ
theorem c10_apart (X : Nat × (Nat → Int32)) (I : mI) (s : Nat) (x0 : Int32) (x1 : Int32) {res : Int32} (hr : r10_apart x0 x1 = res) : mC X m10_apart 0 0 0 [.ref 119, .int x0, .int x1] NN KK I (PP s) (mRet (some (.int res)) NN KK I (PP s)) :=
  mC_of (L0 := [.ref 119, .int x0, .int x1]) rfl (Nat.le_of_ble_eq_true rfl) (w10_apart X I s x0 x1 _ hr (mRet_ok _ _ _ _ _))
def r10_added (x0 : Int32) (x1 : Int32) : Int32 := if (x0 : Int32) < ((1000000007 - x1) : Int32) then (x0 + x1) else (x0 - (1000000007 - x1))
set_option maxHeartbeats 4000000 in
set_option maxRecDepth 100000 in
theorem w10_added (X : Nat × (Nat → Int32)) (I : mI) (s : Nat) (x0 : Int32) (x1 : Int32) (Q : mQ) {res : Int32} (hr : r10_added x0 x1 = res) (hQ : Q (some (.int res)) NN KK I (PP s)) : mV X m10_added 0 0 0 0 [.ref 119, .int x0, .int x1] [] NN KK I (PP s) Q := by
  unfold r10_added at hr
  refine mV_iload f10_added_0 rfl ?_
  refine mV_push f10_added_1 ?_
  refine mV_iload f10_added_3 rfl ?_
  refine mV_isub f10_added_4 ?_
  refine mV_icmp_lt f10_added_5 (fun h0 => ?_) (fun h0 => ?_)
  · rw [if_pos h0] at hr
    refine mV_iload f10_added_17 rfl ?_
    refine mV_iload f10_added_18 rfl ?_
    refine mV_iadd f10_added_19 ?_
    subst hr
    exact mV_iret rfl rfl f10_added_20 hQ
  · rw [if_neg h0] at hr
    refine mV_iload f10_added_8 rfl ?_
    refine mV_push f10_added_9 ?_
    refine mV_iload f10_added_11 rfl ?_
    refine mV_isub f10_added_12 ?_
    refine mV_isub f10_added_13 ?_
    refine mV_goto f10_added_14 ?_
    subst hr
    exact mV_iret rfl rfl f10_added_20 hQ
theorem c10_added (X : Nat × (Nat → Int32)) (I : mI) (s : Nat) (x0 : Int32) (x1 : Int32) {res : Int32} (hr : r10_added x0 x1 = res) : mC X m10_added 0 0 0 [.ref 119, .int x0, .int x1] NN KK I (PP s) (mRet (some (.int res)) NN KK I (PP s)) :=
  mC_of (L0 := [.ref 119, .int x0, .int x1]) rfl (Nat.le_of_ble_eq_true rfl) (w10_added X I s x0 x1 _ hr (mRet_ok _ _ _ _ _))
def l10_onesOf_4 : Nat → Int32 → Int32 → Option (Int32)
  | 0, _, _ => none
  | f + 1, y2, y3 => if (y3 : Int32) = (0 : Int32) then some y2 else l10_onesOf_4 f (y2 + 1) (y3 &&& (y3 - 1))
def r10_onesOf (x0 : Int32) : Option (Int32) := (l10_onesOf_4 FU 0 x0).bind fun z0 => some z0
set_option maxHeartbeats 4000000 in
set_option maxRecDepth 100000 in
theorem t10_onesOf_4 (X : Nat × (Nat → Int32)) (Q : mQ) (s : Nat) (I : mI) : ∀ (f : Nat) (y2 : Int32) (y3 : Int32) (z : Int32), l10_onesOf_4 f y2 y3 = some z → mV X m10_onesOf 0 0 0 21 [.ref 119, mX0, .int z, mX0] [] NN KK I (PP s) Q → mV X m10_onesOf 0 0 0 4 [.ref 119, mX0, .int y2, .int y3] [] NN KK I (PP s) Q := by
  intro f
  induction f with
  | zero => intro y2 y3 z hr hk; cases hr
  | succ f ih =>
    intro y2 y3 z hr hk
    unfold l10_onesOf_4 at hr
    refine mV_iload f10_onesOf_4 rfl ?_
    refine mV_if_eq f10_onesOf_5 (fun h0 => ?_) (fun h0 => ?_)
    · rw [if_pos h0] at hr
      have hr := Option.some.inj hr; subst hr
      refine mV_drop (L' := [.ref 119, mX0, .int y2, mX0]) (mSub_k (mSub_x (mSub_k (mSub_x mSub_n)))) ?_
      exact hk
    · rw [if_neg h0] at hr
      refine mV_iload f10_onesOf_8 rfl ?_
      refine mV_push f10_onesOf_9 ?_
      refine mV_iadd f10_onesOf_10 ?_
      refine mV_istore (L' := [.ref 119, mX0, .int (y2 + 1), .int y3]) f10_onesOf_11 (by decide) rfl rfl ?_
      refine mV_iload f10_onesOf_12 rfl ?_
      refine mV_iload f10_onesOf_13 rfl ?_
      refine mV_push f10_onesOf_14 ?_
      refine mV_isub f10_onesOf_15 ?_
      refine mV_iand f10_onesOf_16 ?_
      refine mV_istore (L' := [.ref 119, mX0, .int (y2 + 1), .int (y3 &&& (y3 - 1))]) f10_onesOf_17 (by decide) rfl rfl ?_
      refine mV_goto f10_onesOf_18 ?_
      exact ih (y2 + 1) (y3 &&& (y3 - 1)) _ hr hk
set_option maxHeartbeats 4000000 in
set_option maxRecDepth 100000 in
theorem w10_onesOf (X : Nat × (Nat → Int32)) (I : mI) (s : Nat) (x0 : Int32) (Q : mQ) {res : Int32} (hr : r10_onesOf x0 = some res) (hQ : Q (some (.int res)) NN KK I (PP s)) : mV X m10_onesOf 0 0 0 0 [.ref 119, .int x0, mX0, mX0] [] NN KK I (PP s) Q := by
  unfold r10_onesOf at hr
  refine mV_push f10_onesOf_0 ?_
  refine mV_istore (L' := [.ref 119, .int x0, .int 0, mX0]) f10_onesOf_1 (by decide) rfl rfl ?_
  refine mV_iload f10_onesOf_2 rfl ?_
  refine mV_istore (L' := [.ref 119, .int x0, .int 0, .int x0]) f10_onesOf_3 (by decide) rfl rfl ?_
  obtain ⟨z0, hz0, hr⟩ := mBind hr
  refine mV_drop (L' := [.ref 119, mX0, .int 0, .int x0]) (mSub_k (mSub_x (mSub_k (mSub_k mSub_n)))) ?_
  refine t10_onesOf_4 X Q s I FU 0 x0 _ hz0 ?_
  refine mV_iload f10_onesOf_21 rfl ?_
  have hr := Option.some.inj hr; subst hr
  exact mV_iret rfl rfl f10_onesOf_22 hQ
theorem c10_onesOf (X : Nat × (Nat → Int32)) (I : mI) (s : Nat) (x0 : Int32) {res : Int32} (hr : r10_onesOf x0 = some res) : mC X m10_onesOf 0 0 0 [.ref 119, .int x0] NN KK I (PP s) (mRet (some (.int res)) NN KK I (PP s)) :=
  mC_of (L0 := [.ref 119, .int x0, mX0, mX0]) rfl (Nat.le_of_ble_eq_true rfl) (w10_onesOf X I s x0 _ hr (mRet_ok _ _ _ _ _))
def r10_has (x0 : Int32) (x1 : Int32) : Int32 := if ((((x0 : Int32) >>> (x1 &&& 31)) &&& 1) : Int32) = (1 : Int32) then 1 else 0
set_option maxHeartbeats 4000000 in
set_option maxRecDepth 100000 in
theorem w10_has (X : Nat × (Nat → Int32)) (I : mI) (s : Nat) (x0 : Int32) (x1 : Int32) (Q : mQ) {res : Int32} (hr : r10_has x0 x1 = res) (hQ : Q (some (.int res)) NN KK I (PP s)) : mV X m10_has 0 0 0 0 [.ref 119, .int x0, .int x1] [] NN KK I (PP s) Q := by
  unfold r10_has at hr
  refine mV_iload f10_has_0 rfl ?_
  refine mV_iload f10_has_1 rfl ?_
  refine mV_ishr f10_has_2 ?_
  refine mV_push f10_has_3 ?_
  refine mV_iand f10_has_4 ?_
  refine mV_push f10_has_5 ?_
  refine mV_icmp_ne f10_has_6 (fun h0 => ?_) (fun h0 => ?_)
  · rw [if_neg h0] at hr
    refine mV_push f10_has_13 ?_
    subst hr
    exact mV_iret rfl rfl f10_has_14 hQ
  · rw [if_pos h0] at hr
    refine mV_push f10_has_9 ?_
    refine mV_goto f10_has_10 ?_
    subst hr
    exact mV_iret rfl rfl f10_has_14 hQ
theorem c10_has (X : Nat × (Nat → Int32)) (I : mI) (s : Nat) (x0 : Int32) (x1 : Int32) {res : Int32} (hr : r10_has x0 x1 = res) : mC X m10_has 0 0 0 [.ref 119, .int x0, .int x1] NN KK I (PP s) (mRet (some (.int res)) NN KK I (PP s)) :=
  mC_of (L0 := [.ref 119, .int x0, .int x1]) rfl (Nat.le_of_ble_eq_true rfl) (w10_has X I s x0 x1 _ hr (mRet_ok _ _ _ _ _))
def l10_keepsAhead_21 : Nat → Int32 → mI → Option (mI)
  | 0, _, _ => none
  | f + 1, y1, I => if ((47 * I 119 3) : Int32) ≤ (y1 : Int32) then some I else (mLd I 121 282 (y1 + 47)).bind fun z0 => (mSto I 121 282 y1 z0).bind fun z1 => l10_keepsAhead_21 f (y1 + 1) z1
def l10_keepsAhead_55 : Nat → Int32 → mI → Option (mI)
  | 0, _, _ => none
  | f + 1, y1, I => if (47 : Int32) ≤ (y1 : Int32) then some I else (mLd I 120 47 y1).bind fun z0 => (mSto I 121 282 ((47 * I 119 3) + y1) z0).bind fun z1 => l10_keepsAhead_55 f (y1 + 1) z1
def r10_keepsAhead (I : mI) : Option (mI) := (if (I 119 3 : Int32) = (6 : Int32) then (l10_keepsAhead_21 FU 0 (mW I 119 3 (I 119 3 - 1))).bind fun z1 => some z1 else some I : Option (mI)).bind fun z0 => (l10_keepsAhead_55 FU 0 z0).bind fun z2 => some (mW z2 119 3 (z2 119 3 + 1))
set_option maxHeartbeats 4000000 in
set_option maxRecDepth 100000 in
theorem t10_keepsAhead_21 (X : Nat × (Nat → Int32)) (Q : mQ) (s : Nat) : ∀ (f : Nat) (y1 : Int32) (I : mI) (z : mI), l10_keepsAhead_21 f y1 I = some z → mV X m10_keepsAhead 0 0 0 53 [.ref 119, mX0] [] NN KK z (PP s) Q → mV X m10_keepsAhead 0 0 0 21 [.ref 119, .int y1] [] NN KK I (PP s) Q := by
  intro f
  induction f with
  | zero => intro y1 I z hr hk; cases hr
  | succ f ih =>
    intro y1 I z hr hk
    unfold l10_keepsAhead_21 at hr
    refine mV_iload f10_keepsAhead_21 rfl ?_
    refine mV_push f10_keepsAhead_22 ?_
    refine mV_aload f10_keepsAhead_24 rfl ?_
    refine mV_gI (I 119 3) f10_keepsAhead_25 (by decide) kk_119 rfl rfl ?_
    refine mV_imul f10_keepsAhead_28 ?_
    refine mV_icmp_ge f10_keepsAhead_29 (fun h0 => ?_) (fun h0 => ?_)
    · rw [if_pos h0] at hr
      have hr := Option.some.inj hr; subst hr
      refine mV_drop (L' := [.ref 119, mX0]) (mSub_k (mSub_x mSub_n)) ?_
      exact hk
    · rw [if_neg h0] at hr
      refine mV_aload f10_keepsAhead_32 rfl ?_
      refine mV_getP f10_keepsAhead_33 (by decide) kk_119 rfl (pp_119_2 _) ?_
      refine mV_iload f10_keepsAhead_36 rfl ?_
      refine mV_aload f10_keepsAhead_37 rfl ?_
      refine mV_getP f10_keepsAhead_38 (by decide) kk_119 rfl (pp_119_2 _) ?_
      refine mV_iload f10_keepsAhead_41 rfl ?_
      refine mV_push f10_keepsAhead_42 ?_
      refine mV_iadd f10_keepsAhead_44 ?_
      obtain ⟨z0, hz0, hr⟩ := mBind hr
      refine mV_ldO f10_keepsAhead_45 (by decide) kk_121 hz0 ?_
      obtain ⟨z1, hz1, hr⟩ := mBind hr
      refine mV_stO f10_keepsAhead_46 (by decide) kk_121 hz1 ?_
      refine mV_iinc (y := (y1 + 1)) (L' := [.ref 119, .int (y1 + 1)]) f10_keepsAhead_47 rfl rfl (by decide) rfl rfl ?_
      refine mV_goto f10_keepsAhead_50 ?_
      exact ih (y1 + 1) z1 _ hr hk
set_option maxHeartbeats 4000000 in
set_option maxRecDepth 100000 in
theorem t10_keepsAhead_55 (X : Nat × (Nat → Int32)) (Q : mQ) (s : Nat) : ∀ (f : Nat) (y1 : Int32) (I : mI) (z : mI), l10_keepsAhead_55 f y1 I = some z → mV X m10_keepsAhead 0 0 0 87 [.ref 119, mX0] [] NN KK z (PP s) Q → mV X m10_keepsAhead 0 0 0 55 [.ref 119, .int y1] [] NN KK I (PP s) Q := by
  intro f
  induction f with
  | zero => intro y1 I z hr hk; cases hr
  | succ f ih =>
    intro y1 I z hr hk
    unfold l10_keepsAhead_55 at hr
    refine mV_iload f10_keepsAhead_55 rfl ?_
    refine mV_push f10_keepsAhead_56 ?_
    refine mV_icmp_ge f10_keepsAhead_58 (fun h0 => ?_) (fun h0 => ?_)
    · rw [if_pos h0] at hr
      have hr := Option.some.inj hr; subst hr
      refine mV_drop (L' := [.ref 119, mX0]) (mSub_k (mSub_x mSub_n)) ?_
      exact hk
    · rw [if_neg h0] at hr
      refine mV_aload f10_keepsAhead_61 rfl ?_
      refine mV_getP f10_keepsAhead_62 (by decide) kk_119 rfl (pp_119_2 _) ?_
      refine mV_push f10_keepsAhead_65 ?_
      refine mV_aload f10_keepsAhead_67 rfl ?_
      refine mV_gI (I 119 3) f10_keepsAhead_68 (by decide) kk_119 rfl rfl ?_
      refine mV_imul f10_keepsAhead_71 ?_
      refine mV_iload f10_keepsAhead_72 rfl ?_
      refine mV_iadd f10_keepsAhead_73 ?_
      refine mV_aload f10_keepsAhead_74 rfl ?_
      refine mV_getP f10_keepsAhead_75 (by decide) kk_119 rfl (pp_119_1 _) ?_
      refine mV_iload f10_keepsAhead_78 rfl ?_
      obtain ⟨z0, hz0, hr⟩ := mBind hr
      refine mV_ldO f10_keepsAhead_79 (by decide) kk_120 hz0 ?_
      obtain ⟨z1, hz1, hr⟩ := mBind hr
      refine mV_stO f10_keepsAhead_80 (by decide) kk_121 hz1 ?_
      refine mV_iinc (y := (y1 + 1)) (L' := [.ref 119, .int (y1 + 1)]) f10_keepsAhead_81 rfl rfl (by decide) rfl rfl ?_
      refine mV_goto f10_keepsAhead_84 ?_
      exact ih (y1 + 1) z1 _ hr hk
set_option maxHeartbeats 4000000 in
set_option maxRecDepth 100000 in
theorem w10_keepsAhead (X : Nat × (Nat → Int32)) (I : mI) (s : Nat) (Q : mQ) {res : mI} (hr : r10_keepsAhead I = some res) (hQ : Q none NN KK res (PP s)) : mV X m10_keepsAhead 0 0 0 0 [.ref 119, mX0] [] NN KK I (PP s) Q := by
  unfold r10_keepsAhead at hr
  refine mV_aload f10_keepsAhead_0 rfl ?_
  refine mV_gI (I 119 3) f10_keepsAhead_1 (by decide) kk_119 rfl rfl ?_
  refine mV_push f10_keepsAhead_4 ?_
  obtain ⟨z0, hz0, hr⟩ := mBind hr
  have keyz0 : mV X m10_keepsAhead 0 0 0 53 [.ref 119, mX0] [] NN KK z0 (PP s) Q := by
    refine mV_push f10_keepsAhead_53 ?_
    refine mV_istore (L' := [.ref 119, .int 0]) f10_keepsAhead_54 (by decide) rfl rfl ?_
    obtain ⟨z2, hz2, hr⟩ := mBind hr
    refine t10_keepsAhead_55 X Q s FU 0 z0 _ hz2 ?_
    refine mV_aload f10_keepsAhead_87 rfl ?_
    refine mV_aload f10_keepsAhead_88 rfl ?_
    refine mV_gI (z2 119 3) f10_keepsAhead_89 (by decide) kk_119 rfl rfl ?_
    refine mV_push f10_keepsAhead_92 ?_
    refine mV_iadd f10_keepsAhead_93 ?_
    refine mV_putI f10_keepsAhead_94 (by decide) kk_119 rfl rfl ?_
    have hr := Option.some.inj hr; subst hr
    exact mV_vret rfl f10_keepsAhead_97 hQ
  clear hr
  have hr := hz0
  clear hz0
  refine mV_icmp_ne f10_keepsAhead_6 (fun h0 => ?_) (fun h0 => ?_)
  · rw [if_neg h0] at hr
    have hr := Option.some.inj hr; subst hr
    exact keyz0
  · rw [if_pos h0] at hr
    refine mV_aload f10_keepsAhead_9 rfl ?_
    refine mV_aload f10_keepsAhead_10 rfl ?_
    refine mV_gI (I 119 3) f10_keepsAhead_11 (by decide) kk_119 rfl rfl ?_
    refine mV_push f10_keepsAhead_14 ?_
    refine mV_isub f10_keepsAhead_15 ?_
    refine mV_putI f10_keepsAhead_16 (by decide) kk_119 rfl rfl ?_
    refine mV_push f10_keepsAhead_19 ?_
    refine mV_istore (L' := [.ref 119, .int 0]) f10_keepsAhead_20 (by decide) rfl rfl ?_
    obtain ⟨z1, hz1, hr⟩ := mBind hr
    refine t10_keepsAhead_21 X Q s FU 0 (mW I 119 3 (I 119 3 - 1)) _ hz1 ?_
    have hr := Option.some.inj hr; subst hr
    exact keyz0
theorem c10_keepsAhead (X : Nat × (Nat → Int32)) (I : mI) (s : Nat) {res : mI} (hr : r10_keepsAhead I = some res) : mC X m10_keepsAhead 0 0 0 [.ref 119] NN KK I (PP s) (mRet none NN KK res (PP s)) :=
  mC_of (L0 := [.ref 119, mX0]) rfl (Nat.le_of_ble_eq_true rfl) (w10_keepsAhead X I s _ hr (mRet_ok _ _ _ _ _))
def l10_undo_26 : Nat → Int32 → mI → Option (mI)
  | 0, _, _ => none
  | f + 1, y1, I => if (47 : Int32) ≤ (y1 : Int32) then some I else (mLd I 121 282 ((47 * I 119 3) + y1)).bind fun z0 => (mSto I 120 47 y1 z0).bind fun z1 => l10_undo_26 f (y1 + 1) z1
def r10_undo (I : mI) : Option (Int32 × mI) := if (I 119 3 : Int32) = (0 : Int32) then some (0, (mW I 119 0 0)) else (l10_undo_26 FU 0 (mW (mW I 119 0 0) 119 3 (I 119 3 - 1))).bind fun z0 => some (1, z0)
set_option maxHeartbeats 4000000 in
set_option maxRecDepth 100000 in
theorem t10_undo_26 (X : Nat × (Nat → Int32)) (Q : mQ) (s : Nat) : ∀ (f : Nat) (y1 : Int32) (I : mI) (z : mI), l10_undo_26 f y1 I = some z → mV X m10_undo 0 0 0 58 [.ref 119, mX0] [] NN KK z (PP s) Q → mV X m10_undo 0 0 0 26 [.ref 119, .int y1] [] NN KK I (PP s) Q := by
  intro f
  induction f with
  | zero => intro y1 I z hr hk; cases hr
  | succ f ih =>
    intro y1 I z hr hk
    unfold l10_undo_26 at hr
    refine mV_iload f10_undo_26 rfl ?_
    refine mV_push f10_undo_27 ?_
    refine mV_icmp_ge f10_undo_29 (fun h0 => ?_) (fun h0 => ?_)
    · rw [if_pos h0] at hr
      have hr := Option.some.inj hr; subst hr
      refine mV_drop (L' := [.ref 119, mX0]) (mSub_k (mSub_x mSub_n)) ?_
      exact hk
    · rw [if_neg h0] at hr
      refine mV_aload f10_undo_32 rfl ?_
      refine mV_getP f10_undo_33 (by decide) kk_119 rfl (pp_119_1 _) ?_
      refine mV_iload f10_undo_36 rfl ?_
      refine mV_aload f10_undo_37 rfl ?_
      refine mV_getP f10_undo_38 (by decide) kk_119 rfl (pp_119_2 _) ?_
      refine mV_push f10_undo_41 ?_
      refine mV_aload f10_undo_43 rfl ?_
      refine mV_gI (I 119 3) f10_undo_44 (by decide) kk_119 rfl rfl ?_
      refine mV_imul f10_undo_47 ?_
      refine mV_iload f10_undo_48 rfl ?_
      refine mV_iadd f10_undo_49 ?_
      obtain ⟨z0, hz0, hr⟩ := mBind hr
      refine mV_ldO f10_undo_50 (by decide) kk_121 hz0 ?_
      obtain ⟨z1, hz1, hr⟩ := mBind hr
      refine mV_stO f10_undo_51 (by decide) kk_120 hz1 ?_
      refine mV_iinc (y := (y1 + 1)) (L' := [.ref 119, .int (y1 + 1)]) f10_undo_52 rfl rfl (by decide) rfl rfl ?_
      refine mV_goto f10_undo_55 ?_
      exact ih (y1 + 1) z1 _ hr hk
set_option maxHeartbeats 4000000 in
set_option maxRecDepth 100000 in
theorem w10_undo (X : Nat × (Nat → Int32)) (I : mI) (s : Nat) (Q : mQ) {res : Int32 × mI} (hr : r10_undo I = some res) (hQ : Q (some (.int res.1)) NN KK res.2 (PP s)) : mV X m10_undo 0 0 0 0 [.ref 119, mX0] [] NN KK I (PP s) Q := by
  unfold r10_undo at hr
  refine mV_aload f10_undo_0 rfl ?_
  refine mV_push f10_undo_1 ?_
  refine mV_putI f10_undo_2 (by decide) kk_119 rfl rfl ?_
  refine mV_aload f10_undo_5 rfl ?_
  refine mV_gI (I 119 3) f10_undo_6 (by decide) kk_119 rfl rfl ?_
  refine mV_if_ne f10_undo_9 (fun h0 => ?_) (fun h0 => ?_)
  · rw [if_neg h0] at hr
    refine mV_aload f10_undo_14 rfl ?_
    refine mV_aload f10_undo_15 rfl ?_
    refine mV_gI (I 119 3) f10_undo_16 (by decide) kk_119 rfl rfl ?_
    refine mV_push f10_undo_19 ?_
    refine mV_isub f10_undo_20 ?_
    refine mV_putI f10_undo_21 (by decide) kk_119 rfl rfl ?_
    refine mV_push f10_undo_24 ?_
    refine mV_istore (L' := [.ref 119, .int 0]) f10_undo_25 (by decide) rfl rfl ?_
    obtain ⟨z0, hz0, hr⟩ := mBind hr
    refine t10_undo_26 X Q s FU 0 (mW (mW I 119 0 0) 119 3 (I 119 3 - 1)) _ hz0 ?_
    refine mV_push f10_undo_58 ?_
    have hr := Option.some.inj hr; subst hr
    exact mV_iret rfl rfl f10_undo_59 hQ
  · rw [if_pos h0] at hr
    refine mV_push f10_undo_12 ?_
    have hr := Option.some.inj hr; subst hr
    exact mV_iret rfl rfl f10_undo_13 hQ
theorem c10_undo (X : Nat × (Nat → Int32)) (I : mI) (s : Nat) {res : Int32 × mI} (hr : r10_undo I = some res) : mC X m10_undo 0 0 0 [.ref 119] NN KK I (PP s) (mRet (some (.int res.1)) NN KK res.2 (PP s)) :=
  mC_of (L0 := [.ref 119, mX0]) rfl (Nat.le_of_ble_eq_true rfl) (w10_undo X I s _ hr (mRet_ok _ _ _ _ _))
def l10_thinks_2 : Nat → Int32 → mI → Option (mI)
  | 0, _, _ => none
  | f + 1, y1, I => if (47 : Int32) ≤ (y1 : Int32) then some I else (mLd I 120 47 y1).bind fun z0 => (mSto I 122 47 y1 z0).bind fun z1 => l10_thinks_2 f (y1 + 1) z1
def r10_thinks (I : mI) : Option (mI) := (l10_thinks_2 FU 0 I).bind fun z0 => some (mW z0 119 5 1)
set_option maxHeartbeats 4000000 in
set_option maxRecDepth 100000 in
theorem t10_thinks_2 (X : Nat × (Nat → Int32)) (Q : mQ) (s : Nat) : ∀ (f : Nat) (y1 : Int32) (I : mI) (z : mI), l10_thinks_2 f y1 I = some z → mV X m10_thinks 0 0 0 26 [.ref 119, mX0] [] NN KK z (PP s) Q → mV X m10_thinks 0 0 0 2 [.ref 119, .int y1] [] NN KK I (PP s) Q := by
  intro f
  induction f with
  | zero => intro y1 I z hr hk; cases hr
  | succ f ih =>
    intro y1 I z hr hk
    unfold l10_thinks_2 at hr
    refine mV_iload f10_thinks_2 rfl ?_
    refine mV_push f10_thinks_3 ?_
    refine mV_icmp_ge f10_thinks_5 (fun h0 => ?_) (fun h0 => ?_)
    · rw [if_pos h0] at hr
      have hr := Option.some.inj hr; subst hr
      refine mV_drop (L' := [.ref 119, mX0]) (mSub_k (mSub_x mSub_n)) ?_
      exact hk
    · rw [if_neg h0] at hr
      refine mV_aload f10_thinks_8 rfl ?_
      refine mV_getP f10_thinks_9 (by decide) kk_119 rfl (pp_119_4 _) ?_
      refine mV_iload f10_thinks_12 rfl ?_
      refine mV_aload f10_thinks_13 rfl ?_
      refine mV_getP f10_thinks_14 (by decide) kk_119 rfl (pp_119_1 _) ?_
      refine mV_iload f10_thinks_17 rfl ?_
      obtain ⟨z0, hz0, hr⟩ := mBind hr
      refine mV_ldO f10_thinks_18 (by decide) kk_120 hz0 ?_
      obtain ⟨z1, hz1, hr⟩ := mBind hr
      refine mV_stO f10_thinks_19 (by decide) kk_122 hz1 ?_
      refine mV_iinc (y := (y1 + 1)) (L' := [.ref 119, .int (y1 + 1)]) f10_thinks_20 rfl rfl (by decide) rfl rfl ?_
      refine mV_goto f10_thinks_23 ?_
      exact ih (y1 + 1) z1 _ hr hk
set_option maxHeartbeats 4000000 in
set_option maxRecDepth 100000 in
theorem w10_thinks (X : Nat × (Nat → Int32)) (I : mI) (s : Nat) (Q : mQ) {res : mI} (hr : r10_thinks I = some res) (hQ : Q none NN KK res (PP s)) : mV X m10_thinks 0 0 0 0 [.ref 119, mX0] [] NN KK I (PP s) Q := by
  unfold r10_thinks at hr
  refine mV_push f10_thinks_0 ?_
  refine mV_istore (L' := [.ref 119, .int 0]) f10_thinks_1 (by decide) rfl rfl ?_
  obtain ⟨z0, hz0, hr⟩ := mBind hr
  refine t10_thinks_2 X Q s FU 0 I _ hz0 ?_
  refine mV_aload f10_thinks_26 rfl ?_
  refine mV_push f10_thinks_27 ?_
  refine mV_putI f10_thinks_28 (by decide) kk_119 rfl rfl ?_
  have hr := Option.some.inj hr; subst hr
  exact mV_vret rfl f10_thinks_31 hQ
theorem c10_thinks (X : Nat × (Nat → Int32)) (I : mI) (s : Nat) {res : mI} (hr : r10_thinks I = some res) : mC X m10_thinks 0 0 0 [.ref 119] NN KK I (PP s) (mRet none NN KK res (PP s)) :=
  mC_of (L0 := [.ref 119, mX0]) rfl (Nat.le_of_ble_eq_true rfl) (w10_thinks X I s _ hr (mRet_ok _ _ _ _ _))

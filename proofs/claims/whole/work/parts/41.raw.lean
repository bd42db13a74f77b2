def r10_errs (I : mI) (x0 : Int32) : Option (Int32 × mI) := some ((-1), (mW (mW I 119 33 x0) 119 34 (I 119 17)))
set_option maxHeartbeats 4000000 in
set_option maxRecDepth 100000 in
theorem w10_errs (X : Nat × (Nat → Int32)) (I : mI) (s : Nat) (x0 : Int32) (Q : mQ) {res : Int32 × mI} (hr : r10_errs I x0 = some res) (hQ : Q (some (.int res.1)) NN KK res.2 (PP s)) : mV X m10_errs 0 0 0 0 [.ref 119, .int x0] [] NN KK I (PP s) Q := by
  unfold r10_errs at hr
  refine mV_aload f10_errs_0 rfl ?_
  refine mV_iload f10_errs_1 rfl ?_
  refine mV_putI f10_errs_2 (by decide) kk_119 rfl rfl ?_
  refine mV_aload f10_errs_5 rfl ?_
  refine mV_aload f10_errs_6 rfl ?_
  refine mV_gI (I 119 17) f10_errs_7 (by decide) kk_119 rfl rfl ?_
  refine mV_putI f10_errs_10 (by decide) kk_119 rfl rfl ?_
  refine mV_push f10_errs_13 ?_
  have hr := Option.some.inj hr; subst hr
  exact mV_iret rfl rfl f10_errs_14 hQ
theorem c10_errs (X : Nat × (Nat → Int32)) (I : mI) (s : Nat) (x0 : Int32) {res : Int32 × mI} (hr : r10_errs I x0 = some res) : mC X m10_errs 0 0 0 [.ref 119, .int x0] NN KK I (PP s) (mRet (some (.int res.1)) NN KK res.2 (PP s)) :=
  mC_of (L0 := [.ref 119, .int x0]) rfl (Nat.le_of_ble_eq_true rfl) (w10_errs X I s x0 _ hr (mRet_ok _ _ _ _ _))
def r10_isWord (I : mI) (x0 : Int32) : Int32 := if (I 119 18 : Int32) = (2 : Int32) then if (I 119 19 : Int32) = (x0 : Int32) then 1 else 0 else 0
set_option maxHeartbeats 4000000 in
set_option maxRecDepth 100000 in
theorem w10_isWord (X : Nat × (Nat → Int32)) (I : mI) (s : Nat) (x0 : Int32) (Q : mQ) {res : Int32} (hr : r10_isWord I x0 = res) (hQ : Q (some (.int res)) NN KK I (PP s)) : mV X m10_isWord 0 0 0 0 [.ref 119, .int x0] [] NN KK I (PP s) Q := by
  unfold r10_isWord at hr
  refine mV_aload f10_isWord_0 rfl ?_
  refine mV_gI (I 119 18) f10_isWord_1 (by decide) kk_119 rfl rfl ?_
  refine mV_push f10_isWord_4 ?_
  refine mV_icmp_ne f10_isWord_5 (fun h0 => ?_) (fun h0 => ?_)
  · rw [if_neg h0] at hr
    refine mV_push f10_isWord_20 ?_
    subst hr
    exact mV_iret rfl rfl f10_isWord_21 hQ
  · rw [if_pos h0] at hr
    refine mV_aload f10_isWord_8 rfl ?_
    refine mV_gI (I 119 19) f10_isWord_9 (by decide) kk_119 rfl rfl ?_
    refine mV_iload f10_isWord_12 rfl ?_
    refine mV_icmp_ne f10_isWord_13 (fun h1 => ?_) (fun h1 => ?_)
    · rw [if_neg h1] at hr
      refine mV_push f10_isWord_20 ?_
      subst hr
      exact mV_iret rfl rfl f10_isWord_21 hQ
    · rw [if_pos h1] at hr
      refine mV_push f10_isWord_16 ?_
      refine mV_goto f10_isWord_17 ?_
      subst hr
      exact mV_iret rfl rfl f10_isWord_21 hQ
theorem c10_isWord (X : Nat × (Nat → Int32)) (I : mI) (s : Nat) (x0 : Int32) {res : Int32} (hr : r10_isWord I x0 = res) : mC X m10_isWord 0 0 0 [.ref 119, .int x0] NN KK I (PP s) (mRet (some (.int res)) NN KK I (PP s)) :=
  mC_of (L0 := [.ref 119, .int x0]) rfl (Nat.le_of_ble_eq_true rfl) (w10_isWord X I s x0 _ hr (mRet_ok _ _ _ _ _))
def r10_isSign (I : mI) (x0 : Int32) : Int32 := if (I 119 18 : Int32) = (4 : Int32) then if (I 119 19 : Int32) = (x0 : Int32) then 1 else 0 else 0
set_option maxHeartbeats 4000000 in
set_option maxRecDepth 100000 in
theorem w10_isSign (X : Nat × (Nat → Int32)) (I : mI) (s : Nat) (x0 : Int32) (Q : mQ) {res : Int32} (hr : r10_isSign I x0 = res) (hQ : Q (some (.int res)) NN KK I (PP s)) : mV X m10_isSign 0 0 0 0 [.ref 119, .int x0] [] NN KK I (PP s) Q := by
  unfold r10_isSign at hr
  refine mV_aload f10_isSign_0 rfl ?_
  refine mV_gI (I 119 18) f10_isSign_1 (by decide) kk_119 rfl rfl ?_
  refine mV_push f10_isSign_4 ?_
  refine mV_icmp_ne f10_isSign_5 (fun h0 => ?_) (fun h0 => ?_)
  · rw [if_neg h0] at hr
    refine mV_push f10_isSign_20 ?_
    subst hr
    exact mV_iret rfl rfl f10_isSign_21 hQ
  · rw [if_pos h0] at hr
    refine mV_aload f10_isSign_8 rfl ?_
    refine mV_gI (I 119 19) f10_isSign_9 (by decide) kk_119 rfl rfl ?_
    refine mV_iload f10_isSign_12 rfl ?_
    refine mV_icmp_ne f10_isSign_13 (fun h1 => ?_) (fun h1 => ?_)
    · rw [if_neg h1] at hr
      refine mV_push f10_isSign_20 ?_
      subst hr
      exact mV_iret rfl rfl f10_isSign_21 hQ
    · rw [if_pos h1] at hr
      refine mV_push f10_isSign_16 ?_
      refine mV_goto f10_isSign_17 ?_
      subst hr
      exact mV_iret rfl rfl f10_isSign_21 hQ
theorem c10_isSign (X : Nat × (Nat → Int32)) (I : mI) (s : Nat) (x0 : Int32) {res : Int32} (hr : r10_isSign I x0 = res) : mC X m10_isSign 0 0 0 [.ref 119, .int x0] NN KK I (PP s) (mRet (some (.int res)) NN KK I (PP s)) :=
  mC_of (L0 := [.ref 119, .int x0]) rfl (Nat.le_of_ble_eq_true rfl) (w10_isSign X I s x0 _ hr (mRet_ok _ _ _ _ _))
def r10_emits (I : mI) (x0 : Int32) (x1 : Int32) : Option (mI) := (mSto I 136 1200 (800 + I 119 29) x0).bind fun z0 => (mSto z0 137 1200 (800 + z0 119 29) x1).bind fun z1 => some (mW z1 119 29 (z1 119 29 + 1))
set_option maxHeartbeats 4000000 in
set_option maxRecDepth 100000 in
theorem w10_emits (X : Nat × (Nat → Int32)) (I : mI) (s : Nat) (x0 : Int32) (x1 : Int32) (Q : mQ) {res : mI} (hr : r10_emits I x0 x1 = some res) (hQ : Q none NN KK res (PP s)) : mV X m10_emits 0 0 0 0 [.ref 119, .int x0, .int x1] [] NN KK I (PP s) Q := by
  unfold r10_emits at hr
  refine mV_aload f10_emits_0 rfl ?_
  refine mV_getP f10_emits_1 (by decide) kk_119 rfl (pp_119_26 _) ?_
  refine mV_push f10_emits_4 ?_
  refine mV_aload f10_emits_7 rfl ?_
  refine mV_gI (I 119 29) f10_emits_8 (by decide) kk_119 rfl rfl ?_
  refine mV_iadd f10_emits_11 ?_
  refine mV_iload f10_emits_12 rfl ?_
  obtain ⟨z0, hz0, hr⟩ := mBind hr
  refine mV_stO f10_emits_13 (by decide) kk_136 hz0 ?_
  refine mV_aload f10_emits_14 rfl ?_
  refine mV_getP f10_emits_15 (by decide) kk_119 rfl (pp_119_27 _) ?_
  refine mV_push f10_emits_18 ?_
  refine mV_aload f10_emits_21 rfl ?_
  refine mV_gI (z0 119 29) f10_emits_22 (by decide) kk_119 rfl rfl ?_
  refine mV_iadd f10_emits_25 ?_
  refine mV_iload f10_emits_26 rfl ?_
  obtain ⟨z1, hz1, hr⟩ := mBind hr
  refine mV_stO f10_emits_27 (by decide) kk_137 hz1 ?_
  refine mV_aload f10_emits_28 rfl ?_
  refine mV_aload f10_emits_29 rfl ?_
  refine mV_gI (z1 119 29) f10_emits_30 (by decide) kk_119 rfl rfl ?_
  refine mV_push f10_emits_33 ?_
  refine mV_iadd f10_emits_34 ?_
  refine mV_putI f10_emits_35 (by decide) kk_119 rfl rfl ?_
  have hr := Option.some.inj hr; subst hr
  exact mV_vret rfl f10_emits_38 hQ
theorem c10_emits (X : Nat × (Nat → Int32)) (I : mI) (s : Nat) (x0 : Int32) (x1 : Int32) {res : mI} (hr : r10_emits I x0 x1 = some res) : mC X m10_emits 0 0 0 [.ref 119, .int x0, .int x1] NN KK I (PP s) (mRet none NN KK res (PP s)) :=
  mC_of (L0 := [.ref 119, .int x0, .int x1]) rfl (Nat.le_of_ble_eq_true rfl) (w10_emits X I s x0 x1 _ hr (mRet_ok _ _ _ _ _))
def r10_canAsk (x0 : Int32) : Int32 := ((r10_isIn x0 7 18) &&& 1)
set_option maxHeartbeats 4000000 in
set_option maxRecDepth 100000 in
theorem w10_canAsk (X : Nat × (Nat → Int32)) (I : mI) (s : Nat) (x0 : Int32) (Q : mQ) {res : Int32} (hr : r10_canAsk x0 = res) (hQ : Q (some (.int res)) NN KK I (PP s)) : mV X m10_canAsk 1 0 0 0 [.ref 119, .int x0] [] NN KK I (PP s) Q := by
  unfold r10_canAsk at hr
  refine mV_aload f10_canAsk_0 rfl ?_
  refine mV_iload f10_canAsk_1 rfl ?_
  refine mV_push f10_canAsk_2 ?_
  refine mV_push f10_canAsk_4 ?_
  refine mV_cV f10_canAsk_6 tg_m10_isIn mCls10 (by decide) kk_119 (mC_deep (c10_isIn X I s x0 7 18 rfl) (by decide)) rfl rfl (Nat.le_of_ble_eq_true rfl) ?_
  subst hr
  exact mV_zret rfl f10_canAsk_9 hQ
theorem c10_canAsk (X : Nat × (Nat → Int32)) (I : mI) (s : Nat) (x0 : Int32) {res : Int32} (hr : r10_canAsk x0 = res) : mC X m10_canAsk 1 0 0 [.ref 119, .int x0] NN KK I (PP s) (mRet (some (.int res)) NN KK I (PP s)) :=
  mC_of (L0 := [.ref 119, .int x0]) rfl (Nat.le_of_ble_eq_true rfl) (w10_canAsk X I s x0 _ hr (mRet_ok _ _ _ _ _))
def r10_readUnit (I : mI) : Option (Int32 × mI) := (if (I 119 18 : Int32) = (2 : Int32) then if ((r10_canAsk (I 119 19)) : Int32) = (0 : Int32) then some 0 else some 1 else some 0 : Option (Int32)).bind fun z0 => if (z0 : Int32) = (0 : Int32) then if (I 119 18 : Int32) = (3 : Int32) then (if (z0 : Int32) = (0 : Int32) then some 0 else some 1 : Option (Int32)).bind fun z5 => (if (z0 : Int32) = (0 : Int32) then some (I 119 19) else some (I 119 19 - 7) : Option (Int32)).bind fun z6 => (r10_emits I z5 z6).bind fun z7 => (r10_reads z7).bind fun z8 => some (0, z8) else (r10_errs I 1).bind fun z9 => some (z9.1, z9.2) else (if (z0 : Int32) = (0 : Int32) then some 0 else some 1 : Option (Int32)).bind fun z1 => (if (z0 : Int32) = (0 : Int32) then some (I 119 19) else some (I 119 19 - 7) : Option (Int32)).bind fun z2 => (r10_emits I z1 z2).bind fun z3 => (r10_reads z3).bind fun z4 => some (0, z4)
set_option maxHeartbeats 4000000 in
set_option maxRecDepth 100000 in
theorem w10_readUnit (X : Nat × (Nat → Int32)) (I : mI) (s : Nat) (Q : mQ) {res : Int32 × mI} (hr : r10_readUnit I = some res) (hQ : Q (some (.int res.1)) NN KK res.2 (PP s)) : mV X m10_readUnit 3 0 0 0 [.ref 119, mX0] [] NN KK I (PP s) Q := by
  unfold r10_readUnit at hr
  refine mV_aload f10_readUnit_0 rfl ?_
  refine mV_gI (I 119 18) f10_readUnit_1 (by decide) kk_119 rfl rfl ?_
  refine mV_push f10_readUnit_4 ?_
  obtain ⟨z0, hz0, hr⟩ := mBind hr
  have keyz0 : mV X m10_readUnit 3 0 0 24 [.ref 119, mX0] [.int z0] NN KK I (PP s) Q := by
    refine mV_istore (L' := [.ref 119, .int z0]) f10_readUnit_24 (by decide) rfl rfl ?_
    refine mV_iload f10_readUnit_25 rfl ?_
    refine mV_if_ne f10_readUnit_26 (fun h2 => ?_) (fun h2 => ?_)
    · rw [if_neg h2] at hr
      refine mV_aload f10_readUnit_43 rfl ?_
      refine mV_iload f10_readUnit_44 rfl ?_
      obtain ⟨z1, hz1, hr⟩ := mBind hr
      have keyz1 : mV X m10_readUnit 3 0 0 53 [.ref 119, .int z0] [.int z1, .ref 119] NN KK I (PP s) Q := by
        refine mV_iload f10_readUnit_53 rfl ?_
        obtain ⟨z2, hz2, hr⟩ := mBind hr
        have keyz2 : mV X m10_readUnit 3 0 0 71 [.ref 119, mX0] [.int z2, .int z1, .ref 119] NN KK I (PP s) Q := by
          obtain ⟨z3, hz3, hr⟩ := mBind hr
          refine mV_cV f10_readUnit_71 tg_m10_emits mCls10 (by decide) kk_119 (mC_deep (c10_emits X I s z1 z2 hz3) (by decide)) rfl rfl (Nat.le_of_ble_eq_true rfl) ?_
          refine mV_aload f10_readUnit_74 rfl ?_
          obtain ⟨z4, hz4, hr⟩ := mBind hr
          refine mV_cV f10_readUnit_75 tg_m10_reads mCls10 (by decide) kk_119 (mC_deep (c10_reads X z3 s hz4) (by decide)) rfl rfl (Nat.le_of_ble_eq_true rfl) ?_
          refine mV_push f10_readUnit_78 ?_
          have hr := Option.some.inj hr; subst hr
          exact mV_iret rfl rfl f10_readUnit_79 hQ
        clear hr
        have hr := hz2
        clear hz2
        refine mV_if_eq f10_readUnit_54 (fun h4 => ?_) (fun h4 => ?_)
        · rw [if_pos h4] at hr
          refine mV_aload f10_readUnit_67 rfl ?_
          refine mV_gI (I 119 19) f10_readUnit_68 (by decide) kk_119 rfl rfl ?_
          have hr := Option.some.inj hr; subst hr
          refine mV_drop (L' := [.ref 119, mX0]) (mSub_k (mSub_x mSub_n)) ?_
          exact keyz2
        · rw [if_neg h4] at hr
          refine mV_aload f10_readUnit_57 rfl ?_
          refine mV_gI (I 119 19) f10_readUnit_58 (by decide) kk_119 rfl rfl ?_
          refine mV_push f10_readUnit_61 ?_
          refine mV_isub f10_readUnit_63 ?_
          refine mV_goto f10_readUnit_64 ?_
          have hr := Option.some.inj hr; subst hr
          refine mV_drop (L' := [.ref 119, mX0]) (mSub_k (mSub_x mSub_n)) ?_
          exact keyz2
      clear hr
      have hr := hz1
      clear hz1
      refine mV_if_eq f10_readUnit_45 (fun h3 => ?_) (fun h3 => ?_)
      · rw [if_pos h3] at hr
        refine mV_push f10_readUnit_52 ?_
        have hr := Option.some.inj hr; subst hr
        exact keyz1
      · rw [if_neg h3] at hr
        refine mV_push f10_readUnit_48 ?_
        refine mV_goto f10_readUnit_49 ?_
        have hr := Option.some.inj hr; subst hr
        exact keyz1
    · rw [if_pos h2] at hr
      refine mV_aload f10_readUnit_29 rfl ?_
      refine mV_gI (I 119 18) f10_readUnit_30 (by decide) kk_119 rfl rfl ?_
      refine mV_push f10_readUnit_33 ?_
      refine mV_icmp_eq f10_readUnit_34 (fun h5 => ?_) (fun h5 => ?_)
      · rw [if_pos h5] at hr
        refine mV_aload f10_readUnit_43 rfl ?_
        refine mV_iload f10_readUnit_44 rfl ?_
        obtain ⟨z5, hz5, hr⟩ := mBind hr
        have keyz5 : mV X m10_readUnit 3 0 0 53 [.ref 119, .int z0] [.int z5, .ref 119] NN KK I (PP s) Q := by
          refine mV_iload f10_readUnit_53 rfl ?_
          obtain ⟨z6, hz6, hr⟩ := mBind hr
          have keyz6 : mV X m10_readUnit 3 0 0 71 [.ref 119, mX0] [.int z6, .int z5, .ref 119] NN KK I (PP s) Q := by
            obtain ⟨z7, hz7, hr⟩ := mBind hr
            refine mV_cV f10_readUnit_71 tg_m10_emits mCls10 (by decide) kk_119 (mC_deep (c10_emits X I s z5 z6 hz7) (by decide)) rfl rfl (Nat.le_of_ble_eq_true rfl) ?_
            refine mV_aload f10_readUnit_74 rfl ?_
            obtain ⟨z8, hz8, hr⟩ := mBind hr
            refine mV_cV f10_readUnit_75 tg_m10_reads mCls10 (by decide) kk_119 (mC_deep (c10_reads X z7 s hz8) (by decide)) rfl rfl (Nat.le_of_ble_eq_true rfl) ?_
            refine mV_push f10_readUnit_78 ?_
            have hr := Option.some.inj hr; subst hr
            exact mV_iret rfl rfl f10_readUnit_79 hQ
          clear hr
          have hr := hz6
          clear hz6
          refine mV_if_eq f10_readUnit_54 (fun h7 => ?_) (fun h7 => ?_)
          · rw [if_pos h7] at hr
            refine mV_aload f10_readUnit_67 rfl ?_
            refine mV_gI (I 119 19) f10_readUnit_68 (by decide) kk_119 rfl rfl ?_
            have hr := Option.some.inj hr; subst hr
            refine mV_drop (L' := [.ref 119, mX0]) (mSub_k (mSub_x mSub_n)) ?_
            exact keyz6
          · rw [if_neg h7] at hr
            refine mV_aload f10_readUnit_57 rfl ?_
            refine mV_gI (I 119 19) f10_readUnit_58 (by decide) kk_119 rfl rfl ?_
            refine mV_push f10_readUnit_61 ?_
            refine mV_isub f10_readUnit_63 ?_
            refine mV_goto f10_readUnit_64 ?_
            have hr := Option.some.inj hr; subst hr
            refine mV_drop (L' := [.ref 119, mX0]) (mSub_k (mSub_x mSub_n)) ?_
            exact keyz6
        clear hr
        have hr := hz5
        clear hz5
        refine mV_if_eq f10_readUnit_45 (fun h6 => ?_) (fun h6 => ?_)
        · rw [if_pos h6] at hr
          refine mV_push f10_readUnit_52 ?_
          have hr := Option.some.inj hr; subst hr
          exact keyz5
        · rw [if_neg h6] at hr
          refine mV_push f10_readUnit_48 ?_
          refine mV_goto f10_readUnit_49 ?_
          have hr := Option.some.inj hr; subst hr
          exact keyz5
      · rw [if_neg h5] at hr
        refine mV_aload f10_readUnit_37 rfl ?_
        refine mV_push f10_readUnit_38 ?_
        obtain ⟨z9, hz9, hr⟩ := mBind hr
        refine mV_cV f10_readUnit_39 tg_m10_errs mCls10 (by decide) kk_119 (mC_deep (c10_errs X I s 1 hz9) (by decide)) rfl rfl (Nat.le_of_ble_eq_true rfl) ?_
        have hr := Option.some.inj hr; subst hr
        exact mV_iret rfl rfl f10_readUnit_42 hQ
  clear hr
  have hr := hz0
  clear hz0
  refine mV_icmp_ne f10_readUnit_5 (fun h0 => ?_) (fun h0 => ?_)
  · rw [if_neg h0] at hr
    refine mV_push f10_readUnit_23 ?_
    have hr := Option.some.inj hr; subst hr
    exact keyz0
  · rw [if_pos h0] at hr
    refine mV_aload f10_readUnit_8 rfl ?_
    refine mV_aload f10_readUnit_9 rfl ?_
    refine mV_gI (I 119 19) f10_readUnit_10 (by decide) kk_119 rfl rfl ?_
    refine mV_cV f10_readUnit_13 tg_m10_canAsk mCls10 (by decide) kk_119 (mC_deep (c10_canAsk X I s (I 119 19) rfl) (by decide)) rfl rfl (Nat.le_of_ble_eq_true rfl) ?_
    refine mV_if_eq f10_readUnit_16 (fun h1 => ?_) (fun h1 => ?_)
    · rw [if_pos h1] at hr
      refine mV_push f10_readUnit_23 ?_
      have hr := Option.some.inj hr; subst hr
      exact keyz0
    · rw [if_neg h1] at hr
      refine mV_push f10_readUnit_19 ?_
      refine mV_goto f10_readUnit_20 ?_
      have hr := Option.some.inj hr; subst hr
      exact keyz0
theorem c10_readUnit (X : Nat × (Nat → Int32)) (I : mI) (s : Nat) {res : Int32 × mI} (hr : r10_readUnit I = some res) : mC X m10_readUnit 3 0 0 [.ref 119] NN KK I (PP s) (mRet (some (.int res.1)) NN KK res.2 (PP s)) :=
  mC_of (L0 := [.ref 119, mX0]) rfl (Nat.le_of_ble_eq_true rfl) (w10_readUnit X I s _ hr (mRet_ok _ _ _ _ _))
def l10_readProduct_10 : Nat → mI → Option ((Int32 × mI) ⊕ (mI))
  | 0, _ => none
  | f + 1, I => if ((r10_isSign I 42) : Int32) = (0 : Int32) then if ((r10_isSign I 47) : Int32) = (0 : Int32) then some (.inr I) else (r10_reads I).bind fun z16 => if ((r10_isSign I 42) : Int32) = (0 : Int32) then if (z16 119 18 : Int32) = (3 : Int32) then if ((r10_isSign I 42) : Int32) = (0 : Int32) then if (z16 119 19 : Int32) = (0 : Int32) then (r10_errs z16 2).bind fun z30 => some (.inl (z30.1, z30.2)) else (r10_readUnit z16).bind fun z27 => if (z27.1 : Int32) = ((-1) : Int32) then some (.inl ((-1), z27.2)) else (if ((r10_isSign I 42) : Int32) = (0 : Int32) then some 5 else some 4 : Option (Int32)).bind fun z28 => (r10_emits z27.2 z28 0).bind fun z29 => l10_readProduct_10 f z29 else (r10_readUnit z16).bind fun z24 => if (z24.1 : Int32) = ((-1) : Int32) then some (.inl ((-1), z24.2)) else (if ((r10_isSign I 42) : Int32) = (0 : Int32) then some 5 else some 4 : Option (Int32)).bind fun z25 => (r10_emits z24.2 z25 0).bind fun z26 => l10_readProduct_10 f z26 else (r10_errs z16 1).bind fun z31 => some (.inl (z31.1, z31.2)) else if ((r10_isSign I 42) : Int32) = (0 : Int32) then if (z16 119 19 : Int32) = (0 : Int32) then (r10_errs z16 2).bind fun z23 => some (.inl (z23.1, z23.2)) else (r10_readUnit z16).bind fun z20 => if (z20.1 : Int32) = ((-1) : Int32) then some (.inl ((-1), z20.2)) else (if ((r10_isSign I 42) : Int32) = (0 : Int32) then some 5 else some 4 : Option (Int32)).bind fun z21 => (r10_emits z20.2 z21 0).bind fun z22 => l10_readProduct_10 f z22 else (r10_readUnit z16).bind fun z17 => if (z17.1 : Int32) = ((-1) : Int32) then some (.inl ((-1), z17.2)) else (if ((r10_isSign I 42) : Int32) = (0 : Int32) then some 5 else some 4 : Option (Int32)).bind fun z18 => (r10_emits z17.2 z18 0).bind fun z19 => l10_readProduct_10 f z19 else (r10_reads I).bind fun z0 => if ((r10_isSign I 42) : Int32) = (0 : Int32) then if (z0 119 18 : Int32) = (3 : Int32) then if ((r10_isSign I 42) : Int32) = (0 : Int32) then if (z0 119 19 : Int32) = (0 : Int32) then (r10_errs z0 2).bind fun z14 => some (.inl (z14.1, z14.2)) else (r10_readUnit z0).bind fun z11 => if (z11.1 : Int32) = ((-1) : Int32) then some (.inl ((-1), z11.2)) else (if ((r10_isSign I 42) : Int32) = (0 : Int32) then some 5 else some 4 : Option (Int32)).bind fun z12 => (r10_emits z11.2 z12 0).bind fun z13 => l10_readProduct_10 f z13 else (r10_readUnit z0).bind fun z8 => if (z8.1 : Int32) = ((-1) : Int32) then some (.inl ((-1), z8.2)) else (if ((r10_isSign I 42) : Int32) = (0 : Int32) then some 5 else some 4 : Option (Int32)).bind fun z9 => (r10_emits z8.2 z9 0).bind fun z10 => l10_readProduct_10 f z10 else (r10_errs z0 1).bind fun z15 => some (.inl (z15.1, z15.2)) else if ((r10_isSign I 42) : Int32) = (0 : Int32) then if (z0 119 19 : Int32) = (0 : Int32) then (r10_errs z0 2).bind fun z7 => some (.inl (z7.1, z7.2)) else (r10_readUnit z0).bind fun z4 => if (z4.1 : Int32) = ((-1) : Int32) then some (.inl ((-1), z4.2)) else (if ((r10_isSign I 42) : Int32) = (0 : Int32) then some 5 else some 4 : Option (Int32)).bind fun z5 => (r10_emits z4.2 z5 0).bind fun z6 => l10_readProduct_10 f z6 else (r10_readUnit z0).bind fun z1 => if (z1.1 : Int32) = ((-1) : Int32) then some (.inl ((-1), z1.2)) else (if ((r10_isSign I 42) : Int32) = (0 : Int32) then some 5 else some 4 : Option (Int32)).bind fun z2 => (r10_emits z1.2 z2 0).bind fun z3 => l10_readProduct_10 f z3
def r10_readProduct (I : mI) : Option (Int32 × mI) := (r10_readUnit I).bind fun z0 => if (z0.1 : Int32) = ((-1) : Int32) then some ((-1), z0.2) else (l10_readProduct_10 FU z0.2).bind fun z1 => match z1 with | .inl rz1 => some rz1 | .inr wz1 => some (0, wz1)
set_option maxHeartbeats 4000000 in
set_option maxRecDepth 100000 in
theorem t10_readProduct_10 (X : Nat × (Nat → Int32)) (Q : mQ) (s : Nat) : ∀ (f : Nat) (I : mI) (z : (Int32 × mI) ⊕ (mI)), l10_readProduct_10 f I = some z → (∀ res, z = .inl res → Q (some (.int res.1)) NN KK res.2 (PP s)) → (∀ w, z = .inr w → mV X m10_readProduct 4 0 0 101 [.ref 119, mX0] [] NN KK w (PP s) Q) → mV X m10_readProduct 4 0 0 10 [.ref 119, mX0] [] NN KK I (PP s) Q := by
  intro f
  induction f with
  | zero => intro I z hr hret hk; cases hr
  | succ f ih =>
    intro I z hr hret hk
    unfold l10_readProduct_10 at hr
    refine mV_aload f10_readProduct_10 rfl ?_
    refine mV_push f10_readProduct_11 ?_
    refine mV_cV f10_readProduct_13 tg_m10_isSign mCls10 (by decide) kk_119 (mC_deep (c10_isSign X I s 42 rfl) (by decide)) rfl rfl (Nat.le_of_ble_eq_true rfl) ?_
    refine mV_if_ne f10_readProduct_16 (fun h0 => ?_) (fun h0 => ?_)
    · rw [if_neg h0] at hr
      refine mV_aload f10_readProduct_28 rfl ?_
      refine mV_push f10_readProduct_29 ?_
      refine mV_cV f10_readProduct_31 tg_m10_isSign mCls10 (by decide) kk_119 (mC_deep (c10_isSign X I s 42 rfl) (by decide)) rfl rfl (Nat.le_of_ble_eq_true rfl) ?_
      refine mV_istore (L' := [.ref 119, .int (r10_isSign I 42)]) f10_readProduct_34 (by decide) rfl rfl ?_
      refine mV_aload f10_readProduct_35 rfl ?_
      obtain ⟨z0, hz0, hr⟩ := mBind hr
      refine mV_cV f10_readProduct_36 tg_m10_reads mCls10 (by decide) kk_119 (mC_deep (c10_reads X I s hz0) (by decide)) rfl rfl (Nat.le_of_ble_eq_true rfl) ?_
      refine mV_iload f10_readProduct_39 rfl ?_
      refine mV_if_ne f10_readProduct_40 (fun h1 => ?_) (fun h1 => ?_)
      · rw [if_neg h1] at hr
        refine mV_iload f10_readProduct_57 rfl ?_
        refine mV_if_ne f10_readProduct_58 (fun h2 => ?_) (fun h2 => ?_)
        · rw [if_neg h2] at hr
          refine mV_aload f10_readProduct_74 rfl ?_
          obtain ⟨z1, hz1, hr⟩ := mBind hr
          refine mV_cV f10_readProduct_75 tg_m10_readUnit mCls10 (by decide) kk_119 (mC_deep (c10_readUnit X z0 s hz1) (by decide)) rfl rfl (Nat.le_of_ble_eq_true rfl) ?_
          refine mV_push f10_readProduct_78 ?_
          refine mV_icmp_ne f10_readProduct_79 (fun h3 => ?_) (fun h3 => ?_)
          · rw [if_neg h3] at hr
            refine mV_aload f10_readProduct_84 rfl ?_
            refine mV_iload f10_readProduct_85 rfl ?_
            obtain ⟨z2, hz2, hr⟩ := mBind hr
            have keyz2 : mV X m10_readProduct 4 0 0 94 [.ref 119, mX0] [.int z2, .ref 119] NN KK z1.2 (PP s) Q := by
              refine mV_push f10_readProduct_94 ?_
              obtain ⟨z3, hz3, hr⟩ := mBind hr
              refine mV_cV f10_readProduct_95 tg_m10_emits mCls10 (by decide) kk_119 (mC_deep (c10_emits X z1.2 s z2 0 hz3) (by decide)) rfl rfl (Nat.le_of_ble_eq_true rfl) ?_
              refine mV_goto f10_readProduct_98 ?_
              exact ih z3 _ hr hret hk
            clear hr
            have hr := hz2
            clear hz2
            refine mV_if_eq f10_readProduct_86 (fun h4 => ?_) (fun h4 => ?_)
            · rw [if_pos h4] at hr
              refine mV_push f10_readProduct_93 ?_
              have hr := Option.some.inj hr; subst hr
              refine mV_drop (L' := [.ref 119, mX0]) (mSub_k (mSub_x mSub_n)) ?_
              exact keyz2
            · rw [if_neg h4] at hr
              refine mV_push f10_readProduct_89 ?_
              refine mV_goto f10_readProduct_90 ?_
              have hr := Option.some.inj hr; subst hr
              refine mV_drop (L' := [.ref 119, mX0]) (mSub_k (mSub_x mSub_n)) ?_
              exact keyz2
          · rw [if_pos h3] at hr
            refine mV_push f10_readProduct_82 ?_
            have hr := Option.some.inj hr; subst hr; have hQ := hret _ rfl
            exact mV_iret rfl rfl f10_readProduct_83 hQ
        · rw [if_pos h2] at hr
          refine mV_aload f10_readProduct_61 rfl ?_
          refine mV_gI (z0 119 19) f10_readProduct_62 (by decide) kk_119 rfl rfl ?_
          refine mV_if_ne f10_readProduct_65 (fun h5 => ?_) (fun h5 => ?_)
          · rw [if_neg h5] at hr
            refine mV_aload f10_readProduct_74 rfl ?_
            obtain ⟨z4, hz4, hr⟩ := mBind hr
            refine mV_cV f10_readProduct_75 tg_m10_readUnit mCls10 (by decide) kk_119 (mC_deep (c10_readUnit X z0 s hz4) (by decide)) rfl rfl (Nat.le_of_ble_eq_true rfl) ?_
            refine mV_push f10_readProduct_78 ?_
            refine mV_icmp_ne f10_readProduct_79 (fun h6 => ?_) (fun h6 => ?_)
            · rw [if_neg h6] at hr
              refine mV_aload f10_readProduct_84 rfl ?_
              refine mV_iload f10_readProduct_85 rfl ?_
              obtain ⟨z5, hz5, hr⟩ := mBind hr
              have keyz5 : mV X m10_readProduct 4 0 0 94 [.ref 119, mX0] [.int z5, .ref 119] NN KK z4.2 (PP s) Q := by
                refine mV_push f10_readProduct_94 ?_
                obtain ⟨z6, hz6, hr⟩ := mBind hr
                refine mV_cV f10_readProduct_95 tg_m10_emits mCls10 (by decide) kk_119 (mC_deep (c10_emits X z4.2 s z5 0 hz6) (by decide)) rfl rfl (Nat.le_of_ble_eq_true rfl) ?_
                refine mV_goto f10_readProduct_98 ?_
                exact ih z6 _ hr hret hk
              clear hr
              have hr := hz5
              clear hz5
              refine mV_if_eq f10_readProduct_86 (fun h7 => ?_) (fun h7 => ?_)
              · rw [if_pos h7] at hr
                refine mV_push f10_readProduct_93 ?_
                have hr := Option.some.inj hr; subst hr
                refine mV_drop (L' := [.ref 119, mX0]) (mSub_k (mSub_x mSub_n)) ?_
                exact keyz5
              · rw [if_neg h7] at hr
                refine mV_push f10_readProduct_89 ?_
                refine mV_goto f10_readProduct_90 ?_
                have hr := Option.some.inj hr; subst hr
                refine mV_drop (L' := [.ref 119, mX0]) (mSub_k (mSub_x mSub_n)) ?_
                exact keyz5
            · rw [if_pos h6] at hr
              refine mV_push f10_readProduct_82 ?_
              have hr := Option.some.inj hr; subst hr; have hQ := hret _ rfl
              exact mV_iret rfl rfl f10_readProduct_83 hQ
          · rw [if_pos h5] at hr
            refine mV_aload f10_readProduct_68 rfl ?_
            refine mV_push f10_readProduct_69 ?_
            obtain ⟨z7, hz7, hr⟩ := mBind hr
            refine mV_cV f10_readProduct_70 tg_m10_errs mCls10 (by decide) kk_119 (mC_deep (c10_errs X z0 s 2 hz7) (by decide)) rfl rfl (Nat.le_of_ble_eq_true rfl) ?_
            have hr := Option.some.inj hr; subst hr; have hQ := hret _ rfl
            exact mV_iret rfl rfl f10_readProduct_73 hQ
      · rw [if_pos h1] at hr
        refine mV_aload f10_readProduct_43 rfl ?_
        refine mV_gI (z0 119 18) f10_readProduct_44 (by decide) kk_119 rfl rfl ?_
        refine mV_push f10_readProduct_47 ?_
        refine mV_icmp_eq f10_readProduct_48 (fun h8 => ?_) (fun h8 => ?_)
        · rw [if_pos h8] at hr
          refine mV_iload f10_readProduct_57 rfl ?_
          refine mV_if_ne f10_readProduct_58 (fun h9 => ?_) (fun h9 => ?_)
          · rw [if_neg h9] at hr
            refine mV_aload f10_readProduct_74 rfl ?_
            obtain ⟨z8, hz8, hr⟩ := mBind hr
            refine mV_cV f10_readProduct_75 tg_m10_readUnit mCls10 (by decide) kk_119 (mC_deep (c10_readUnit X z0 s hz8) (by decide)) rfl rfl (Nat.le_of_ble_eq_true rfl) ?_
            refine mV_push f10_readProduct_78 ?_
            refine mV_icmp_ne f10_readProduct_79 (fun h10 => ?_) (fun h10 => ?_)
            · rw [if_neg h10] at hr
              refine mV_aload f10_readProduct_84 rfl ?_
              refine mV_iload f10_readProduct_85 rfl ?_
              obtain ⟨z9, hz9, hr⟩ := mBind hr
              have keyz9 : mV X m10_readProduct 4 0 0 94 [.ref 119, mX0] [.int z9, .ref 119] NN KK z8.2 (PP s) Q := by
                refine mV_push f10_readProduct_94 ?_
                obtain ⟨z10, hz10, hr⟩ := mBind hr
                refine mV_cV f10_readProduct_95 tg_m10_emits mCls10 (by decide) kk_119 (mC_deep (c10_emits X z8.2 s z9 0 hz10) (by decide)) rfl rfl (Nat.le_of_ble_eq_true rfl) ?_
                refine mV_goto f10_readProduct_98 ?_
                exact ih z10 _ hr hret hk
              clear hr
              have hr := hz9
              clear hz9
              refine mV_if_eq f10_readProduct_86 (fun h11 => ?_) (fun h11 => ?_)
              · rw [if_pos h11] at hr
                refine mV_push f10_readProduct_93 ?_
                have hr := Option.some.inj hr; subst hr
                refine mV_drop (L' := [.ref 119, mX0]) (mSub_k (mSub_x mSub_n)) ?_
                exact keyz9
              · rw [if_neg h11] at hr
                refine mV_push f10_readProduct_89 ?_
                refine mV_goto f10_readProduct_90 ?_
                have hr := Option.some.inj hr; subst hr
                refine mV_drop (L' := [.ref 119, mX0]) (mSub_k (mSub_x mSub_n)) ?_
                exact keyz9
            · rw [if_pos h10] at hr
              refine mV_push f10_readProduct_82 ?_
              have hr := Option.some.inj hr; subst hr; have hQ := hret _ rfl
              exact mV_iret rfl rfl f10_readProduct_83 hQ
          · rw [if_pos h9] at hr
            refine mV_aload f10_readProduct_61 rfl ?_
            refine mV_gI (z0 119 19) f10_readProduct_62 (by decide) kk_119 rfl rfl ?_
            refine mV_if_ne f10_readProduct_65 (fun h12 => ?_) (fun h12 => ?_)
            · rw [if_neg h12] at hr
              refine mV_aload f10_readProduct_74 rfl ?_
              obtain ⟨z11, hz11, hr⟩ := mBind hr
              refine mV_cV f10_readProduct_75 tg_m10_readUnit mCls10 (by decide) kk_119 (mC_deep (c10_readUnit X z0 s hz11) (by decide)) rfl rfl (Nat.le_of_ble_eq_true rfl) ?_
              refine mV_push f10_readProduct_78 ?_
              refine mV_icmp_ne f10_readProduct_79 (fun h13 => ?_) (fun h13 => ?_)
              · rw [if_neg h13] at hr
                refine mV_aload f10_readProduct_84 rfl ?_
                refine mV_iload f10_readProduct_85 rfl ?_
                obtain ⟨z12, hz12, hr⟩ := mBind hr
                have keyz12 : mV X m10_readProduct 4 0 0 94 [.ref 119, mX0] [.int z12, .ref 119] NN KK z11.2 (PP s) Q := by
                  refine mV_push f10_readProduct_94 ?_
                  obtain ⟨z13, hz13, hr⟩ := mBind hr
                  refine mV_cV f10_readProduct_95 tg_m10_emits mCls10 (by decide) kk_119 (mC_deep (c10_emits X z11.2 s z12 0 hz13) (by decide)) rfl rfl (Nat.le_of_ble_eq_true rfl) ?_
                  refine mV_goto f10_readProduct_98 ?_
                  exact ih z13 _ hr hret hk
                clear hr
                have hr := hz12
                clear hz12
                refine mV_if_eq f10_readProduct_86 (fun h14 => ?_) (fun h14 => ?_)
                · rw [if_pos h14] at hr
                  refine mV_push f10_readProduct_93 ?_
                  have hr := Option.some.inj hr; subst hr
                  refine mV_drop (L' := [.ref 119, mX0]) (mSub_k (mSub_x mSub_n)) ?_
                  exact keyz12
                · rw [if_neg h14] at hr
                  refine mV_push f10_readProduct_89 ?_
                  refine mV_goto f10_readProduct_90 ?_
                  have hr := Option.some.inj hr; subst hr
                  refine mV_drop (L' := [.ref 119, mX0]) (mSub_k (mSub_x mSub_n)) ?_
                  exact keyz12
              · rw [if_pos h13] at hr
                refine mV_push f10_readProduct_82 ?_
                have hr := Option.some.inj hr; subst hr; have hQ := hret _ rfl
                exact mV_iret rfl rfl f10_readProduct_83 hQ
            · rw [if_pos h12] at hr
              refine mV_aload f10_readProduct_68 rfl ?_
              refine mV_push f10_readProduct_69 ?_
              obtain ⟨z14, hz14, hr⟩ := mBind hr
              refine mV_cV f10_readProduct_70 tg_m10_errs mCls10 (by decide) kk_119 (mC_deep (c10_errs X z0 s 2 hz14) (by decide)) rfl rfl (Nat.le_of_ble_eq_true rfl) ?_
              have hr := Option.some.inj hr; subst hr; have hQ := hret _ rfl
              exact mV_iret rfl rfl f10_readProduct_73 hQ
        · rw [if_neg h8] at hr
          refine mV_aload f10_readProduct_51 rfl ?_
          refine mV_push f10_readProduct_52 ?_
          obtain ⟨z15, hz15, hr⟩ := mBind hr
          refine mV_cV f10_readProduct_53 tg_m10_errs mCls10 (by decide) kk_119 (mC_deep (c10_errs X z0 s 1 hz15) (by decide)) rfl rfl (Nat.le_of_ble_eq_true rfl) ?_
          have hr := Option.some.inj hr; subst hr; have hQ := hret _ rfl
          exact mV_iret rfl rfl f10_readProduct_56 hQ
    · rw [if_pos h0] at hr
      refine mV_aload f10_readProduct_19 rfl ?_
      refine mV_push f10_readProduct_20 ?_
      refine mV_cV f10_readProduct_22 tg_m10_isSign mCls10 (by decide) kk_119 (mC_deep (c10_isSign X I s 47 rfl) (by decide)) rfl rfl (Nat.le_of_ble_eq_true rfl) ?_
      refine mV_if_eq f10_readProduct_25 (fun h15 => ?_) (fun h15 => ?_)
      · rw [if_pos h15] at hr
        have hr := Option.some.inj hr; subst hr
        exact hk _ rfl
      · rw [if_neg h15] at hr
        refine mV_aload f10_readProduct_28 rfl ?_
        refine mV_push f10_readProduct_29 ?_
        refine mV_cV f10_readProduct_31 tg_m10_isSign mCls10 (by decide) kk_119 (mC_deep (c10_isSign X I s 42 rfl) (by decide)) rfl rfl (Nat.le_of_ble_eq_true rfl) ?_
        refine mV_istore (L' := [.ref 119, .int (r10_isSign I 42)]) f10_readProduct_34 (by decide) rfl rfl ?_
        refine mV_aload f10_readProduct_35 rfl ?_
        obtain ⟨z16, hz16, hr⟩ := mBind hr
        refine mV_cV f10_readProduct_36 tg_m10_reads mCls10 (by decide) kk_119 (mC_deep (c10_reads X I s hz16) (by decide)) rfl rfl (Nat.le_of_ble_eq_true rfl) ?_
        refine mV_iload f10_readProduct_39 rfl ?_
        refine mV_if_ne f10_readProduct_40 (fun h16 => ?_) (fun h16 => ?_)
        · rw [if_neg h16] at hr
          refine mV_iload f10_readProduct_57 rfl ?_
          refine mV_if_ne f10_readProduct_58 (fun h17 => ?_) (fun h17 => ?_)
          · rw [if_neg h17] at hr
            refine mV_aload f10_readProduct_74 rfl ?_
            obtain ⟨z17, hz17, hr⟩ := mBind hr
            refine mV_cV f10_readProduct_75 tg_m10_readUnit mCls10 (by decide) kk_119 (mC_deep (c10_readUnit X z16 s hz17) (by decide)) rfl rfl (Nat.le_of_ble_eq_true rfl) ?_
            refine mV_push f10_readProduct_78 ?_
            refine mV_icmp_ne f10_readProduct_79 (fun h18 => ?_) (fun h18 => ?_)
            · rw [if_neg h18] at hr
              refine mV_aload f10_readProduct_84 rfl ?_
              refine mV_iload f10_readProduct_85 rfl ?_
              obtain ⟨z18, hz18, hr⟩ := mBind hr
              have keyz18 : mV X m10_readProduct 4 0 0 94 [.ref 119, mX0] [.int z18, .ref 119] NN KK z17.2 (PP s) Q := by
                refine mV_push f10_readProduct_94 ?_
                obtain ⟨z19, hz19, hr⟩ := mBind hr
                refine mV_cV f10_readProduct_95 tg_m10_emits mCls10 (by decide) kk_119 (mC_deep (c10_emits X z17.2 s z18 0 hz19) (by decide)) rfl rfl (Nat.le_of_ble_eq_true rfl) ?_
                refine mV_goto f10_readProduct_98 ?_
                exact ih z19 _ hr hret hk
              clear hr
              have hr := hz18
              clear hz18
              refine mV_if_eq f10_readProduct_86 (fun h19 => ?_) (fun h19 => ?_)
              · rw [if_pos h19] at hr
                refine mV_push f10_readProduct_93 ?_
                have hr := Option.some.inj hr; subst hr
                refine mV_drop (L' := [.ref 119, mX0]) (mSub_k (mSub_x mSub_n)) ?_
                exact keyz18
              · rw [if_neg h19] at hr
                refine mV_push f10_readProduct_89 ?_
                refine mV_goto f10_readProduct_90 ?_
                have hr := Option.some.inj hr; subst hr
                refine mV_drop (L' := [.ref 119, mX0]) (mSub_k (mSub_x mSub_n)) ?_
                exact keyz18
            · rw [if_pos h18] at hr
              refine mV_push f10_readProduct_82 ?_
              have hr := Option.some.inj hr; subst hr; have hQ := hret _ rfl
              exact mV_iret rfl rfl f10_readProduct_83 hQ
          · rw [if_pos h17] at hr
            refine mV_aload f10_readProduct_61 rfl ?_
            refine mV_gI (z16 119 19) f10_readProduct_62 (by decide) kk_119 rfl rfl ?_
            refine mV_if_ne f10_readProduct_65 (fun h20 => ?_) (fun h20 => ?_)
            · rw [if_neg h20] at hr
              refine mV_aload f10_readProduct_74 rfl ?_
              obtain ⟨z20, hz20, hr⟩ := mBind hr
              refine mV_cV f10_readProduct_75 tg_m10_readUnit mCls10 (by decide) kk_119 (mC_deep (c10_readUnit X z16 s hz20) (by decide)) rfl rfl (Nat.le_of_ble_eq_true rfl) ?_
              refine mV_push f10_readProduct_78 ?_
              refine mV_icmp_ne f10_readProduct_79 (fun h21 => ?_) (fun h21 => ?_)
              · rw [if_neg h21] at hr
                refine mV_aload f10_readProduct_84 rfl ?_
                refine mV_iload f10_readProduct_85 rfl ?_
                obtain ⟨z21, hz21, hr⟩ := mBind hr
                have keyz21 : mV X m10_readProduct 4 0 0 94 [.ref 119, mX0] [.int z21, .ref 119] NN KK z20.2 (PP s) Q := by
                  refine mV_push f10_readProduct_94 ?_
                  obtain ⟨z22, hz22, hr⟩ := mBind hr
                  refine mV_cV f10_readProduct_95 tg_m10_emits mCls10 (by decide) kk_119 (mC_deep (c10_emits X z20.2 s z21 0 hz22) (by decide)) rfl rfl (Nat.le_of_ble_eq_true rfl) ?_
                  refine mV_goto f10_readProduct_98 ?_
                  exact ih z22 _ hr hret hk
                clear hr
                have hr := hz21
                clear hz21
                refine mV_if_eq f10_readProduct_86 (fun h22 => ?_) (fun h22 => ?_)
                · rw [if_pos h22] at hr
                  refine mV_push f10_readProduct_93 ?_
                  have hr := Option.some.inj hr; subst hr
                  refine mV_drop (L' := [.ref 119, mX0]) (mSub_k (mSub_x mSub_n)) ?_
                  exact keyz21
                · rw [if_neg h22] at hr
                  refine mV_push f10_readProduct_89 ?_
                  refine mV_goto f10_readProduct_90 ?_
                  have hr := Option.some.inj hr; subst hr
                  refine mV_drop (L' := [.ref 119, mX0]) (mSub_k (mSub_x mSub_n)) ?_
                  exact keyz21
              · rw [if_pos h21] at hr
                refine mV_push f10_readProduct_82 ?_
                have hr := Option.some.inj hr; subst hr; have hQ := hret _ rfl
                exact mV_iret rfl rfl f10_readProduct_83 hQ
            · rw [if_pos h20] at hr
              refine mV_aload f10_readProduct_68 rfl ?_
              refine mV_push f10_readProduct_69 ?_
              obtain ⟨z23, hz23, hr⟩ := mBind hr
              refine mV_cV f10_readProduct_70 tg_m10_errs mCls10 (by decide) kk_119 (mC_deep (c10_errs X z16 s 2 hz23) (by decide)) rfl rfl (Nat.le_of_ble_eq_true rfl) ?_
              have hr := Option.some.inj hr; subst hr; have hQ := hret _ rfl
              exact mV_iret rfl rfl f10_readProduct_73 hQ
        · rw [if_pos h16] at hr
          refine mV_aload f10_readProduct_43 rfl ?_
          refine mV_gI (z16 119 18) f10_readProduct_44 (by decide) kk_119 rfl rfl ?_
          refine mV_push f10_readProduct_47 ?_
          refine mV_icmp_eq f10_readProduct_48 (fun h23 => ?_) (fun h23 => ?_)
          · rw [if_pos h23] at hr
            refine mV_iload f10_readProduct_57 rfl ?_
            refine mV_if_ne f10_readProduct_58 (fun h24 => ?_) (fun h24 => ?_)
            · rw [if_neg h24] at hr
              refine mV_aload f10_readProduct_74 rfl ?_
              obtain ⟨z24, hz24, hr⟩ := mBind hr
              refine mV_cV f10_readProduct_75 tg_m10_readUnit mCls10 (by decide) kk_119 (mC_deep (c10_readUnit X z16 s hz24) (by decide)) rfl rfl (Nat.le_of_ble_eq_true rfl) ?_
              refine mV_push f10_readProduct_78 ?_
              refine mV_icmp_ne f10_readProduct_79 (fun h25 => ?_) (fun h25 => ?_)
              · rw [if_neg h25] at hr
                refine mV_aload f10_readProduct_84 rfl ?_
                refine mV_iload f10_readProduct_85 rfl ?_
                obtain ⟨z25, hz25, hr⟩ := mBind hr
                have keyz25 : mV X m10_readProduct 4 0 0 94 [.ref 119, mX0] [.int z25, .ref 119] NN KK z24.2 (PP s) Q := by
                  refine mV_push f10_readProduct_94 ?_
                  obtain ⟨z26, hz26, hr⟩ := mBind hr
                  refine mV_cV f10_readProduct_95 tg_m10_emits mCls10 (by decide) kk_119 (mC_deep (c10_emits X z24.2 s z25 0 hz26) (by decide)) rfl rfl (Nat.le_of_ble_eq_true rfl) ?_
                  refine mV_goto f10_readProduct_98 ?_
                  exact ih z26 _ hr hret hk
                clear hr
                have hr := hz25
                clear hz25
                refine mV_if_eq f10_readProduct_86 (fun h26 => ?_) (fun h26 => ?_)
                · rw [if_pos h26] at hr
                  refine mV_push f10_readProduct_93 ?_
                  have hr := Option.some.inj hr; subst hr
                  refine mV_drop (L' := [.ref 119, mX0]) (mSub_k (mSub_x mSub_n)) ?_
                  exact keyz25
                · rw [if_neg h26] at hr
                  refine mV_push f10_readProduct_89 ?_
                  refine mV_goto f10_readProduct_90 ?_
                  have hr := Option.some.inj hr; subst hr
                  refine mV_drop (L' := [.ref 119, mX0]) (mSub_k (mSub_x mSub_n)) ?_
                  exact keyz25
              · rw [if_pos h25] at hr
                refine mV_push f10_readProduct_82 ?_
                have hr := Option.some.inj hr; subst hr; have hQ := hret _ rfl
                exact mV_iret rfl rfl f10_readProduct_83 hQ
            · rw [if_pos h24] at hr
              refine mV_aload f10_readProduct_61 rfl ?_
              refine mV_gI (z16 119 19) f10_readProduct_62 (by decide) kk_119 rfl rfl ?_
              refine mV_if_ne f10_readProduct_65 (fun h27 => ?_) (fun h27 => ?_)
              · rw [if_neg h27] at hr
                refine mV_aload f10_readProduct_74 rfl ?_
                obtain ⟨z27, hz27, hr⟩ := mBind hr
                refine mV_cV f10_readProduct_75 tg_m10_readUnit mCls10 (by decide) kk_119 (mC_deep (c10_readUnit X z16 s hz27) (by decide)) rfl rfl (Nat.le_of_ble_eq_true rfl) ?_
                refine mV_push f10_readProduct_78 ?_
                refine mV_icmp_ne f10_readProduct_79 (fun h28 => ?_) (fun h28 => ?_)
                · rw [if_neg h28] at hr
                  refine mV_aload f10_readProduct_84 rfl ?_
                  refine mV_iload f10_readProduct_85 rfl ?_
                  obtain ⟨z28, hz28, hr⟩ := mBind hr
                  have keyz28 : mV X m10_readProduct 4 0 0 94 [.ref 119, mX0] [.int z28, .ref 119] NN KK z27.2 (PP s) Q := by
                    refine mV_push f10_readProduct_94 ?_
                    obtain ⟨z29, hz29, hr⟩ := mBind hr
                    refine mV_cV f10_readProduct_95 tg_m10_emits mCls10 (by decide) kk_119 (mC_deep (c10_emits X z27.2 s z28 0 hz29) (by decide)) rfl rfl (Nat.le_of_ble_eq_true rfl) ?_
                    refine mV_goto f10_readProduct_98 ?_
                    exact ih z29 _ hr hret hk
                  clear hr
                  have hr := hz28
                  clear hz28
                  refine mV_if_eq f10_readProduct_86 (fun h29 => ?_) (fun h29 => ?_)
                  · rw [if_pos h29] at hr
                    refine mV_push f10_readProduct_93 ?_
                    have hr := Option.some.inj hr; subst hr
                    refine mV_drop (L' := [.ref 119, mX0]) (mSub_k (mSub_x mSub_n)) ?_
                    exact keyz28
                  · rw [if_neg h29] at hr
                    refine mV_push f10_readProduct_89 ?_
                    refine mV_goto f10_readProduct_90 ?_
                    have hr := Option.some.inj hr; subst hr
                    refine mV_drop (L' := [.ref 119, mX0]) (mSub_k (mSub_x mSub_n)) ?_
                    exact keyz28
                · rw [if_pos h28] at hr
                  refine mV_push f10_readProduct_82 ?_
                  have hr := Option.some.inj hr; subst hr; have hQ := hret _ rfl
                  exact mV_iret rfl rfl f10_readProduct_83 hQ
              · rw [if_pos h27] at hr
                refine mV_aload f10_readProduct_68 rfl ?_
                refine mV_push f10_readProduct_69 ?_
                obtain ⟨z30, hz30, hr⟩ := mBind hr
                refine mV_cV f10_readProduct_70 tg_m10_errs mCls10 (by decide) kk_119 (mC_deep (c10_errs X z16 s 2 hz30) (by decide)) rfl rfl (Nat.le_of_ble_eq_true rfl) ?_
                have hr := Option.some.inj hr; subst hr; have hQ := hret _ rfl
                exact mV_iret rfl rfl f10_readProduct_73 hQ
          · rw [if_neg h23] at hr
            refine mV_aload f10_readProduct_51 rfl ?_
            refine mV_push f10_readProduct_52 ?_
            obtain ⟨z31, hz31, hr⟩ := mBind hr
            refine mV_cV f10_readProduct_53 tg_m10_errs mCls10 (by decide) kk_119 (mC_deep (c10_errs X z16 s 1 hz31) (by decide)) rfl rfl (Nat.le_of_ble_eq_true rfl) ?_
            have hr := Option.some.inj hr; subst hr; have hQ := hret _ rfl
            exact mV_iret rfl rfl f10_readProduct_56 hQ
set_option maxHeartbeats 4000000 in
set_option maxRecDepth 100000 in
theorem w10_readProduct (X : Nat × (Nat → Int32)) (I : mI) (s : Nat) (Q : mQ) {res : Int32 × mI} (hr : r10_readProduct I = some res) (hQ : Q (some (.int res.1)) NN KK res.2 (PP s)) : mV X m10_readProduct 4 0 0 0 [.ref 119, mX0] [] NN KK I (PP s) Q := by
  unfold r10_readProduct at hr
  refine mV_aload f10_readProduct_0 rfl ?_
  obtain ⟨z0, hz0, hr⟩ := mBind hr
  refine mV_cV f10_readProduct_1 tg_m10_readUnit mCls10 (by decide) kk_119 (mC_deep (c10_readUnit X I s hz0) (by decide)) rfl rfl (Nat.le_of_ble_eq_true rfl) ?_
  refine mV_push f10_readProduct_4 ?_
  refine mV_icmp_ne f10_readProduct_5 (fun h0 => ?_) (fun h0 => ?_)
  · rw [if_neg h0] at hr
    obtain ⟨z1, hz1, hr⟩ := mBind hr
    refine t10_readProduct_10 X Q s FU z0.2 _ hz1 (fun res ez1 => ?_) (fun wz1 ez1 => ?_)
    · rw [ez1] at hr; have hr := Option.some.inj hr; subst hr; exact hQ
    rw [ez1] at hr
    dsimp only at hr
    refine mV_push f10_readProduct_101 ?_
    have hr := Option.some.inj hr; subst hr
    exact mV_iret rfl rfl f10_readProduct_102 hQ
  · rw [if_pos h0] at hr
    refine mV_push f10_readProduct_8 ?_
    have hr := Option.some.inj hr; subst hr
    exact mV_iret rfl rfl f10_readProduct_9 hQ
theorem c10_readProduct (X : Nat × (Nat → Int32)) (I : mI) (s : Nat) {res : Int32 × mI} (hr : r10_readProduct I = some res) : mC X m10_readProduct 4 0 0 [.ref 119] NN KK I (PP s) (mRet (some (.int res.1)) NN KK res.2 (PP s)) :=
  mC_of (L0 := [.ref 119, mX0]) rfl (Nat.le_of_ble_eq_true rfl) (w10_readProduct X I s _ hr (mRet_ok _ _ _ _ _))
def l10_readSum_10 : Nat → mI → Option ((Int32 × mI) ⊕ (mI))
  | 0, _ => none
  | f + 1, I => if ((r10_isSign I 43) : Int32) = (0 : Int32) then if ((r10_isSign I 45) : Int32) = (0 : Int32) then some (.inr I) else (if (I 119 19 : Int32) = (43 : Int32) then some 2 else some 3 : Option (Int32)).bind fun z4 => (r10_reads I).bind fun z5 => (r10_readProduct z5).bind fun z6 => if (z6.1 : Int32) = ((-1) : Int32) then some (.inl ((-1), z6.2)) else (r10_emits z6.2 z4 0).bind fun z7 => l10_readSum_10 f z7 else (if (I 119 19 : Int32) = (43 : Int32) then some 2 else some 3 : Option (Int32)).bind fun z0 => (r10_reads I).bind fun z1 => (r10_readProduct z1).bind fun z2 => if (z2.1 : Int32) = ((-1) : Int32) then some (.inl ((-1), z2.2)) else (r10_emits z2.2 z0 0).bind fun z3 => l10_readSum_10 f z3
def r10_readSum (I : mI) : Option (Int32 × mI) := (r10_readProduct I).bind fun z0 => if (z0.1 : Int32) = ((-1) : Int32) then some ((-1), z0.2) else (l10_readSum_10 FU z0.2).bind fun z1 => match z1 with | .inl rz1 => some rz1 | .inr wz1 => some (0, wz1)
set_option maxHeartbeats 4000000 in
set_option maxRecDepth 100000 in
theorem t10_readSum_10 (X : Nat × (Nat → Int32)) (Q : mQ) (s : Nat) : ∀ (f : Nat) (I : mI) (z : (Int32 × mI) ⊕ (mI)), l10_readSum_10 f I = some z → (∀ res, z = .inl res → Q (some (.int res.1)) NN KK res.2 (PP s)) → (∀ w, z = .inr w → mV X m10_readSum 5 0 0 66 [.ref 119, mX0] [] NN KK w (PP s) Q) → mV X m10_readSum 5 0 0 10 [.ref 119, mX0] [] NN KK I (PP s) Q := by
  intro f
  induction f with
  | zero => intro I z hr hret hk; cases hr
  | succ f ih =>
    intro I z hr hret hk
    unfold l10_readSum_10 at hr
    refine mV_aload f10_readSum_10 rfl ?_
    refine mV_push f10_readSum_11 ?_
    refine mV_cV f10_readSum_13 tg_m10_isSign mCls10 (by decide) kk_119 (mC_deep (c10_isSign X I s 43 rfl) (by decide)) rfl rfl (Nat.le_of_ble_eq_true rfl) ?_
    refine mV_if_ne f10_readSum_16 (fun h0 => ?_) (fun h0 => ?_)
    · rw [if_neg h0] at hr
      refine mV_aload f10_readSum_28 rfl ?_
      refine mV_gI (I 119 19) f10_readSum_29 (by decide) kk_119 rfl rfl ?_
      refine mV_push f10_readSum_32 ?_
      obtain ⟨z0, hz0, hr⟩ := mBind hr
      have keyz0 : mV X m10_readSum 5 0 0 42 [.ref 119, mX0] [.int z0] NN KK I (PP s) Q := by
        refine mV_istore (L' := [.ref 119, .int z0]) f10_readSum_42 (by decide) rfl rfl ?_
        refine mV_aload f10_readSum_43 rfl ?_
        obtain ⟨z1, hz1, hr⟩ := mBind hr
        refine mV_cV f10_readSum_44 tg_m10_reads mCls10 (by decide) kk_119 (mC_deep (c10_reads X I s hz1) (by decide)) rfl rfl (Nat.le_of_ble_eq_true rfl) ?_
        refine mV_aload f10_readSum_47 rfl ?_
        obtain ⟨z2, hz2, hr⟩ := mBind hr
        refine mV_cV f10_readSum_48 tg_m10_readProduct mCls10 (by decide) kk_119 (mC_deep (c10_readProduct X z1 s hz2) (by decide)) rfl rfl (Nat.le_of_ble_eq_true rfl) ?_
        refine mV_push f10_readSum_51 ?_
        refine mV_icmp_ne f10_readSum_52 (fun h2 => ?_) (fun h2 => ?_)
        · rw [if_neg h2] at hr
          refine mV_aload f10_readSum_57 rfl ?_
          refine mV_iload f10_readSum_58 rfl ?_
          refine mV_push f10_readSum_59 ?_
          obtain ⟨z3, hz3, hr⟩ := mBind hr
          refine mV_cV f10_readSum_60 tg_m10_emits mCls10 (by decide) kk_119 (mC_deep (c10_emits X z2.2 s z0 0 hz3) (by decide)) rfl rfl (Nat.le_of_ble_eq_true rfl) ?_
          refine mV_goto f10_readSum_63 ?_
          refine mV_drop (L' := [.ref 119, mX0]) (mSub_k (mSub_x mSub_n)) ?_
          exact ih z3 _ hr hret hk
        · rw [if_pos h2] at hr
          refine mV_push f10_readSum_55 ?_
          have hr := Option.some.inj hr; subst hr; have hQ := hret _ rfl
          exact mV_iret rfl rfl f10_readSum_56 hQ
      clear hr
      have hr := hz0
      clear hz0
      refine mV_icmp_ne f10_readSum_34 (fun h1 => ?_) (fun h1 => ?_)
      · rw [if_neg h1] at hr
        refine mV_push f10_readSum_41 ?_
        have hr := Option.some.inj hr; subst hr
        exact keyz0
      · rw [if_pos h1] at hr
        refine mV_push f10_readSum_37 ?_
        refine mV_goto f10_readSum_38 ?_
        have hr := Option.some.inj hr; subst hr
        exact keyz0
    · rw [if_pos h0] at hr
      refine mV_aload f10_readSum_19 rfl ?_
      refine mV_push f10_readSum_20 ?_
      refine mV_cV f10_readSum_22 tg_m10_isSign mCls10 (by decide) kk_119 (mC_deep (c10_isSign X I s 45 rfl) (by decide)) rfl rfl (Nat.le_of_ble_eq_true rfl) ?_
      refine mV_if_eq f10_readSum_25 (fun h3 => ?_) (fun h3 => ?_)
      · rw [if_pos h3] at hr
        have hr := Option.some.inj hr; subst hr
        exact hk _ rfl
      · rw [if_neg h3] at hr
        refine mV_aload f10_readSum_28 rfl ?_
        refine mV_gI (I 119 19) f10_readSum_29 (by decide) kk_119 rfl rfl ?_
        refine mV_push f10_readSum_32 ?_
        obtain ⟨z4, hz4, hr⟩ := mBind hr
        have keyz4 : mV X m10_readSum 5 0 0 42 [.ref 119, mX0] [.int z4] NN KK I (PP s) Q := by
          refine mV_istore (L' := [.ref 119, .int z4]) f10_readSum_42 (by decide) rfl rfl ?_
          refine mV_aload f10_readSum_43 rfl ?_
          obtain ⟨z5, hz5, hr⟩ := mBind hr
          refine mV_cV f10_readSum_44 tg_m10_reads mCls10 (by decide) kk_119 (mC_deep (c10_reads X I s hz5) (by decide)) rfl rfl (Nat.le_of_ble_eq_true rfl) ?_
          refine mV_aload f10_readSum_47 rfl ?_
          obtain ⟨z6, hz6, hr⟩ := mBind hr
          refine mV_cV f10_readSum_48 tg_m10_readProduct mCls10 (by decide) kk_119 (mC_deep (c10_readProduct X z5 s hz6) (by decide)) rfl rfl (Nat.le_of_ble_eq_true rfl) ?_
          refine mV_push f10_readSum_51 ?_
          refine mV_icmp_ne f10_readSum_52 (fun h5 => ?_) (fun h5 => ?_)
          · rw [if_neg h5] at hr
            refine mV_aload f10_readSum_57 rfl ?_
            refine mV_iload f10_readSum_58 rfl ?_
            refine mV_push f10_readSum_59 ?_
            obtain ⟨z7, hz7, hr⟩ := mBind hr
            refine mV_cV f10_readSum_60 tg_m10_emits mCls10 (by decide) kk_119 (mC_deep (c10_emits X z6.2 s z4 0 hz7) (by decide)) rfl rfl (Nat.le_of_ble_eq_true rfl) ?_
            refine mV_goto f10_readSum_63 ?_
            refine mV_drop (L' := [.ref 119, mX0]) (mSub_k (mSub_x mSub_n)) ?_
            exact ih z7 _ hr hret hk
          · rw [if_pos h5] at hr
            refine mV_push f10_readSum_55 ?_
            have hr := Option.some.inj hr; subst hr; have hQ := hret _ rfl
            exact mV_iret rfl rfl f10_readSum_56 hQ
        clear hr
        have hr := hz4
        clear hz4
        refine mV_icmp_ne f10_readSum_34 (fun h4 => ?_) (fun h4 => ?_)
        · rw [if_neg h4] at hr
          refine mV_push f10_readSum_41 ?_
          have hr := Option.some.inj hr; subst hr
          exact keyz4
        · rw [if_pos h4] at hr
          refine mV_push f10_readSum_37 ?_
          refine mV_goto f10_readSum_38 ?_
          have hr := Option.some.inj hr; subst hr
          exact keyz4
set_option maxHeartbeats 4000000 in
set_option maxRecDepth 100000 in
theorem w10_readSum (X : Nat × (Nat → Int32)) (I : mI) (s : Nat) (Q : mQ) {res : Int32 × mI} (hr : r10_readSum I = some res) (hQ : Q (some (.int res.1)) NN KK res.2 (PP s)) : mV X m10_readSum 5 0 0 0 [.ref 119, mX0] [] NN KK I (PP s) Q := by
  unfold r10_readSum at hr
  refine mV_aload f10_readSum_0 rfl ?_
  obtain ⟨z0, hz0, hr⟩ := mBind hr
  refine mV_cV f10_readSum_1 tg_m10_readProduct mCls10 (by decide) kk_119 (mC_deep (c10_readProduct X I s hz0) (by decide)) rfl rfl (Nat.le_of_ble_eq_true rfl) ?_
  refine mV_push f10_readSum_4 ?_
  refine mV_icmp_ne f10_readSum_5 (fun h0 => ?_) (fun h0 => ?_)
  · rw [if_neg h0] at hr
    obtain ⟨z1, hz1, hr⟩ := mBind hr
    refine t10_readSum_10 X Q s FU z0.2 _ hz1 (fun res ez1 => ?_) (fun wz1 ez1 => ?_)
    · rw [ez1] at hr; have hr := Option.some.inj hr; subst hr; exact hQ
    rw [ez1] at hr
    dsimp only at hr
    refine mV_push f10_readSum_66 ?_
    have hr := Option.some.inj hr; subst hr
    exact mV_iret rfl rfl f10_readSum_67 hQ
  · rw [if_pos h0] at hr
    refine mV_push f10_readSum_8 ?_
    have hr := Option.some.inj hr; subst hr
    exact mV_iret rfl rfl f10_readSum_9 hQ
theorem c10_readSum (X : Nat × (Nat → Int32)) (I : mI) (s : Nat) {res : Int32 × mI} (hr : r10_readSum I = some res) : mC X m10_readSum 5 0 0 [.ref 119] NN KK I (PP s) (mRet (some (.int res.1)) NN KK res.2 (PP s)) :=
  mC_of (L0 := [.ref 119, mX0]) rfl (Nat.le_of_ble_eq_true rfl) (w10_readSum X I s _ hr (mRet_ok _ _ _ _ _))
def r10_readCompared (I : mI) : Option (Int32 × mI) := (r10_readSum I).bind fun z0 => if (z0.1 : Int32) = ((-1) : Int32) then some ((-1), z0.2) else if ((r10_isSign z0.2 60) : Int32) = (0 : Int32) then if ((r10_isSign z0.2 61) : Int32) = (0 : Int32) then if ((r10_isSign z0.2 62) : Int32) = (0 : Int32) then (r10_errs z0.2 1).bind fun z13 => some (z13.1, z13.2) else (if (z0.2 119 19 : Int32) = (60 : Int32) then some 6 else if (z0.2 119 19 : Int32) = (61 : Int32) then some 7 else some 8 : Option (Int32)).bind fun z9 => (r10_reads z0.2).bind fun z10 => (r10_readSum z10).bind fun z11 => if (z11.1 : Int32) = ((-1) : Int32) then some ((-1), z11.2) else (r10_emits z11.2 z9 0).bind fun z12 => some (0, z12) else (if (z0.2 119 19 : Int32) = (60 : Int32) then some 6 else if (z0.2 119 19 : Int32) = (61 : Int32) then some 7 else some 8 : Option (Int32)).bind fun z5 => (r10_reads z0.2).bind fun z6 => (r10_readSum z6).bind fun z7 => if (z7.1 : Int32) = ((-1) : Int32) then some ((-1), z7.2) else (r10_emits z7.2 z5 0).bind fun z8 => some (0, z8) else (if (z0.2 119 19 : Int32) = (60 : Int32) then some 6 else if (z0.2 119 19 : Int32) = (61 : Int32) then some 7 else some 8 : Option (Int32)).bind fun z1 => (r10_reads z0.2).bind fun z2 => (r10_readSum z2).bind fun z3 => if (z3.1 : Int32) = ((-1) : Int32) then some ((-1), z3.2) else (r10_emits z3.2 z1 0).bind fun z4 => some (0, z4)
set_option maxHeartbeats 4000000 in
set_option maxRecDepth 100000 in
theorem w10_readCompared (X : Nat × (Nat → Int32)) (I : mI) (s : Nat) (Q : mQ) {res : Int32 × mI} (hr : r10_readCompared I = some res) (hQ : Q (some (.int res.1)) NN KK res.2 (PP s)) : mV X m10_readCompared 6 0 0 0 [.ref 119, mX0] [] NN KK I (PP s) Q := by
  unfold r10_readCompared at hr
  refine mV_aload f10_readCompared_0 rfl ?_
  obtain ⟨z0, hz0, hr⟩ := mBind hr
  refine mV_cV f10_readCompared_1 tg_m10_readSum mCls10 (by decide) kk_119 (mC_deep (c10_readSum X I s hz0) (by decide)) rfl rfl (Nat.le_of_ble_eq_true rfl) ?_
  refine mV_push f10_readCompared_4 ?_
  refine mV_icmp_ne f10_readCompared_5 (fun h0 => ?_) (fun h0 => ?_)
  · rw [if_neg h0] at hr
    refine mV_aload f10_readCompared_10 rfl ?_
    refine mV_push f10_readCompared_11 ?_
    refine mV_cV f10_readCompared_13 tg_m10_isSign mCls10 (by decide) kk_119 (mC_deep (c10_isSign X z0.2 s 60 rfl) (by decide)) rfl rfl (Nat.le_of_ble_eq_true rfl) ?_
    refine mV_if_ne f10_readCompared_16 (fun h1 => ?_) (fun h1 => ?_)
    · rw [if_neg h1] at hr
      refine mV_aload f10_readCompared_43 rfl ?_
      refine mV_gI (z0.2 119 19) f10_readCompared_44 (by decide) kk_119 rfl rfl ?_
      refine mV_push f10_readCompared_47 ?_
      obtain ⟨z1, hz1, hr⟩ := mBind hr
      have keyz1 : mV X m10_readCompared 6 0 0 73 [.ref 119, mX0] [.int z1] NN KK z0.2 (PP s) Q := by
        refine mV_istore (L' := [.ref 119, .int z1]) f10_readCompared_73 (by decide) rfl rfl ?_
        refine mV_aload f10_readCompared_74 rfl ?_
        obtain ⟨z2, hz2, hr⟩ := mBind hr
        refine mV_cV f10_readCompared_75 tg_m10_reads mCls10 (by decide) kk_119 (mC_deep (c10_reads X z0.2 s hz2) (by decide)) rfl rfl (Nat.le_of_ble_eq_true rfl) ?_
        refine mV_aload f10_readCompared_78 rfl ?_
        obtain ⟨z3, hz3, hr⟩ := mBind hr
        refine mV_cV f10_readCompared_79 tg_m10_readSum mCls10 (by decide) kk_119 (mC_deep (c10_readSum X z2 s hz3) (by decide)) rfl rfl (Nat.le_of_ble_eq_true rfl) ?_
        refine mV_push f10_readCompared_82 ?_
        refine mV_icmp_ne f10_readCompared_83 (fun h4 => ?_) (fun h4 => ?_)
        · rw [if_neg h4] at hr
          refine mV_aload f10_readCompared_88 rfl ?_
          refine mV_iload f10_readCompared_89 rfl ?_
          refine mV_push f10_readCompared_90 ?_
          obtain ⟨z4, hz4, hr⟩ := mBind hr
          refine mV_cV f10_readCompared_91 tg_m10_emits mCls10 (by decide) kk_119 (mC_deep (c10_emits X z3.2 s z1 0 hz4) (by decide)) rfl rfl (Nat.le_of_ble_eq_true rfl) ?_
          refine mV_push f10_readCompared_94 ?_
          have hr := Option.some.inj hr; subst hr
          exact mV_iret rfl rfl f10_readCompared_95 hQ
        · rw [if_pos h4] at hr
          refine mV_push f10_readCompared_86 ?_
          have hr := Option.some.inj hr; subst hr
          exact mV_iret rfl rfl f10_readCompared_87 hQ
      clear hr
      have hr := hz1
      clear hz1
      refine mV_icmp_ne f10_readCompared_49 (fun h2 => ?_) (fun h2 => ?_)
      · rw [if_neg h2] at hr
        refine mV_aload f10_readCompared_57 rfl ?_
        refine mV_gI (z0.2 119 19) f10_readCompared_58 (by decide) kk_119 rfl rfl ?_
        refine mV_push f10_readCompared_61 ?_
        refine mV_icmp_ne f10_readCompared_63 (fun h3 => ?_) (fun h3 => ?_)
        · rw [if_neg h3] at hr
          refine mV_push f10_readCompared_71 ?_
          have hr := Option.some.inj hr; subst hr
          exact keyz1
        · rw [if_pos h3] at hr
          refine mV_push f10_readCompared_66 ?_
          refine mV_goto f10_readCompared_68 ?_
          have hr := Option.some.inj hr; subst hr
          exact keyz1
      · rw [if_pos h2] at hr
        refine mV_push f10_readCompared_52 ?_
        refine mV_goto f10_readCompared_54 ?_
        have hr := Option.some.inj hr; subst hr
        exact keyz1
    · rw [if_pos h1] at hr
      refine mV_aload f10_readCompared_19 rfl ?_
      refine mV_push f10_readCompared_20 ?_
      refine mV_cV f10_readCompared_22 tg_m10_isSign mCls10 (by decide) kk_119 (mC_deep (c10_isSign X z0.2 s 61 rfl) (by decide)) rfl rfl (Nat.le_of_ble_eq_true rfl) ?_
      refine mV_if_ne f10_readCompared_25 (fun h5 => ?_) (fun h5 => ?_)
      · rw [if_neg h5] at hr
        refine mV_aload f10_readCompared_43 rfl ?_
        refine mV_gI (z0.2 119 19) f10_readCompared_44 (by decide) kk_119 rfl rfl ?_
        refine mV_push f10_readCompared_47 ?_
        obtain ⟨z5, hz5, hr⟩ := mBind hr
        have keyz5 : mV X m10_readCompared 6 0 0 73 [.ref 119, mX0] [.int z5] NN KK z0.2 (PP s) Q := by
          refine mV_istore (L' := [.ref 119, .int z5]) f10_readCompared_73 (by decide) rfl rfl ?_
          refine mV_aload f10_readCompared_74 rfl ?_
          obtain ⟨z6, hz6, hr⟩ := mBind hr
          refine mV_cV f10_readCompared_75 tg_m10_reads mCls10 (by decide) kk_119 (mC_deep (c10_reads X z0.2 s hz6) (by decide)) rfl rfl (Nat.le_of_ble_eq_true rfl) ?_
          refine mV_aload f10_readCompared_78 rfl ?_
          obtain ⟨z7, hz7, hr⟩ := mBind hr
          refine mV_cV f10_readCompared_79 tg_m10_readSum mCls10 (by decide) kk_119 (mC_deep (c10_readSum X z6 s hz7) (by decide)) rfl rfl (Nat.le_of_ble_eq_true rfl) ?_
          refine mV_push f10_readCompared_82 ?_
          refine mV_icmp_ne f10_readCompared_83 (fun h8 => ?_) (fun h8 => ?_)
          · rw [if_neg h8] at hr
            refine mV_aload f10_readCompared_88 rfl ?_
            refine mV_iload f10_readCompared_89 rfl ?_
            refine mV_push f10_readCompared_90 ?_
            obtain ⟨z8, hz8, hr⟩ := mBind hr
            refine mV_cV f10_readCompared_91 tg_m10_emits mCls10 (by decide) kk_119 (mC_deep (c10_emits X z7.2 s z5 0 hz8) (by decide)) rfl rfl (Nat.le_of_ble_eq_true rfl) ?_
            refine mV_push f10_readCompared_94 ?_
            have hr := Option.some.inj hr; subst hr
            exact mV_iret rfl rfl f10_readCompared_95 hQ
          · rw [if_pos h8] at hr
            refine mV_push f10_readCompared_86 ?_
            have hr := Option.some.inj hr; subst hr
            exact mV_iret rfl rfl f10_readCompared_87 hQ
        clear hr
        have hr := hz5
        clear hz5
        refine mV_icmp_ne f10_readCompared_49 (fun h6 => ?_) (fun h6 => ?_)
        · rw [if_neg h6] at hr
          refine mV_aload f10_readCompared_57 rfl ?_
          refine mV_gI (z0.2 119 19) f10_readCompared_58 (by decide) kk_119 rfl rfl ?_
          refine mV_push f10_readCompared_61 ?_
          refine mV_icmp_ne f10_readCompared_63 (fun h7 => ?_) (fun h7 => ?_)
          · rw [if_neg h7] at hr
            refine mV_push f10_readCompared_71 ?_
            have hr := Option.some.inj hr; subst hr
            exact keyz5
          · rw [if_pos h7] at hr
            refine mV_push f10_readCompared_66 ?_
            refine mV_goto f10_readCompared_68 ?_
            have hr := Option.some.inj hr; subst hr
            exact keyz5
        · rw [if_pos h6] at hr
          refine mV_push f10_readCompared_52 ?_
          refine mV_goto f10_readCompared_54 ?_
          have hr := Option.some.inj hr; subst hr
          exact keyz5
      · rw [if_pos h5] at hr
        refine mV_aload f10_readCompared_28 rfl ?_
        refine mV_push f10_readCompared_29 ?_
        refine mV_cV f10_readCompared_31 tg_m10_isSign mCls10 (by decide) kk_119 (mC_deep (c10_isSign X z0.2 s 62 rfl) (by decide)) rfl rfl (Nat.le_of_ble_eq_true rfl) ?_
        refine mV_if_ne f10_readCompared_34 (fun h9 => ?_) (fun h9 => ?_)
        · rw [if_neg h9] at hr
          refine mV_aload f10_readCompared_43 rfl ?_
          refine mV_gI (z0.2 119 19) f10_readCompared_44 (by decide) kk_119 rfl rfl ?_
          refine mV_push f10_readCompared_47 ?_
          obtain ⟨z9, hz9, hr⟩ := mBind hr
          have keyz9 : mV X m10_readCompared 6 0 0 73 [.ref 119, mX0] [.int z9] NN KK z0.2 (PP s) Q := by
            refine mV_istore (L' := [.ref 119, .int z9]) f10_readCompared_73 (by decide) rfl rfl ?_
            refine mV_aload f10_readCompared_74 rfl ?_
            obtain ⟨z10, hz10, hr⟩ := mBind hr
            refine mV_cV f10_readCompared_75 tg_m10_reads mCls10 (by decide) kk_119 (mC_deep (c10_reads X z0.2 s hz10) (by decide)) rfl rfl (Nat.le_of_ble_eq_true rfl) ?_
            refine mV_aload f10_readCompared_78 rfl ?_
            obtain ⟨z11, hz11, hr⟩ := mBind hr
            refine mV_cV f10_readCompared_79 tg_m10_readSum mCls10 (by decide) kk_119 (mC_deep (c10_readSum X z10 s hz11) (by decide)) rfl rfl (Nat.le_of_ble_eq_true rfl) ?_
            refine mV_push f10_readCompared_82 ?_
            refine mV_icmp_ne f10_readCompared_83 (fun h12 => ?_) (fun h12 => ?_)
            · rw [if_neg h12] at hr
              refine mV_aload f10_readCompared_88 rfl ?_
              refine mV_iload f10_readCompared_89 rfl ?_
              refine mV_push f10_readCompared_90 ?_
              obtain ⟨z12, hz12, hr⟩ := mBind hr
              refine mV_cV f10_readCompared_91 tg_m10_emits mCls10 (by decide) kk_119 (mC_deep (c10_emits X z11.2 s z9 0 hz12) (by decide)) rfl rfl (Nat.le_of_ble_eq_true rfl) ?_
              refine mV_push f10_readCompared_94 ?_
              have hr := Option.some.inj hr; subst hr
              exact mV_iret rfl rfl f10_readCompared_95 hQ
            · rw [if_pos h12] at hr
              refine mV_push f10_readCompared_86 ?_
              have hr := Option.some.inj hr; subst hr
              exact mV_iret rfl rfl f10_readCompared_87 hQ
          clear hr
          have hr := hz9
          clear hz9
          refine mV_icmp_ne f10_readCompared_49 (fun h10 => ?_) (fun h10 => ?_)
          · rw [if_neg h10] at hr
            refine mV_aload f10_readCompared_57 rfl ?_
            refine mV_gI (z0.2 119 19) f10_readCompared_58 (by decide) kk_119 rfl rfl ?_
            refine mV_push f10_readCompared_61 ?_
            refine mV_icmp_ne f10_readCompared_63 (fun h11 => ?_) (fun h11 => ?_)
            · rw [if_neg h11] at hr
              refine mV_push f10_readCompared_71 ?_
              have hr := Option.some.inj hr; subst hr
              exact keyz9
            · rw [if_pos h11] at hr
              refine mV_push f10_readCompared_66 ?_
              refine mV_goto f10_readCompared_68 ?_
              have hr := Option.some.inj hr; subst hr
              exact keyz9
          · rw [if_pos h10] at hr
            refine mV_push f10_readCompared_52 ?_
            refine mV_goto f10_readCompared_54 ?_
            have hr := Option.some.inj hr; subst hr
            exact keyz9
        · rw [if_pos h9] at hr
          refine mV_aload f10_readCompared_37 rfl ?_
          refine mV_push f10_readCompared_38 ?_
          obtain ⟨z13, hz13, hr⟩ := mBind hr
          refine mV_cV f10_readCompared_39 tg_m10_errs mCls10 (by decide) kk_119 (mC_deep (c10_errs X z0.2 s 1 hz13) (by decide)) rfl rfl (Nat.le_of_ble_eq_true rfl) ?_
          have hr := Option.some.inj hr; subst hr
          exact mV_iret rfl rfl f10_readCompared_42 hQ
  · rw [if_pos h0] at hr
    refine mV_push f10_readCompared_8 ?_
    have hr := Option.some.inj hr; subst hr
    exact mV_iret rfl rfl f10_readCompared_9 hQ
theorem c10_readCompared (X : Nat × (Nat → Int32)) (I : mI) (s : Nat) {res : Int32 × mI} (hr : r10_readCompared I = some res) : mC X m10_readCompared 6 0 0 [.ref 119] NN KK I (PP s) (mRet (some (.int res.1)) NN KK res.2 (PP s)) :=
  mC_of (L0 := [.ref 119, mX0]) rfl (Nat.le_of_ble_eq_true rfl) (w10_readCompared X I s _ hr (mRet_ok _ _ _ _ _))
def r10_waits0 (I : mI) (x0 : Int32) : Option (mI) := (mSto I 138 40 (I 119 32) x0).bind fun z0 => some (mW z0 119 32 (z0 119 32 + 1))
set_option maxHeartbeats 4000000 in
set_option maxRecDepth 100000 in
theorem w10_waits0 (X : Nat × (Nat → Int32)) (I : mI) (s : Nat) (x0 : Int32) (Q : mQ) {res : mI} (hr : r10_waits0 I x0 = some res) (hQ : Q none NN KK res (PP s)) : mV X m10_waits0 0 0 0 0 [.ref 119, .int x0] [] NN KK I (PP s) Q := by
  unfold r10_waits0 at hr
  refine mV_aload f10_waits0_0 rfl ?_
  refine mV_getP f10_waits0_1 (by decide) kk_119 rfl (pp_119_31 _) ?_
  refine mV_aload f10_waits0_4 rfl ?_
  refine mV_gI (I 119 32) f10_waits0_5 (by decide) kk_119 rfl rfl ?_
  refine mV_iload f10_waits0_8 rfl ?_
  obtain ⟨z0, hz0, hr⟩ := mBind hr
  refine mV_stO f10_waits0_9 (by decide) kk_138 hz0 ?_
  refine mV_aload f10_waits0_10 rfl ?_
  refine mV_aload f10_waits0_11 rfl ?_
  refine mV_gI (z0 119 32) f10_waits0_12 (by decide) kk_119 rfl rfl ?_
  refine mV_push f10_waits0_15 ?_
  refine mV_iadd f10_waits0_16 ?_
  refine mV_putI f10_waits0_17 (by decide) kk_119 rfl rfl ?_
  have hr := Option.some.inj hr; subst hr
  exact mV_vret rfl f10_waits0_20 hQ
theorem c10_waits0 (X : Nat × (Nat → Int32)) (I : mI) (s : Nat) (x0 : Int32) {res : mI} (hr : r10_waits0 I x0 = some res) : mC X m10_waits0 0 0 0 [.ref 119, .int x0] NN KK I (PP s) (mRet none NN KK res (PP s)) :=
  mC_of (L0 := [.ref 119, .int x0]) rfl (Nat.le_of_ble_eq_true rfl) (w10_waits0 X I s x0 _ hr (mRet_ok _ _ _ _ _))
def l10_settles0_0 (k1 : Int32) : Nat → mI → Option (mI)
  | 0, _ => none
  | f + 1, I => if (I 119 32 : Int32) ≤ (0 : Int32) then some I else (mLd I 138 40 (I 119 32 - 1)).bind fun z0 => if (z0 : Int32) = (k1 : Int32) then (r10_emits (mW I 119 32 (I 119 32 - 1)) k1 0).bind fun z1 => if (k1 : Int32) = (9 : Int32) then l10_settles0_0 k1 f (mW z1 119 30 (z1 119 30 - 1)) else l10_settles0_0 k1 f z1 else some I
def r10_settles0 (I : mI) (x0 : Int32) : Option (mI) := (l10_settles0_0 x0 FU I).bind fun z0 => some z0
set_option maxHeartbeats 4000000 in
set_option maxRecDepth 100000 in
theorem t10_settles0_0 (X : Nat × (Nat → Int32)) (Q : mQ) (s : Nat) (k1 : Int32) : ∀ (f : Nat) (I : mI) (z : mI), l10_settles0_0 k1 f I = some z → mV X m10_settles0 1 0 0 57 [.ref 119, .int k1] [] NN KK z (PP s) Q → mV X m10_settles0 1 0 0 0 [.ref 119, .int k1] [] NN KK I (PP s) Q := by
  intro f
  induction f with
  | zero => intro I z hr hk; cases hr
  | succ f ih =>
    intro I z hr hk
    unfold l10_settles0_0 at hr
    refine mV_aload f10_settles0_0 rfl ?_
    refine mV_gI (I 119 32) f10_settles0_1 (by decide) kk_119 rfl rfl ?_
    refine mV_if_le f10_settles0_4 (fun h0 => ?_) (fun h0 => ?_)
    · rw [if_pos h0] at hr
      have hr := Option.some.inj hr; subst hr
      exact hk
    · rw [if_neg h0] at hr
      refine mV_aload f10_settles0_7 rfl ?_
      refine mV_getP f10_settles0_8 (by decide) kk_119 rfl (pp_119_31 _) ?_
      refine mV_aload f10_settles0_11 rfl ?_
      refine mV_gI (I 119 32) f10_settles0_12 (by decide) kk_119 rfl rfl ?_
      refine mV_push f10_settles0_15 ?_
      refine mV_isub f10_settles0_16 ?_
      obtain ⟨z0, hz0, hr⟩ := mBind hr
      refine mV_ldO f10_settles0_17 (by decide) kk_138 hz0 ?_
      refine mV_iload f10_settles0_18 rfl ?_
      refine mV_icmp_ne f10_settles0_19 (fun h1 => ?_) (fun h1 => ?_)
      · rw [if_neg h1] at hr
        have hr := Option.some.inj hr; subst hr
        exact hk
      · rw [if_pos h1] at hr
        refine mV_aload f10_settles0_22 rfl ?_
        refine mV_aload f10_settles0_23 rfl ?_
        refine mV_gI (I 119 32) f10_settles0_24 (by decide) kk_119 rfl rfl ?_
        refine mV_push f10_settles0_27 ?_
        refine mV_isub f10_settles0_28 ?_
        refine mV_putI f10_settles0_29 (by decide) kk_119 rfl rfl ?_
        refine mV_aload f10_settles0_32 rfl ?_
        refine mV_iload f10_settles0_33 rfl ?_
        refine mV_push f10_settles0_34 ?_
        obtain ⟨z1, hz1, hr⟩ := mBind hr
        refine mV_cV f10_settles0_35 tg_m10_emits mCls10 (by decide) kk_119 (mC_deep (c10_emits X (mW I 119 32 (I 119 32 - 1)) s k1 0 hz1) (by decide)) rfl rfl (Nat.le_of_ble_eq_true rfl) ?_
        refine mV_iload f10_settles0_38 rfl ?_
        refine mV_push f10_settles0_39 ?_
        refine mV_icmp_ne f10_settles0_41 (fun h2 => ?_) (fun h2 => ?_)
        · rw [if_neg h2] at hr
          exact ih z1 _ hr hk
        · rw [if_pos h2] at hr
          refine mV_aload f10_settles0_44 rfl ?_
          refine mV_aload f10_settles0_45 rfl ?_
          refine mV_gI (z1 119 30) f10_settles0_46 (by decide) kk_119 rfl rfl ?_
          refine mV_push f10_settles0_49 ?_
          refine mV_isub f10_settles0_50 ?_
          refine mV_putI f10_settles0_51 (by decide) kk_119 rfl rfl ?_
          refine mV_goto f10_settles0_54 ?_
          exact ih (mW z1 119 30 (z1 119 30 - 1)) _ hr hk
set_option maxHeartbeats 4000000 in
set_option maxRecDepth 100000 in
theorem w10_settles0 (X : Nat × (Nat → Int32)) (I : mI) (s : Nat) (x0 : Int32) (Q : mQ) {res : mI} (hr : r10_settles0 I x0 = some res) (hQ : Q none NN KK res (PP s)) : mV X m10_settles0 1 0 0 0 [.ref 119, .int x0] [] NN KK I (PP s) Q := by
  unfold r10_settles0 at hr
  obtain ⟨z0, hz0, hr⟩ := mBind hr
  refine t10_settles0_0 X Q s x0 FU I _ hz0 ?_
  have hr := Option.some.inj hr; subst hr
  exact mV_vret rfl f10_settles0_57 hQ
theorem c10_settles0 (X : Nat × (Nat → Int32)) (I : mI) (s : Nat) (x0 : Int32) {res : mI} (hr : r10_settles0 I x0 = some res) : mC X m10_settles0 1 0 0 [.ref 119, .int x0] NN KK I (PP s) (mRet none NN KK res (PP s)) :=
  mC_of (L0 := [.ref 119, .int x0]) rfl (Nat.le_of_ble_eq_true rfl) (w10_settles0 X I s x0 _ hr (mRet_ok _ _ _ _ _))
def l10_readAny_9 : Nat → Int32 → Int32 → mI → Option ((Int32 × mI) ⊕ (mI))
  | 0, _, _, _ => none
  | f + 1, y1, y2, I => if (y2 : Int32) = (0 : Int32) then if ((r10_isWord I 5) : Int32) = (0 : Int32) then if ((r10_isWord I 4) : Int32) = (0 : Int32) then (r10_settles0 I 10).bind fun z0 => (r10_settles0 z0 11).bind fun z1 => if (y1 : Int32) = (0 : Int32) then some (.inl (0, z1)) else if ((r10_isSign z1 41) : Int32) = (0 : Int32) then some (.inr z1) else (r10_settles0 (mW (mW z1 119 32 (z1 119 32 - 1)) 119 30 (z1 119 30 - 1)) 9).bind fun z2 => (r10_reads z2).bind fun z3 => l10_readAny_9 f (y1 - 1) y2 z3 else (r10_settles0 I 10).bind fun z4 => (r10_settles0 z4 11).bind fun z5 => (r10_waits0 z5 11).bind fun z6 => (r10_reads z6).bind fun z7 => l10_readAny_9 f y1 1 z7 else (r10_settles0 I 10).bind fun z8 => (r10_waits0 z8 10).bind fun z9 => (r10_reads z9).bind fun z10 => l10_readAny_9 f y1 1 z10 else if ((r10_isWord I 6) : Int32) = (0 : Int32) then if ((r10_isSign I 40) : Int32) = (0 : Int32) then (r10_readCompared I).bind fun z16 => if (z16.1 : Int32) = ((-1) : Int32) then some (.inl ((-1), z16.2)) else (r10_settles0 z16.2 9).bind fun z17 => l10_readAny_9 f y1 0 z17 else if (I 119 30 : Int32) = (8 : Int32) then (r10_errs I 3).bind fun z22 => some (.inl (z22.1, z22.2)) else (if ((r10_isWord I 6) : Int32) = (0 : Int32) then some (y1 + 1) else some y1 : Option (Int32)).bind fun z18 => (if ((r10_isWord I 6) : Int32) = (0 : Int32) then some 12 else some 9 : Option (Int32)).bind fun z19 => (r10_waits0 (mW I 119 30 (I 119 30 + 1)) z19).bind fun z20 => (r10_reads z20).bind fun z21 => l10_readAny_9 f z18 y2 z21 else if (I 119 30 : Int32) = (8 : Int32) then (r10_errs I 3).bind fun z15 => some (.inl (z15.1, z15.2)) else (if ((r10_isWord I 6) : Int32) = (0 : Int32) then some (y1 + 1) else some y1 : Option (Int32)).bind fun z11 => (if ((r10_isWord I 6) : Int32) = (0 : Int32) then some 12 else some 9 : Option (Int32)).bind fun z12 => (r10_waits0 (mW I 119 30 (I 119 30 + 1)) z12).bind fun z13 => (r10_reads z13).bind fun z14 => l10_readAny_9 f z11 y2 z14
def r10_readAny (I : mI) : Option (Int32 × mI) := (l10_readAny_9 FU 0 1 (mW I 119 32 0)).bind fun z0 => match z0 with | .inl rz0 => some rz0 | .inr wz0 => (r10_errs wz0 1).bind fun z1 => some (z1.1, z1.2)
set_option maxHeartbeats 4000000 in
set_option maxRecDepth 100000 in
theorem t10_readAny_9 (X : Nat × (Nat → Int32)) (Q : mQ) (s : Nat) : ∀ (f : Nat) (y1 : Int32) (y2 : Int32) (I : mI) (z : (Int32 × mI) ⊕ (mI)), l10_readAny_9 f y1 y2 I = some z → (∀ res, z = .inl res → Q (some (.int res.1)) NN KK res.2 (PP s)) → (∀ w, z = .inr w → mV X m10_readAny 7 0 0 200 [.ref 119, mX0, mX0, mX0] [] NN KK w (PP s) Q) → mV X m10_readAny 7 0 0 9 [.ref 119, .int y1, .int y2, mX0] [] NN KK I (PP s) Q := by
  intro f
  induction f with
  | zero => intro y1 y2 I z hr hret hk; cases hr
  | succ f ih =>
    intro y1 y2 I z hr hret hk
    unfold l10_readAny_9 at hr
    refine mV_iload f10_readAny_9 rfl ?_
    refine mV_if_eq f10_readAny_10 (fun h0 => ?_) (fun h0 => ?_)
    · rw [if_pos h0] at hr
      refine mV_aload f10_readAny_109 rfl ?_
      refine mV_push f10_readAny_110 ?_
      refine mV_cV f10_readAny_111 tg_m10_isWord mCls10 (by decide) kk_119 (mC_deep (c10_isWord X I s 5 rfl) (by decide)) rfl rfl (Nat.le_of_ble_eq_true rfl) ?_
      refine mV_if_eq f10_readAny_114 (fun h1 => ?_) (fun h1 => ?_)
      · rw [if_pos h1] at hr
        refine mV_aload f10_readAny_138 rfl ?_
        refine mV_push f10_readAny_139 ?_
        refine mV_cV f10_readAny_140 tg_m10_isWord mCls10 (by decide) kk_119 (mC_deep (c10_isWord X I s 4 rfl) (by decide)) rfl rfl (Nat.le_of_ble_eq_true rfl) ?_
        refine mV_if_eq f10_readAny_143 (fun h2 => ?_) (fun h2 => ?_)
        · rw [if_pos h2] at hr
          refine mV_aload f10_readAny_173 rfl ?_
          refine mV_push f10_readAny_174 ?_
          obtain ⟨z0, hz0, hr⟩ := mBind hr
          refine mV_cV f10_readAny_176 tg_m10_settles0 mCls10 (by decide) kk_119 (mC_deep (c10_settles0 X I s 10 hz0) (by decide)) rfl rfl (Nat.le_of_ble_eq_true rfl) ?_
          refine mV_aload f10_readAny_179 rfl ?_
          refine mV_push f10_readAny_180 ?_
          obtain ⟨z1, hz1, hr⟩ := mBind hr
          refine mV_cV f10_readAny_182 tg_m10_settles0 mCls10 (by decide) kk_119 (mC_deep (c10_settles0 X z0 s 11 hz1) (by decide)) rfl rfl (Nat.le_of_ble_eq_true rfl) ?_
          refine mV_iload f10_readAny_185 rfl ?_
          refine mV_if_ne f10_readAny_186 (fun h3 => ?_) (fun h3 => ?_)
          · rw [if_neg h3] at hr
            refine mV_aload f10_readAny_191 rfl ?_
            refine mV_push f10_readAny_192 ?_
            refine mV_cV f10_readAny_194 tg_m10_isSign mCls10 (by decide) kk_119 (mC_deep (c10_isSign X z1 s 41 rfl) (by decide)) rfl rfl (Nat.le_of_ble_eq_true rfl) ?_
            refine mV_if_ne f10_readAny_197 (fun h4 => ?_) (fun h4 => ?_)
            · rw [if_neg h4] at hr
              refine mV_aload f10_readAny_206 rfl ?_
              refine mV_aload f10_readAny_207 rfl ?_
              refine mV_gI (z1 119 32) f10_readAny_208 (by decide) kk_119 rfl rfl ?_
              refine mV_push f10_readAny_211 ?_
              refine mV_isub f10_readAny_212 ?_
              refine mV_putI f10_readAny_213 (by decide) kk_119 rfl rfl ?_
              refine mV_iload f10_readAny_216 rfl ?_
              refine mV_push f10_readAny_217 ?_
              refine mV_isub f10_readAny_218 ?_
              refine mV_istore (L' := [.ref 119, .int (y1 - 1), .int y2, mX0]) f10_readAny_219 (by decide) rfl rfl ?_
              refine mV_aload f10_readAny_220 rfl ?_
              refine mV_aload f10_readAny_221 rfl ?_
              refine mV_gI (z1 119 30) f10_readAny_222 (by decide) kk_119 rfl rfl ?_
              refine mV_push f10_readAny_225 ?_
              refine mV_isub f10_readAny_226 ?_
              refine mV_putI f10_readAny_227 (by decide) kk_119 rfl rfl ?_
              refine mV_aload f10_readAny_230 rfl ?_
              refine mV_push f10_readAny_231 ?_
              obtain ⟨z2, hz2, hr⟩ := mBind hr
              refine mV_cV f10_readAny_233 tg_m10_settles0 mCls10 (by decide) kk_119 (mC_deep (c10_settles0 X (mW (mW z1 119 32 (z1 119 32 - 1)) 119 30 (z1 119 30 - 1)) s 9 hz2) (by decide)) rfl rfl (Nat.le_of_ble_eq_true rfl) ?_
              refine mV_aload f10_readAny_236 rfl ?_
              obtain ⟨z3, hz3, hr⟩ := mBind hr
              refine mV_cV f10_readAny_237 tg_m10_reads mCls10 (by decide) kk_119 (mC_deep (c10_reads X z2 s hz3) (by decide)) rfl rfl (Nat.le_of_ble_eq_true rfl) ?_
              refine mV_goto f10_readAny_240 ?_
              exact ih (y1 - 1) y2 z3 _ hr hret hk
            · rw [if_pos h4] at hr
              have hr := Option.some.inj hr; subst hr
              refine mV_drop (L' := [.ref 119, mX0, mX0, mX0]) (mSub_k (mSub_x (mSub_x (mSub_x mSub_n)))) ?_
              exact hk _ rfl
          · rw [if_pos h3] at hr
            refine mV_push f10_readAny_189 ?_
            have hr := Option.some.inj hr; subst hr; have hQ := hret _ rfl
            exact mV_iret rfl rfl f10_readAny_190 hQ
        · rw [if_neg h2] at hr
          refine mV_aload f10_readAny_146 rfl ?_
          refine mV_push f10_readAny_147 ?_
          obtain ⟨z4, hz4, hr⟩ := mBind hr
          refine mV_cV f10_readAny_149 tg_m10_settles0 mCls10 (by decide) kk_119 (mC_deep (c10_settles0 X I s 10 hz4) (by decide)) rfl rfl (Nat.le_of_ble_eq_true rfl) ?_
          refine mV_aload f10_readAny_152 rfl ?_
          refine mV_push f10_readAny_153 ?_
          obtain ⟨z5, hz5, hr⟩ := mBind hr
          refine mV_cV f10_readAny_155 tg_m10_settles0 mCls10 (by decide) kk_119 (mC_deep (c10_settles0 X z4 s 11 hz5) (by decide)) rfl rfl (Nat.le_of_ble_eq_true rfl) ?_
          refine mV_aload f10_readAny_158 rfl ?_
          refine mV_push f10_readAny_159 ?_
          obtain ⟨z6, hz6, hr⟩ := mBind hr
          refine mV_cV f10_readAny_161 tg_m10_waits0 mCls10 (by decide) kk_119 (mC_deep (c10_waits0 X z5 s 11 hz6) (by decide)) rfl rfl (Nat.le_of_ble_eq_true rfl) ?_
          refine mV_aload f10_readAny_164 rfl ?_
          obtain ⟨z7, hz7, hr⟩ := mBind hr
          refine mV_cV f10_readAny_165 tg_m10_reads mCls10 (by decide) kk_119 (mC_deep (c10_reads X z6 s hz7) (by decide)) rfl rfl (Nat.le_of_ble_eq_true rfl) ?_
          refine mV_push f10_readAny_168 ?_
          refine mV_istore (L' := [.ref 119, .int y1, .int 1, mX0]) f10_readAny_169 (by decide) rfl rfl ?_
          refine mV_goto f10_readAny_170 ?_
          exact ih y1 1 z7 _ hr hret hk
      · rw [if_neg h1] at hr
        refine mV_aload f10_readAny_117 rfl ?_
        refine mV_push f10_readAny_118 ?_
        obtain ⟨z8, hz8, hr⟩ := mBind hr
        refine mV_cV f10_readAny_120 tg_m10_settles0 mCls10 (by decide) kk_119 (mC_deep (c10_settles0 X I s 10 hz8) (by decide)) rfl rfl (Nat.le_of_ble_eq_true rfl) ?_
        refine mV_aload f10_readAny_123 rfl ?_
        refine mV_push f10_readAny_124 ?_
        obtain ⟨z9, hz9, hr⟩ := mBind hr
        refine mV_cV f10_readAny_126 tg_m10_waits0 mCls10 (by decide) kk_119 (mC_deep (c10_waits0 X z8 s 10 hz9) (by decide)) rfl rfl (Nat.le_of_ble_eq_true rfl) ?_
        refine mV_aload f10_readAny_129 rfl ?_
        obtain ⟨z10, hz10, hr⟩ := mBind hr
        refine mV_cV f10_readAny_130 tg_m10_reads mCls10 (by decide) kk_119 (mC_deep (c10_reads X z9 s hz10) (by decide)) rfl rfl (Nat.le_of_ble_eq_true rfl) ?_
        refine mV_push f10_readAny_133 ?_
        refine mV_istore (L' := [.ref 119, .int y1, .int 1, mX0]) f10_readAny_134 (by decide) rfl rfl ?_
        refine mV_goto f10_readAny_135 ?_
        exact ih y1 1 z10 _ hr hret hk
    · rw [if_neg h0] at hr
      refine mV_aload f10_readAny_13 rfl ?_
      refine mV_push f10_readAny_14 ?_
      refine mV_cV f10_readAny_16 tg_m10_isWord mCls10 (by decide) kk_119 (mC_deep (c10_isWord X I s 6 rfl) (by decide)) rfl rfl (Nat.le_of_ble_eq_true rfl) ?_
      refine mV_istore (L' := [.ref 119, .int y1, .int y2, .int (r10_isWord I 6)]) f10_readAny_19 (by decide) rfl rfl ?_
      refine mV_iload f10_readAny_20 rfl ?_
      refine mV_if_ne f10_readAny_21 (fun h5 => ?_) (fun h5 => ?_)
      · rw [if_neg h5] at hr
        refine mV_aload f10_readAny_33 rfl ?_
        refine mV_gI (I 119 30) f10_readAny_34 (by decide) kk_119 rfl rfl ?_
        refine mV_push f10_readAny_37 ?_
        refine mV_icmp_ne f10_readAny_39 (fun h6 => ?_) (fun h6 => ?_)
        · rw [if_neg h6] at hr
          refine mV_aload f10_readAny_48 rfl ?_
          refine mV_aload f10_readAny_49 rfl ?_
          refine mV_gI (I 119 30) f10_readAny_50 (by decide) kk_119 rfl rfl ?_
          refine mV_push f10_readAny_53 ?_
          refine mV_iadd f10_readAny_54 ?_
          refine mV_putI f10_readAny_55 (by decide) kk_119 rfl rfl ?_
          refine mV_iload f10_readAny_58 rfl ?_
          obtain ⟨z11, hz11, hr⟩ := mBind hr
          have keyz11 : mV X m10_readAny 7 0 0 66 [.ref 119, .int z11, .int y2, .int (r10_isWord I 6)] [] NN KK (mW I 119 30 (I 119 30 + 1)) (PP s) Q := by
            refine mV_aload f10_readAny_66 rfl ?_
            refine mV_iload f10_readAny_67 rfl ?_
            obtain ⟨z12, hz12, hr⟩ := mBind hr
            have keyz12 : mV X m10_readAny 7 0 0 78 [.ref 119, .int z11, .int y2, mX0] [.int z12, .ref 119] NN KK (mW I 119 30 (I 119 30 + 1)) (PP s) Q := by
              obtain ⟨z13, hz13, hr⟩ := mBind hr
              refine mV_cV f10_readAny_78 tg_m10_waits0 mCls10 (by decide) kk_119 (mC_deep (c10_waits0 X (mW I 119 30 (I 119 30 + 1)) s z12 hz13) (by decide)) rfl rfl (Nat.le_of_ble_eq_true rfl) ?_
              refine mV_aload f10_readAny_81 rfl ?_
              obtain ⟨z14, hz14, hr⟩ := mBind hr
              refine mV_cV f10_readAny_82 tg_m10_reads mCls10 (by decide) kk_119 (mC_deep (c10_reads X z13 s hz14) (by decide)) rfl rfl (Nat.le_of_ble_eq_true rfl) ?_
              refine mV_goto f10_readAny_85 ?_
              exact ih z11 y2 z14 _ hr hret hk
            clear hr
            have hr := hz12
            clear hz12
            refine mV_if_eq f10_readAny_68 (fun h8 => ?_) (fun h8 => ?_)
            · rw [if_pos h8] at hr
              refine mV_push f10_readAny_76 ?_
              have hr := Option.some.inj hr; subst hr
              refine mV_drop (L' := [.ref 119, .int z11, .int y2, mX0]) (mSub_k (mSub_k (mSub_k (mSub_x mSub_n)))) ?_
              exact keyz12
            · rw [if_neg h8] at hr
              refine mV_push f10_readAny_71 ?_
              refine mV_goto f10_readAny_73 ?_
              have hr := Option.some.inj hr; subst hr
              refine mV_drop (L' := [.ref 119, .int z11, .int y2, mX0]) (mSub_k (mSub_k (mSub_k (mSub_x mSub_n)))) ?_
              exact keyz12
          clear hr
          have hr := hz11
          clear hz11
          refine mV_if_ne f10_readAny_59 (fun h7 => ?_) (fun h7 => ?_)
          · rw [if_neg h7] at hr
            have hr := Option.some.inj hr; subst hr
            exact keyz11
          · rw [if_pos h7] at hr
            refine mV_iload f10_readAny_62 rfl ?_
            refine mV_push f10_readAny_63 ?_
            refine mV_iadd f10_readAny_64 ?_
            refine mV_istore (L' := [.ref 119, .int (y1 + 1), .int y2, .int (r10_isWord I 6)]) f10_readAny_65 (by decide) rfl rfl ?_
            have hr := Option.some.inj hr; subst hr
            exact keyz11
        · rw [if_pos h6] at hr
          refine mV_aload f10_readAny_42 rfl ?_
          refine mV_push f10_readAny_43 ?_
          obtain ⟨z15, hz15, hr⟩ := mBind hr
          refine mV_cV f10_readAny_44 tg_m10_errs mCls10 (by decide) kk_119 (mC_deep (c10_errs X I s 3 hz15) (by decide)) rfl rfl (Nat.le_of_ble_eq_true rfl) ?_
          have hr := Option.some.inj hr; subst hr; have hQ := hret _ rfl
          exact mV_iret rfl rfl f10_readAny_47 hQ
      · rw [if_pos h5] at hr
        refine mV_aload f10_readAny_24 rfl ?_
        refine mV_push f10_readAny_25 ?_
        refine mV_cV f10_readAny_27 tg_m10_isSign mCls10 (by decide) kk_119 (mC_deep (c10_isSign X I s 40 rfl) (by decide)) rfl rfl (Nat.le_of_ble_eq_true rfl) ?_
        refine mV_if_eq f10_readAny_30 (fun h9 => ?_) (fun h9 => ?_)
        · rw [if_pos h9] at hr
          refine mV_aload f10_readAny_88 rfl ?_
          obtain ⟨z16, hz16, hr⟩ := mBind hr
          refine mV_cV f10_readAny_89 tg_m10_readCompared mCls10 (by decide) kk_119 (mC_deep (c10_readCompared X I s hz16) (by decide)) rfl rfl (Nat.le_of_ble_eq_true rfl) ?_
          refine mV_push f10_readAny_92 ?_
          refine mV_icmp_ne f10_readAny_93 (fun h10 => ?_) (fun h10 => ?_)
          · rw [if_neg h10] at hr
            refine mV_aload f10_readAny_98 rfl ?_
            refine mV_push f10_readAny_99 ?_
            obtain ⟨z17, hz17, hr⟩ := mBind hr
            refine mV_cV f10_readAny_101 tg_m10_settles0 mCls10 (by decide) kk_119 (mC_deep (c10_settles0 X z16.2 s 9 hz17) (by decide)) rfl rfl (Nat.le_of_ble_eq_true rfl) ?_
            refine mV_push f10_readAny_104 ?_
            refine mV_istore (L' := [.ref 119, .int y1, .int 0, .int (r10_isWord I 6)]) f10_readAny_105 (by decide) rfl rfl ?_
            refine mV_goto f10_readAny_106 ?_
            refine mV_drop (L' := [.ref 119, .int y1, .int 0, mX0]) (mSub_k (mSub_k (mSub_k (mSub_x mSub_n)))) ?_
            exact ih y1 0 z17 _ hr hret hk
          · rw [if_pos h10] at hr
            refine mV_push f10_readAny_96 ?_
            have hr := Option.some.inj hr; subst hr; have hQ := hret _ rfl
            exact mV_iret rfl rfl f10_readAny_97 hQ
        · rw [if_neg h9] at hr
          refine mV_aload f10_readAny_33 rfl ?_
          refine mV_gI (I 119 30) f10_readAny_34 (by decide) kk_119 rfl rfl ?_
          refine mV_push f10_readAny_37 ?_
          refine mV_icmp_ne f10_readAny_39 (fun h11 => ?_) (fun h11 => ?_)
          · rw [if_neg h11] at hr
            refine mV_aload f10_readAny_48 rfl ?_
            refine mV_aload f10_readAny_49 rfl ?_
            refine mV_gI (I 119 30) f10_readAny_50 (by decide) kk_119 rfl rfl ?_
            refine mV_push f10_readAny_53 ?_
            refine mV_iadd f10_readAny_54 ?_
            refine mV_putI f10_readAny_55 (by decide) kk_119 rfl rfl ?_
            refine mV_iload f10_readAny_58 rfl ?_
            obtain ⟨z18, hz18, hr⟩ := mBind hr
            have keyz18 : mV X m10_readAny 7 0 0 66 [.ref 119, .int z18, .int y2, .int (r10_isWord I 6)] [] NN KK (mW I 119 30 (I 119 30 + 1)) (PP s) Q := by
              refine mV_aload f10_readAny_66 rfl ?_
              refine mV_iload f10_readAny_67 rfl ?_
              obtain ⟨z19, hz19, hr⟩ := mBind hr
              have keyz19 : mV X m10_readAny 7 0 0 78 [.ref 119, .int z18, .int y2, mX0] [.int z19, .ref 119] NN KK (mW I 119 30 (I 119 30 + 1)) (PP s) Q := by
                obtain ⟨z20, hz20, hr⟩ := mBind hr
                refine mV_cV f10_readAny_78 tg_m10_waits0 mCls10 (by decide) kk_119 (mC_deep (c10_waits0 X (mW I 119 30 (I 119 30 + 1)) s z19 hz20) (by decide)) rfl rfl (Nat.le_of_ble_eq_true rfl) ?_
                refine mV_aload f10_readAny_81 rfl ?_
                obtain ⟨z21, hz21, hr⟩ := mBind hr
                refine mV_cV f10_readAny_82 tg_m10_reads mCls10 (by decide) kk_119 (mC_deep (c10_reads X z20 s hz21) (by decide)) rfl rfl (Nat.le_of_ble_eq_true rfl) ?_
                refine mV_goto f10_readAny_85 ?_
                exact ih z18 y2 z21 _ hr hret hk
              clear hr
              have hr := hz19
              clear hz19
              refine mV_if_eq f10_readAny_68 (fun h13 => ?_) (fun h13 => ?_)
              · rw [if_pos h13] at hr
                refine mV_push f10_readAny_76 ?_
                have hr := Option.some.inj hr; subst hr
                refine mV_drop (L' := [.ref 119, .int z18, .int y2, mX0]) (mSub_k (mSub_k (mSub_k (mSub_x mSub_n)))) ?_
                exact keyz19
              · rw [if_neg h13] at hr
                refine mV_push f10_readAny_71 ?_
                refine mV_goto f10_readAny_73 ?_
                have hr := Option.some.inj hr; subst hr
                refine mV_drop (L' := [.ref 119, .int z18, .int y2, mX0]) (mSub_k (mSub_k (mSub_k (mSub_x mSub_n)))) ?_
                exact keyz19
            clear hr
            have hr := hz18
            clear hz18
            refine mV_if_ne f10_readAny_59 (fun h12 => ?_) (fun h12 => ?_)
            · rw [if_neg h12] at hr
              have hr := Option.some.inj hr; subst hr
              exact keyz18
            · rw [if_pos h12] at hr
              refine mV_iload f10_readAny_62 rfl ?_
              refine mV_push f10_readAny_63 ?_
              refine mV_iadd f10_readAny_64 ?_
              refine mV_istore (L' := [.ref 119, .int (y1 + 1), .int y2, .int (r10_isWord I 6)]) f10_readAny_65 (by decide) rfl rfl ?_
              have hr := Option.some.inj hr; subst hr
              exact keyz18
          · rw [if_pos h11] at hr
            refine mV_aload f10_readAny_42 rfl ?_
            refine mV_push f10_readAny_43 ?_
            obtain ⟨z22, hz22, hr⟩ := mBind hr
            refine mV_cV f10_readAny_44 tg_m10_errs mCls10 (by decide) kk_119 (mC_deep (c10_errs X I s 3 hz22) (by decide)) rfl rfl (Nat.le_of_ble_eq_true rfl) ?_
            have hr := Option.some.inj hr; subst hr; have hQ := hret _ rfl
            exact mV_iret rfl rfl f10_readAny_47 hQ
set_option maxHeartbeats 4000000 in
set_option maxRecDepth 100000 in
theorem w10_readAny (X : Nat × (Nat → Int32)) (I : mI) (s : Nat) (Q : mQ) {res : Int32 × mI} (hr : r10_readAny I = some res) (hQ : Q (some (.int res.1)) NN KK res.2 (PP s)) : mV X m10_readAny 7 0 0 0 [.ref 119, mX0, mX0, mX0] [] NN KK I (PP s) Q := by
  unfold r10_readAny at hr
  refine mV_push f10_readAny_0 ?_
  refine mV_istore (L' := [.ref 119, .int 0, mX0, mX0]) f10_readAny_1 (by decide) rfl rfl ?_
  refine mV_aload f10_readAny_2 rfl ?_
  refine mV_push f10_readAny_3 ?_
  refine mV_putI f10_readAny_4 (by decide) kk_119 rfl rfl ?_
  refine mV_push f10_readAny_7 ?_
  refine mV_istore (L' := [.ref 119, .int 0, .int 1, mX0]) f10_readAny_8 (by decide) rfl rfl ?_
  obtain ⟨z0, hz0, hr⟩ := mBind hr
  refine t10_readAny_9 X Q s FU 0 1 (mW I 119 32 0) _ hz0 (fun res ez0 => ?_) (fun wz0 ez0 => ?_)
  · rw [ez0] at hr; have hr := Option.some.inj hr; subst hr; exact hQ
  rw [ez0] at hr
  dsimp only at hr
  refine mV_aload f10_readAny_200 rfl ?_
  refine mV_push f10_readAny_201 ?_
  obtain ⟨z1, hz1, hr⟩ := mBind hr
  refine mV_cV f10_readAny_202 tg_m10_errs mCls10 (by decide) kk_119 (mC_deep (c10_errs X wz0 s 1 hz1) (by decide)) rfl rfl (Nat.le_of_ble_eq_true rfl) ?_
  have hr := Option.some.inj hr; subst hr
  exact mV_iret rfl rfl f10_readAny_205 hQ
theorem c10_readAny (X : Nat × (Nat → Int32)) (I : mI) (s : Nat) {res : Int32 × mI} (hr : r10_readAny I = some res) : mC X m10_readAny 7 0 0 [.ref 119] NN KK I (PP s) (mRet (some (.int res.1)) NN KK res.2 (PP s)) :=
  mC_of (L0 := [.ref 119, mX0, mX0, mX0]) rfl (Nat.le_of_ble_eq_true rfl) (w10_readAny X I s _ hr (mRet_ok _ _ _ _ _))
def r10_isLineWord (I : mI) : Int32 := if (I 119 18 : Int32) = (2 : Int32) then if ((r10_isIn (I 119 19) 0 2) : Int32) = (0 : Int32) then 0 else 1 else 0
set_option maxHeartbeats 4000000 in
set_option maxRecDepth 100000 in
theorem w10_isLineWord (X : Nat × (Nat → Int32)) (I : mI) (s : Nat) (Q : mQ) {res : Int32} (hr : r10_isLineWord I = res) (hQ : Q (some (.int res)) NN KK I (PP s)) : mV X m10_isLineWord 1 0 0 0 [.ref 119] [] NN KK I (PP s) Q := by
  unfold r10_isLineWord at hr
  refine mV_aload f10_isLineWord_0 rfl ?_
  refine mV_gI (I 119 18) f10_isLineWord_1 (by decide) kk_119 rfl rfl ?_
  refine mV_push f10_isLineWord_4 ?_
  refine mV_icmp_ne f10_isLineWord_5 (fun h0 => ?_) (fun h0 => ?_)
  · rw [if_neg h0] at hr
    refine mV_push f10_isLineWord_25 ?_
    subst hr
    exact mV_iret rfl rfl f10_isLineWord_26 hQ
  · rw [if_pos h0] at hr
    refine mV_aload f10_isLineWord_8 rfl ?_
    refine mV_aload f10_isLineWord_9 rfl ?_
    refine mV_gI (I 119 19) f10_isLineWord_10 (by decide) kk_119 rfl rfl ?_
    refine mV_push f10_isLineWord_13 ?_
    refine mV_push f10_isLineWord_14 ?_
    refine mV_cV f10_isLineWord_15 tg_m10_isIn mCls10 (by decide) kk_119 (mC_deep (c10_isIn X I s (I 119 19) 0 2 rfl) (by decide)) rfl rfl (Nat.le_of_ble_eq_true rfl) ?_
    refine mV_if_eq f10_isLineWord_18 (fun h1 => ?_) (fun h1 => ?_)
    · rw [if_pos h1] at hr
      refine mV_push f10_isLineWord_25 ?_
      subst hr
      exact mV_iret rfl rfl f10_isLineWord_26 hQ
    · rw [if_neg h1] at hr
      refine mV_push f10_isLineWord_21 ?_
      refine mV_goto f10_isLineWord_22 ?_
      subst hr
      exact mV_iret rfl rfl f10_isLineWord_26 hQ
theorem c10_isLineWord (X : Nat × (Nat → Int32)) (I : mI) (s : Nat) {res : Int32} (hr : r10_isLineWord I = res) : mC X m10_isLineWord 1 0 0 [.ref 119] NN KK I (PP s) (mRet (some (.int res)) NN KK I (PP s)) :=
  mC_of (L0 := [.ref 119]) rfl (Nat.le_of_ble_eq_true rfl) (w10_isLineWord X I s _ hr (mRet_ok _ _ _ _ _))

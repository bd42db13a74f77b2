def r10_readCompared (I : mI) : Option (Int32 × mI) := (r10_readSum I).bind fun z0 => if (z0.1 : Int32) = ((-1) : Int32) then some ((-1), z0.2) else if ((r10_isSign z0.2 60) : Int32) = (0 : Int32) then if ((r10_isSign z0.2 61) : Int32) = (0 : Int32) then if ((r10_isSign z0.2 62) : Int32) = (0 : Int32) then (r10_errs z0.2 1).bind fun z13 => some (z13.1, z13.2) else (if (z0.2 119 19 : Int32) = (60 : Int32) then some 6 else if (z0.2 119 19 : Int32) = (61 : Int32) then some 7 else some 8 : Option (Int32)).bind fun z9 => (r10_reads z0.2).bind fun z10 => (r10_readSum z10).bind fun z11 => if (z11.1 : Int32) = ((-1) : Int32) then some ((-1), z11.2) else (r10_emits z11.2 z9 0).bind fun z12 => some (0, z12) else (if (z0.2 119 19 : Int32) = (60 : Int32) then some 6 else if (z0.2 119 19 : Int32) = (61 : Int32) then some 7 else some 8 : Option (Int32)).bind fun z5 => (r10_reads z0.2).bind fun z6 => (r10_readSum z6).bind fun z7 => if (z7.1 : Int32) = ((-1) : Int32) then some ((-1), z7.2) else (r10_emits z7.2 z5 0).bind fun z8 => some (0, z8) else (if (z0.2 119 19 : Int32) = (60 : Int32) then some 6 else if (z0.2 119 19 : Int32) = (61 : Int32) then some 7 else some 8 : Option (Int32)).bind fun z1 => (r10_reads z0.2).bind fun z2 => (r10_readSum z2).bind fun z3 => if (z3.1 : Int32) = ((-1) : Int32) then some ((-1), z3.2) else (r10_emits z3.2 z1 0).bind fun z4 => some (0, z4)
set_option maxHeartbeats 4000000 in
set_option maxRecDepth 100000 in
theorem w10_readCompared (X : Nat × (Nat → Int32)) (I : mI) (s : Nat) (Q : mQ) {res : Int32 × mI} (hr : r10_readCompared I = some res) (hQ : Q (some (.int res.1)) NN KK res.2 (PP s)) : mV X m10_readCompared 6 0 0 0 [.ref 119, mX0] [] NN KK I (PP s) Q := by
  unfold r10_readCompared at hr
  refine mV_aload f10_readCompared_0 rfl ?_
  obtain ⟨z0, hz0, hr⟩ := mBind hr
  refine mV_cV f10_readCompared_1 tg_m10_readSum mCls10 (by decide) kk_119 (mC_deep (c10_readSum X I s hz0) (by decide)) rfl rfl (Nat.le_of_ble_eq_true rfl) ?_
  refine mV_push f10_readCompared_4 ?_
  refine mV_icmp_ne f10_readCompared_5 (fun h0 => ?_) (fun h0 => ?_)
  · rw [if_neg h0] at hr
    refine mV_aload f10_readCompared_10 rfl ?_
    refine mV_push f10_readCompared_11 ?_
    refine mV_cV f10_readCompared_13 tg_m10_isSign mCls10 (by decide) kk_119 (mC_deep (c10_isSign X z0.2 s 60 rfl) (by decide)) rfl rfl (Nat.le_of_ble_eq_true rfl) ?_
    refine mV_if_ne f10_readCompared_16 (fun h1 => ?_) (fun h1 => ?_)
    · rw [if_neg h1] at hr
      refine mV_aload f10_readCompared_43 rfl ?_
      refine mV_gI (z0.2 119 19) f10_readCompared_44 (by decide) kk_119 rfl rfl ?_
      refine mV_push f10_readCompared_47 ?_
      obtain ⟨z1, hz1, hr⟩ := mBind hr
      have keyz1 : mV X m10_readCompared 6 0 0 73 [.ref 119, mX0] [.int z1] NN KK z0.2 (PP s) Q := by
        refine mV_istore (L' := [.ref 119, .int z1]) f10_readCompared_73 (by decide) rfl rfl ?_
        refine mV_aload f10_readCompared_74 rfl ?_
        obtain ⟨z2, hz2, hr⟩ := mBind hr
        refine mV_cV f10_readCompared_75 tg_m10_reads mCls10 (by decide) kk_119 (mC_deep (c10_reads X z0.2 s hz2) (by decide)) rfl rfl (Nat.le_of_ble_eq_true rfl) ?_
        refine mV_aload f10_readCompared_78 rfl ?_
        obtain ⟨z3, hz3, hr⟩ := mBind hr
        refine mV_cV f10_readCompared_79 tg_m10_readSum mCls10 (by decide) kk_119 (mC_deep (c10_readSum X z2 s hz3) (by decide)) rfl rfl (Nat.le_of_ble_eq_true rfl) ?_
        refine mV_push f10_readCompared_82 ?_
        refine mV_icmp_ne f10_readCompared_83 (fun h4 => ?_) (fun h4 => ?_)
        · rw [if_neg h4] at hr
          refine mV_aload f10_readCompared_88 rfl ?_
          refine mV_iload f10_readCompared_89 rfl ?_
          refine mV_push f10_readCompared_90 ?_
          obtain ⟨z4, hz4, hr⟩ := mBind hr
          refine mV_cV f10_readCompared_91 tg_m10_emits mCls10 (by decide) kk_119 (mC_deep (c10_emits X z3.2 s z1 0 hz4) (by decide)) rfl rfl (Nat.le_of_ble_eq_true rfl) ?_
          refine mV_push f10_readCompared_94 ?_
          have hr := Option.some.inj hr; subst hr
          exact mV_iret rfl rfl f10_readCompared_95 hQ
        · rw [if_pos h4] at hr
          refine mV_push f10_readCompared_86 ?_
          have hr := Option.some.inj hr; subst hr
          exact mV_iret rfl rfl f10_readCompared_87 hQ
      clear hr
      have hr := hz1
      clear hz1
      refine mV_icmp_ne f10_readCompared_49 (fun h2 => ?_) (fun h2 => ?_)
      · rw [if_neg h2] at hr
        refine mV_aload f10_readCompared_57 rfl ?_
        refine mV_gI (z0.2 119 19) f10_readCompared_58 (by decide) kk_119 rfl rfl ?_
        refine mV_push f10_readCompared_61 ?_
        refine mV_icmp_ne f10_readCompared_63 (fun h3 => ?_) (fun h3 => ?_)
        · rw [if_neg h3] at hr
          refine mV_push f10_readCompared_71 ?_
          have hr := Option.some.inj hr; subst hr
          exact keyz1
        · rw [if_pos h3] at hr
          refine mV_push f10_readCompared_66 ?_
          refine mV_goto f10_readCompared_68 ?_
          have hr := Option.some.inj hr; subst hr
          exact keyz1
      · rw [if_pos h2] at hr
        refine mV_push f10_readCompared_52 ?_
        refine mV_goto f10_readCompared_54 ?_
        have hr := Option.some.inj hr; subst hr
        exact keyz1
    · rw [if_pos h1] at hr
      refine mV_aload f10_readCompared_19 rfl ?_
      refine mV_push f10_readCompared_20 ?_
      refine mV_cV f10_readCompared_22 tg_m10_isSign mCls10 (by decide) kk_119 (mC_deep (c10_isSign X z0.2 s 61 rfl) (by decide)) rfl rfl (Nat.le_of_ble_eq_true rfl) ?_
      refine mV_if_ne f10_readCompared_25 (fun h5 => ?_) (fun h5 => ?_)
      · rw [if_neg h5] at hr
        refine mV_aload f10_readCompared_43 rfl ?_
        refine mV_gI (z0.2 119 19) f10_readCompared_44 (by decide) kk_119 rfl rfl ?_
        refine mV_push f10_readCompared_47 ?_
        obtain ⟨z5, hz5, hr⟩ := mBind hr
        have keyz5 : mV X m10_readCompared 6 0 0 73 [.ref 119, mX0] [.int z5] NN KK z0.2 (PP s) Q := by
          refine mV_istore (L' := [.ref 119, .int z5]) f10_readCompared_73 (by decide) rfl rfl ?_
          refine mV_aload f10_readCompared_74 rfl ?_
          obtain ⟨z6, hz6, hr⟩ := mBind hr
          refine mV_cV f10_readCompared_75 tg_m10_reads mCls10 (by decide) kk_119 (mC_deep (c10_reads X z0.2 s hz6) (by decide)) rfl rfl (Nat.le_of_ble_eq_true rfl) ?_
          refine mV_aload f10_readCompared_78 rfl ?_
          obtain ⟨z7, hz7, hr⟩ := mBind hr
          refine mV_cV f10_readCompared_79 tg_m10_readSum mCls10 (by decide) kk_119 (mC_deep (c10_readSum X z6 s hz7) (by decide)) rfl rfl (Nat.le_of_ble_eq_true rfl) ?_
          refine mV_push f10_readCompared_82 ?_
          refine mV_icmp_ne f10_readCompared_83 (fun h8 => ?_) (fun h8 => ?_)
          · rw [if_neg h8] at hr
            refine mV_aload f10_readCompared_88 rfl ?_
            refine mV_iload f10_readCompared_89 rfl ?_
            refine mV_push f10_readCompared_90 ?_
            obtain ⟨z8, hz8, hr⟩ := mBind hr
            refine mV_cV f10_readCompared_91 tg_m10_emits mCls10 (by decide) kk_119 (mC_deep (c10_emits X z7.2 s z5 0 hz8) (by decide)) rfl rfl (Nat.le_of_ble_eq_true rfl) ?_
            refine mV_push f10_readCompared_94 ?_
            have hr := Option.some.inj hr; subst hr
            exact mV_iret rfl rfl f10_readCompared_95 hQ
          · rw [if_pos h8] at hr
            refine mV_push f10_readCompared_86 ?_
            have hr := Option.some.inj hr; subst hr
            exact mV_iret rfl rfl f10_readCompared_87 hQ
        clear hr
        have hr := hz5
        clear hz5
        refine mV_icmp_ne f10_readCompared_49 (fun h6 => ?_) (fun h6 => ?_)
        · rw [if_neg h6] at hr
          refine mV_aload f10_readCompared_57 rfl ?_
          refine mV_gI (z0.2 119 19) f10_readCompared_58 (by decide) kk_119 rfl rfl ?_
          refine mV_push f10_readCompared_61 ?_
          refine mV_icmp_ne f10_readCompared_63 (fun h7 => ?_) (fun h7 => ?_)
          · rw [if_neg h7] at hr
            refine mV_push f10_readCompared_71 ?_
            have hr := Option.some.inj hr; subst hr
            exact keyz5
          · rw [if_pos h7] at hr
            refine mV_push f10_readCompared_66 ?_
            refine mV_goto f10_readCompared_68 ?_
            have hr := Option.some.inj hr; subst hr
            exact keyz5
        · rw [if_pos h6] at hr
          refine mV_push f10_readCompared_52 ?_
          refine mV_goto f10_readCompared_54 ?_
          have hr := Option.some.inj hr; subst hr
          exact keyz5
      · rw [if_pos h5] at hr
        refine mV_aload f10_readCompared_28 rfl ?_
        refine mV_push f10_readCompared_29 ?_
        refine mV_cV f10_readCompared_31 tg_m10_isSign mCls10 (by decide) kk_119 (mC_deep (c10_isSign X z0.2 s 62 rfl) (by decide)) rfl rfl (Nat.le_of_ble_eq_true rfl) ?_
        refine mV_if_ne f10_readCompared_34 (fun h9 => ?_) (fun h9 => ?_)
        · rw [if_neg h9] at hr
          refine mV_aload f10_readCompared_43 rfl ?_
          refine mV_gI (z0.2 119 19) f10_readCompared_44 (by decide) kk_119 rfl rfl ?_
          refine mV_push f10_readCompared_47 ?_
          obtain ⟨z9, hz9, hr⟩ := mBind hr
          have keyz9 : mV X m10_readCompared 6 0 0 73 [.ref 119, mX0] [.int z9] NN KK z0.2 (PP s) Q := by
            refine mV_istore (L' := [.ref 119, .int z9]) f10_readCompared_73 (by decide) rfl rfl ?_
            refine mV_aload f10_readCompared_74 rfl ?_
            obtain ⟨z10, hz10, hr⟩ := mBind hr
            refine mV_cV f10_readCompared_75 tg_m10_reads mCls10 (by decide) kk_119 (mC_deep (c10_reads X z0.2 s hz10) (by decide)) rfl rfl (Nat.le_of_ble_eq_true rfl) ?_
            refine mV_aload f10_readCompared_78 rfl ?_
            obtain ⟨z11, hz11, hr⟩ := mBind hr
            refine mV_cV f10_readCompared_79 tg_m10_readSum mCls10 (by decide) kk_119 (mC_deep (c10_readSum X z10 s hz11) (by decide)) rfl rfl (Nat.le_of_ble_eq_true rfl) ?_
            refine mV_push f10_readCompared_82 ?_
            refine mV_icmp_ne f10_readCompared_83 (fun h12 => ?_) (fun h12 => ?_)
            · rw [if_neg h12] at hr
              refine mV_aload f10_readCompared_88 rfl ?_
              refine mV_iload f10_readCompared_89 rfl ?_
              refine mV_push f10_readCompared_90 ?_
              obtain ⟨z12, hz12, hr⟩ := mBind hr
              refine mV_cV f10_readCompared_91 tg_m10_emits mCls10 (by decide) kk_119 (mC_deep (c10_emits X z11.2 s z9 0 hz12) (by decide)) rfl rfl (Nat.le_of_ble_eq_true rfl) ?_
              refine mV_push f10_readCompared_94 ?_
              have hr := Option.some.inj hr; subst hr
              exact mV_iret rfl rfl f10_readCompared_95 hQ
            · rw [if_pos h12] at hr
              refine mV_push f10_readCompared_86 ?_
              have hr := Option.some.inj hr; subst hr
              exact mV_iret rfl rfl f10_readCompared_87 hQ
          clear hr
          have hr := hz9
          clear hz9
          refine mV_icmp_ne f10_readCompared_49 (fun h10 => ?_) (fun h10 => ?_)
          · rw [if_neg h10] at hr
            refine mV_aload f10_readCompared_57 rfl ?_
            refine mV_gI (z0.2 119 19) f10_readCompared_58 (by decide) kk_119 rfl rfl ?_
            refine mV_push f10_readCompared_61 ?_
            refine mV_icmp_ne f10_readCompared_63 (fun h11 => ?_) (fun h11 => ?_)
            · rw [if_neg h11] at hr
              refine mV_push f10_readCompared_71 ?_
              have hr := Option.some.inj hr; subst hr
              exact keyz9
            · rw [if_pos h11] at hr
              refine mV_push f10_readCompared_66 ?_
              refine mV_goto f10_readCompared_68 ?_
              have hr := Option.some.inj hr; subst hr
              exact keyz9
          · rw [if_pos h10] at hr
            refine mV_push f10_readCompared_52 ?_
            refine mV_goto f10_readCompared_54 ?_
            have hr := Option.some.inj hr; subst hr
            exact keyz9
        · rw [if_pos h9] at hr
          refine mV_aload f10_readCompared_37 rfl ?_
          refine mV_push f10_readCompared_38 ?_
          obtain ⟨z13, hz13, hr⟩ := mBind hr
          refine mV_cV f10_readCompared_39 tg_m10_errs mCls10 (by decide) kk_119 (mC_deep (c10_errs X z0.2 s 1 hz13) (by decide)) rfl rfl (Nat.le_of_ble_eq_true rfl) ?_
          have hr := Option.some.inj hr; subst hr
          exact mV_iret rfl rfl f10_readCompared_42 hQ
  · rw [if_pos h0] at hr
    refine mV_push f10_readCompared_8 ?_
    have hr := Option.some.inj hr; subst hr
    exact mV_iret rfl rfl f10_readCompared_9 hQ
theorem c10_readCompared (X : Nat × (Nat → Int32)) (I : mI) (s : Nat) {res : Int32 × mI} (hr : r10_readCompared I = some res) : mC X m10_readCompared 6 0 0 [.ref 119] NN KK I (PP s) (mRet (some (.int res.1)) NN KK res.2 (PP s)) :=
  mC_of (L0 := [.ref 119, mX0]) rfl (Nat.le_of_ble_eq_true rfl) (w10_readCompared X I s _ hr (mRet_ok _ _ _ _ _))
def r10_waits0 (I : mI) (x0 : Int32) : Option (mI) := (mSto I 138 40 (I 119 32) x0).bind fun z0 => some (mW z0 119 32 (z0 119 32 + 1))
set_option maxHeartbeats 4000000 in
set_option maxRecDepth 100000 in
theorem w10_waits0 (X : Nat × (Nat → Int32)) (I : mI) (s : Nat) (x0 : Int32) (Q : mQ) {res : mI} (hr : r10_waits0 I x0 = some res) (hQ : Q none NN KK res (PP s)) : mV X m10_waits0 0 0 0 0 [.ref 119, .int x0] [] NN KK I (PP s) Q := by
  unfold r10_waits0 at hr
  refine mV_aload f10_waits0_0 rfl ?_
  refine mV_getP f10_waits0_1 (by decide) kk_119 rfl (pp_119_31 _) ?_
  refine mV_aload f10_waits0_4 rfl ?_
  refine mV_gI (I 119 32) f10_waits0_5 (by decide) kk_119 rfl rfl ?_
  refine mV_iload f10_waits0_8 rfl ?_
  obtain ⟨z0, hz0, hr⟩ := mBind hr
  refine mV_stO f10_waits0_9 (by decide) kk_138 hz0 ?_
  refine mV_aload f10_waits0_10 rfl ?_
  refine mV_aload f10_waits0_11 rfl ?_
  refine mV_gI (z0 119 32) f10_waits0_12 (by decide) kk_119 rfl rfl ?_
  refine mV_push f10_waits0_15 ?_
  refine mV_iadd f10_waits0_16 ?_
  refine mV_putI f10_waits0_17 (by decide) kk_119 rfl rfl ?_
  have hr := Option.some.inj hr; subst hr
  exact mV_vret rfl f10_waits0_20 hQ
theorem c10_waits0 (X : Nat × (Nat → Int32)) (I : mI) (s : Nat) (x0 : Int32) {res : mI} (hr : r10_waits0 I x0 = some res) : mC X m10_waits0 0 0 0 [.ref 119, .int x0] NN KK I (PP s) (mRet none NN KK res (PP s)) :=
  mC_of (L0 := [.ref 119, .int x0]) rfl (Nat.le_of_ble_eq_true rfl) (w10_waits0 X I s x0 _ hr (mRet_ok _ _ _ _ _))
def l10_settles0_0 (k1 : Int32) : Nat → mI → Option (mI)
  | 0, _ => none
  | f + 1, I => if (I 119 32 : Int32) ≤ (0 : Int32) then some I else (mLd I 138 40 (I 119 32 - 1)).bind fun z0 => if (z0 : Int32) = (k1 : Int32) then (r10_emits (mW I 119 32 (I 119 32 - 1)) k1 0).bind fun z1 => if (k1 : Int32) = (9 : Int32) then l10_settles0_0 k1 f (mW z1 119 30 (z1 119 30 - 1)) else l10_settles0_0 k1 f z1 else some I
def r10_settles0 (I : mI) (x0 : Int32) : Option (mI) := (l10_settles0_0 x0 FU I).bind fun z0 => some z0
set_option maxHeartbeats 4000000 in
set_option maxRecDepth 100000 in
theorem t10_settles0_0 (X : Nat × (Nat → Int32)) (Q : mQ) (s : Nat) (k1 : Int32) : ∀ (f : Nat) (I : mI) (z : mI), l10_settles0_0 k1 f I = some z → mV X m10_settles0 1 0 0 57 [.ref 119, .int k1] [] NN KK z (PP s) Q → mV X m10_settles0 1 0 0 0 [.ref 119, .int k1] [] NN KK I (PP s) Q := by
  intro f
  induction f with
  | zero => intro I z hr hk; cases hr
  | succ f ih =>
    intro I z hr hk
    unfold l10_settles0_0 at hr
    refine mV_aload f10_settles0_0 rfl ?_
    refine mV_gI (I 119 32) f10_settles0_1 (by decide) kk_119 rfl rfl ?_
    refine mV_if_le f10_settles0_4 (fun h0 => ?_) (fun h0 => ?_)
    · rw [if_pos h0] at hr
      have hr := Option.some.inj hr; subst hr
      exact hk
    · rw [if_neg h0] at hr
      refine mV_aload f10_settles0_7 rfl ?_
      refine mV_getP f10_settles0_8 (by decide) kk_119 rfl (pp_119_31 _) ?_
      refine mV_aload f10_settles0_11 rfl ?_
      refine mV_gI (I 119 32) f10_settles0_12 (by decide) kk_119 rfl rfl ?_
      refine mV_push f10_settles0_15 ?_
      refine mV_isub f10_settles0_16 ?_
      obtain ⟨z0, hz0, hr⟩ := mBind hr
      refine mV_ldO f10_settles0_17 (by decide) kk_138 hz0 ?_
      refine mV_iload f10_settles0_18 rfl ?_
      refine mV_icmp_ne f10_settles0_19 (fun h1 => ?_) (fun h1 => ?_)
      · rw [if_neg h1] at hr
        have hr := Option.some.inj hr; subst hr
        exact hk
      · rw [if_pos h1] at hr
        refine mV_aload f10_settles0_22 rfl ?_
        refine mV_aload f10_settles0_23 rfl ?_
        refine mV_gI (I 119 32) f10_settles0_24 (by decide) kk_119 rfl rfl ?_
        refine mV_push f10_settles0_27 ?_
        refine mV_isub f10_settles0_28 ?_
        refine mV_putI f10_settles0_29 (by decide) kk_119 rfl rfl ?_
        refine mV_aload f10_settles0_32 rfl ?_
        refine mV_iload f10_settles0_33 rfl ?_
        refine mV_push f10_settles0_34 ?_
        obtain ⟨z1, hz1, hr⟩ := mBind hr
        refine mV_cV f10_settles0_35 tg_m10_emits mCls10 (by decide) kk_119 (mC_deep (c10_emits X (mW I 119 32 (I 119 32 - 1)) s k1 0 hz1) (by decide)) rfl rfl (Nat.le_of_ble_eq_true rfl) ?_
        refine mV_iload f10_settles0_38 rfl ?_
        refine mV_push f10_settles0_39 ?_
        refine mV_icmp_ne f10_settles0_41 (fun h2 => ?_) (fun h2 => ?_)
        · rw [if_neg h2] at hr
          exact ih z1 _ hr hk
        · rw [if_pos h2] at hr
          refine mV_aload f10_settles0_44 rfl ?_
          refine mV_aload f10_settles0_45 rfl ?_
          refine mV_gI (z1 119 30) f10_settles0_46 (by decide) kk_119 rfl rfl ?_
          refine mV_push f10_settles0_49 ?_
          refine mV_isub f10_settles0_50 ?_
          refine mV_putI f10_settles0_51 (by decide) kk_119 rfl rfl ?_
          refine mV_goto f10_settles0_54 ?_
          exact ih (mW z1 119 30 (z1 119 30 - 1)) _ hr hk
set_option maxHeartbeats 4000000 in
set_option maxRecDepth 100000 in
theorem w10_settles0 (X : Nat × (Nat → Int32)) (I : mI) (s : Nat) (x0 : Int32) (Q : mQ) {res : mI} (hr : r10_settles0 I x0 = some res) (hQ : Q none NN KK res (PP s)) : mV X m10_settles0 1 0 0 0 [.ref 119, .int x0] [] NN KK I (PP s) Q := by
  unfold r10_settles0 at hr
  obtain ⟨z0, hz0, hr⟩ := mBind hr
  refine t10_settles0_0 X Q s x0 FU I _ hz0 ?_
  have hr := Option.some.inj hr; subst hr
  exact mV_vret rfl f10_settles0_57 hQ
theorem c10_settles0 (X : Nat × (Nat → Int32)) (I : mI) (s : Nat) (x0 : Int32) {res : mI} (hr : r10_settles0 I x0 = some res) : mC X m10_settles0 1 0 0 [.ref 119, .int x0] NN KK I (PP s) (mRet none NN KK res (PP s)) :=
  mC_of (L0 := [.ref 119, .int x0]) rfl (Nat.le_of_ble_eq_true rfl) (w10_settles0 X I s x0 _ hr (mRet_ok _ _ _ _ _))
def l10_readAny_9 : Nat → Int32 → Int32 → mI → Option ((Int32 × mI) ⊕ (mI))
  | 0, _, _, _ => none
  | f + 1, y1, y2, I => if (y2 : Int32) = (0 : Int32) then if ((r10_isWord I 5) : Int32) = (0 : Int32) then if ((r10_isWord I 4) : Int32) = (0 : Int32) then (r10_settles0 I 10).bind fun z0 => (r10_settles0 z0 11).bind fun z1 => if (y1 : Int32) = (0 : Int32) then some (.inl (0, z1)) else if ((r10_isSign z1 41) : Int32) = (0 : Int32) then some (.inr z1) else (r10_settles0 (mW (mW z1 119 32 (z1 119 32 - 1)) 119 30 (z1 119 30 - 1)) 9).bind fun z2 => (r10_reads z2).bind fun z3 => l10_readAny_9 f (y1 - 1) y2 z3 else (r10_settles0 I 10).bind fun z4 => (r10_settles0 z4 11).bind fun z5 => (r10_waits0 z5 11).bind fun z6 => (r10_reads z6).bind fun z7 => l10_readAny_9 f y1 1 z7 else (r10_settles0 I 10).bind fun z8 => (r10_waits0 z8 10).bind fun z9 => (r10_reads z9).bind fun z10 => l10_readAny_9 f y1 1 z10 else if ((r10_isWord I 6) : Int32) = (0 : Int32) then if ((r10_isSign I 40) : Int32) = (0 : Int32) then (r10_readCompared I).bind fun z16 => if (z16.1 : Int32) = ((-1) : Int32) then some (.inl ((-1), z16.2)) else (r10_settles0 z16.2 9).bind fun z17 => l10_readAny_9 f y1 0 z17 else if (I 119 30 : Int32) = (8 : Int32) then (r10_errs I 3).bind fun z22 => some (.inl (z22.1, z22.2)) else (if ((r10_isWord I 6) : Int32) = (0 : Int32) then some (y1 + 1) else some y1 : Option (Int32)).bind fun z18 => (if ((r10_isWord I 6) : Int32) = (0 : Int32) then some 12 else some 9 : Option (Int32)).bind fun z19 => (r10_waits0 (mW I 119 30 (I 119 30 + 1)) z19).bind fun z20 => (r10_reads z20).bind fun z21 => l10_readAny_9 f z18 y2 z21 else if (I 119 30 : Int32) = (8 : Int32) then (r10_errs I 3).bind fun z15 => some (.inl (z15.1, z15.2)) else (if ((r10_isWord I 6) : Int32) = (0 : Int32) then some (y1 + 1) else some y1 : Option (Int32)).bind fun z11 => (if ((r10_isWord I 6) : Int32) = (0 : Int32) then some 12 else some 9 : Option (Int32)).bind fun z12 => (r10_waits0 (mW I 119 30 (I 119 30 + 1)) z12).bind fun z13 => (r10_reads z13).bind fun z14 => l10_readAny_9 f z11 y2 z14
def r10_readAny (I : mI) : Option (Int32 × mI) := (l10_readAny_9 FU 0 1 (mW I 119 32 0)).bind fun z0 => match z0 with | .inl rz0 => some rz0 | .inr wz0 => (r10_errs wz0 1).bind fun z1 => some (z1.1, z1.2)
set_option maxHeartbeats 4000000 in
set_option maxRecDepth 100000 in
theorem t10_readAny_9 (X : Nat × (Nat → Int32)) (Q : mQ) (s : Nat) : ∀ (f : Nat) (y1 : Int32) (y2 : Int32) (I : mI) (z : (Int32 × mI) ⊕ (mI)), l10_readAny_9 f y1 y2 I = some z → (∀ res, z = .inl res → Q (some (.int res.1)) NN KK res.2 (PP s)) → (∀ w, z = .inr w → mV X m10_readAny 7 0 0 200 [.ref 119, mX0, mX0, mX0] [] NN KK w (PP s) Q) → mV X m10_readAny 7 0 0 9 [.ref 119, .int y1, .int y2, mX0] [] NN KK I (PP s) Q := by
  intro f
  induction f with
  | zero => intro y1 y2 I z hr hret hk; cases hr
  | succ f ih =>
    intro y1 y2 I z hr hret hk
    unfold l10_readAny_9 at hr
    refine mV_iload f10_readAny_9 rfl ?_
    refine mV_if_eq f10_readAny_10 (fun h0 => ?_) (fun h0 => ?_)
    · rw [if_pos h0] at hr
      refine mV_aload f10_readAny_109 rfl ?_
      refine mV_push f10_readAny_110 ?_
      refine mV_cV f10_readAny_111 tg_m10_isWord mCls10 (by decide) kk_119 (mC_deep (c10_isWord X I s 5 rfl) (by decide)) rfl rfl (Nat.le_of_ble_eq_true rfl) ?_
      refine mV_if_eq f10_readAny_114 (fun h1 => ?_) (fun h1 => ?_)
      · rw [if_pos h1] at hr
        refine mV_aload f10_readAny_138 rfl ?_
        refine mV_push f10_readAny_139 ?_
        refine mV_cV f10_readAny_140 tg_m10_isWord mCls10 (by decide) kk_119 (mC_deep (c10_isWord X I s 4 rfl) (by decide)) rfl rfl (Nat.le_of_ble_eq_true rfl) ?_
        refine mV_if_eq f10_readAny_143 (fun h2 => ?_) (fun h2 => ?_)
        · rw [if_pos h2] at hr
          refine mV_aload f10_readAny_173 rfl ?_
          refine mV_push f10_readAny_174 ?_
          obtain ⟨z0, hz0, hr⟩ := mBind hr
          refine mV_cV f10_readAny_176 tg_m10_settles0 mCls10 (by decide) kk_119 (mC_deep (c10_settles0 X I s 10 hz0) (by decide)) rfl rfl (Nat.le_of_ble_eq_true rfl) ?_
          refine mV_aload f10_readAny_179 rfl ?_
          refine mV_push f10_readAny_180 ?_
          obtain ⟨z1, hz1, hr⟩ := mBind hr
          refine mV_cV f10_readAny_182 tg_m10_settles0 mCls10 (by decide) kk_119 (mC_deep (c10_settles0 X z0 s 11 hz1) (by decide)) rfl rfl (Nat.le_of_ble_eq_true rfl) ?_
          refine mV_iload f10_readAny_185 rfl ?_
          refine mV_if_ne f10_readAny_186 (fun h3 => ?_) (fun h3 => ?_)
          · rw [if_neg h3] at hr
            refine mV_aload f10_readAny_191 rfl ?_
            refine mV_push f10_readAny_192 ?_
            refine mV_cV f10_readAny_194 tg_m10_isSign mCls10 (by decide) kk_119 (mC_deep (c10_isSign X z1 s 41 rfl) (by decide)) rfl rfl (Nat.le_of_ble_eq_true rfl) ?_
            refine mV_if_ne f10_readAny_197 (fun h4 => ?_) (fun h4 => ?_)
            · rw [if_neg h4] at hr
              refine mV_aload f10_readAny_206 rfl ?_
              refine mV_aload f10_readAny_207 rfl ?_
              refine mV_gI (z1 119 32) f10_readAny_208 (by decide) kk_119 rfl rfl ?_
              refine mV_push f10_readAny_211 ?_
              refine mV_isub f10_readAny_212 ?_
              refine mV_putI f10_readAny_213 (by decide) kk_119 rfl rfl ?_
              refine mV_iload f10_readAny_216 rfl ?_
              refine mV_push f10_readAny_217 ?_
              refine mV_isub f10_readAny_218 ?_
              refine mV_istore (L' := [.ref 119, .int (y1 - 1), .int y2, mX0]) f10_readAny_219 (by decide) rfl rfl ?_
              refine mV_aload f10_readAny_220 rfl ?_
              refine mV_aload f10_readAny_221 rfl ?_
              refine mV_gI (z1 119 30) f10_readAny_222 (by decide) kk_119 rfl rfl ?_
              refine mV_push f10_readAny_225 ?_
              refine mV_isub f10_readAny_226 ?_
              refine mV_putI f10_readAny_227 (by decide) kk_119 rfl rfl ?_
              refine mV_aload f10_readAny_230 rfl ?_
              refine mV_push f10_readAny_231 ?_
              obtain ⟨z2, hz2, hr⟩ := mBind hr
              refine mV_cV f10_readAny_233 tg_m10_settles0 mCls10 (by decide) kk_119 (mC_deep (c10_settles0 X (mW (mW z1 119 32 (z1 119 32 - 1)) 119 30 (z1 119 30 - 1)) s 9 hz2) (by decide)) rfl rfl (Nat.le_of_ble_eq_true rfl) ?_
              refine mV_aload f10_readAny_236 rfl ?_
              obtain ⟨z3, hz3, hr⟩ := mBind hr
              refine mV_cV f10_readAny_237 tg_m10_reads mCls10 (by decide) kk_119 (mC_deep (c10_reads X z2 s hz3) (by decide)) rfl rfl (Nat.le_of_ble_eq_true rfl) ?_
              refine mV_goto f10_readAny_240 ?_
              exact ih (y1 - 1) y2 z3 _ hr hret hk
            · rw [if_pos h4] at hr
              have hr := Option.some.inj hr; subst hr
              refine mV_drop (L' := [.ref 119, mX0, mX0, mX0]) (mSub_k (mSub_x (mSub_x (mSub_x mSub_n)))) ?_
              exact hk _ rfl
          · rw [if_pos h3] at hr
            refine mV_push f10_readAny_189 ?_
            have hr := Option.some.inj hr; subst hr; have hQ := hret _ rfl
            exact mV_iret rfl rfl f10_readAny_190 hQ
        · rw [if_neg h2] at hr
          refine mV_aload f10_readAny_146 rfl ?_
          refine mV_push f10_readAny_147 ?_
          obtain ⟨z4, hz4, hr⟩ := mBind hr
          refine mV_cV f10_readAny_149 tg_m10_settles0 mCls10 (by decide) kk_119 (mC_deep (c10_settles0 X I s 10 hz4) (by decide)) rfl rfl (Nat.le_of_ble_eq_true rfl) ?_
          refine mV_aload f10_readAny_152 rfl ?_
          refine mV_push f10_readAny_153 ?_
          obtain ⟨z5, hz5, hr⟩ := mBind hr
          refine mV_cV f10_readAny_155 tg_m10_settles0 mCls10 (by decide) kk_119 (mC_deep (c10_settles0 X z4 s 11 hz5) (by decide)) rfl rfl (Nat.le_of_ble_eq_true rfl) ?_
          refine mV_aload f10_readAny_158 rfl ?_
          refine mV_push f10_readAny_159 ?_
          obtain ⟨z6, hz6, hr⟩ := mBind hr
          refine mV_cV f10_readAny_161 tg_m10_waits0 mCls10 (by decide) kk_119 (mC_deep (c10_waits0 X z5 s 11 hz6) (by decide)) rfl rfl (Nat.le_of_ble_eq_true rfl) ?_
          refine mV_aload f10_readAny_164 rfl ?_
          obtain ⟨z7, hz7, hr⟩ := mBind hr
          refine mV_cV f10_readAny_165 tg_m10_reads mCls10 (by decide) kk_119 (mC_deep (c10_reads X z6 s hz7) (by decide)) rfl rfl (Nat.le_of_ble_eq_true rfl) ?_
          refine mV_push f10_readAny_168 ?_
          refine mV_istore (L' := [.ref 119, .int y1, .int 1, mX0]) f10_readAny_169 (by decide) rfl rfl ?_
          refine mV_goto f10_readAny_170 ?_
          exact ih y1 1 z7 _ hr hret hk
      · rw [if_neg h1] at hr
        refine mV_aload f10_readAny_117 rfl ?_
        refine mV_push f10_readAny_118 ?_
        obtain ⟨z8, hz8, hr⟩ := mBind hr
        refine mV_cV f10_readAny_120 tg_m10_settles0 mCls10 (by decide) kk_119 (mC_deep (c10_settles0 X I s 10 hz8) (by decide)) rfl rfl (Nat.le_of_ble_eq_true rfl) ?_
        refine mV_aload f10_readAny_123 rfl ?_
        refine mV_push f10_readAny_124 ?_
        obtain ⟨z9, hz9, hr⟩ := mBind hr
        refine mV_cV f10_readAny_126 tg_m10_waits0 mCls10 (by decide) kk_119 (mC_deep (c10_waits0 X z8 s 10 hz9) (by decide)) rfl rfl (Nat.le_of_ble_eq_true rfl) ?_
        refine mV_aload f10_readAny_129 rfl ?_
        obtain ⟨z10, hz10, hr⟩ := mBind hr
        refine mV_cV f10_readAny_130 tg_m10_reads mCls10 (by decide) kk_119 (mC_deep (c10_reads X z9 s hz10) (by decide)) rfl rfl (Nat.le_of_ble_eq_true rfl) ?_
        refine mV_push f10_readAny_133 ?_
        refine mV_istore (L' := [.ref 119, .int y1, .int 1, mX0]) f10_readAny_134 (by decide) rfl rfl ?_
        refine mV_goto f10_readAny_135 ?_
        exact ih y1 1 z10 _ hr hret hk
    · rw [if_neg h0] at hr
      refine mV_aload f10_readAny_13 rfl ?_
      refine mV_push f10_readAny_14 ?_
      refine mV_cV f10_readAny_16 tg_m10_isWord mCls10 (by decide) kk_119 (mC_deep (c10_isWord X I s 6 rfl) (by decide)) rfl rfl (Nat.le_of_ble_eq_true rfl) ?_
      refine mV_istore (L' := [.ref 119, .int y1, .int y2, .int (r10_isWord I 6)]) f10_readAny_19 (by decide) rfl rfl ?_
      refine mV_iload f10_readAny_20 rfl ?_
      refine mV_if_ne f10_readAny_21 (fun h5 => ?_) (fun h5 => ?_)
      · rw [if_neg h5] at hr
        refine mV_aload f10_readAny_33 rfl ?_
        refine mV_gI (I 119 30) f10_readAny_34 (by decide) kk_119 rfl rfl ?_
        refine mV_push f10_readAny_37 ?_
        refine mV_icmp_ne f10_readAny_39 (fun h6 => ?_) (fun h6 => ?_)
        · rw [if_neg h6] at hr
          refine mV_aload f10_readAny_48 rfl ?_
          refine mV_aload f10_readAny_49 rfl ?_
          refine mV_gI (I 119 30) f10_readAny_50 (by decide) kk_119 rfl rfl ?_
          refine mV_push f10_readAny_53 ?_
          refine mV_iadd f10_readAny_54 ?_
          refine mV_putI f10_readAny_55 (by decide) kk_119 rfl rfl ?_
          refine mV_iload f10_readAny_58 rfl ?_
          obtain ⟨z11, hz11, hr⟩ := mBind hr
          have keyz11 : mV X m10_readAny 7 0 0 66 [.ref 119, .int z11, .int y2, .int (r10_isWord I 6)] [] NN KK (mW I 119 30 (I 119 30 + 1)) (PP s) Q := by
            refine mV_aload f10_readAny_66 rfl ?_
            refine mV_iload f10_readAny_67 rfl ?_
            obtain ⟨z12, hz12, hr⟩ := mBind hr
            have keyz12 : mV X m10_readAny 7 0 0 78 [.ref 119, .int z11, .int y2, mX0] [.int z12, .ref 119] NN KK (mW I 119 30 (I 119 30 + 1)) (PP s) Q := by
              obtain ⟨z13, hz13, hr⟩ := mBind hr
              refine mV_cV f10_readAny_78 tg_m10_waits0 mCls10 (by decide) kk_119 (mC_deep (c10_waits0 X (mW I 119 30 (I 119 30 + 1)) s z12 hz13) (by decide)) rfl rfl (Nat.le_of_ble_eq_true rfl) ?_
              refine mV_aload f10_readAny_81 rfl ?_
              obtain ⟨z14, hz14, hr⟩ := mBind hr
              refine mV_cV f10_readAny_82 tg_m10_reads mCls10 (by decide) kk_119 (mC_deep (c10_reads X z13 s hz14) (by decide)) rfl rfl (Nat.le_of_ble_eq_true rfl) ?_
              refine mV_goto f10_readAny_85 ?_
              exact ih z11 y2 z14 _ hr hret hk
            clear hr
            have hr := hz12
            clear hz12
            refine mV_if_eq f10_readAny_68 (fun h8 => ?_) (fun h8 => ?_)
            · rw [if_pos h8] at hr
              refine mV_push f10_readAny_76 ?_
              have hr := Option.some.inj hr; subst hr
              refine mV_drop (L' := [.ref 119, .int z11, .int y2, mX0]) (mSub_k (mSub_k (mSub_k (mSub_x mSub_n)))) ?_
              exact keyz12
            · rw [if_neg h8] at hr
              refine mV_push f10_readAny_71 ?_
              refine mV_goto f10_readAny_73 ?_
              have hr := Option.some.inj hr; subst hr
              refine mV_drop (L' := [.ref 119, .int z11, .int y2, mX0]) (mSub_k (mSub_k (mSub_k (mSub_x mSub_n)))) ?_
              exact keyz12
          clear hr
          have hr := hz11
          clear hz11
          refine mV_if_ne f10_readAny_59 (fun h7 => ?_) (fun h7 => ?_)
          · rw [if_neg h7] at hr
            have hr := Option.some.inj hr; subst hr
            exact keyz11
          · rw [if_pos h7] at hr
            refine mV_iload f10_readAny_62 rfl ?_
            refine mV_push f10_readAny_63 ?_
            refine mV_iadd f10_readAny_64 ?_
            refine mV_istore (L' := [.ref 119, .int (y1 + 1), .int y2, .int (r10_isWord I 6)]) f10_readAny_65 (by decide) rfl rfl ?_
            have hr := Option.some.inj hr; subst hr
            exact keyz11
        · rw [if_pos h6] at hr
          refine mV_aload f10_readAny_42 rfl ?_
          refine mV_push f10_readAny_43 ?_
          obtain ⟨z15, hz15, hr⟩ := mBind hr
          refine mV_cV f10_readAny_44 tg_m10_errs mCls10 (by decide) kk_119 (mC_deep (c10_errs X I s 3 hz15) (by decide)) rfl rfl (Nat.le_of_ble_eq_true rfl) ?_
          have hr := Option.some.inj hr; subst hr; have hQ := hret _ rfl
          exact mV_iret rfl rfl f10_readAny_47 hQ
      · rw [if_pos h5] at hr
        refine mV_aload f10_readAny_24 rfl ?_
        refine mV_push f10_readAny_25 ?_
        refine mV_cV f10_readAny_27 tg_m10_isSign mCls10 (by decide) kk_119 (mC_deep (c10_isSign X I s 40 rfl) (by decide)) rfl rfl (Nat.le_of_ble_eq_true rfl) ?_
        refine mV_if_eq f10_readAny_30 (fun h9 => ?_) (fun h9 => ?_)
        · rw [if_pos h9] at hr
          refine mV_aload f10_readAny_88 rfl ?_
          obtain ⟨z16, hz16, hr⟩ := mBind hr
          refine mV_cV f10_readAny_89 tg_m10_readCompared mCls10 (by decide) kk_119 (mC_deep (c10_readCompared X I s hz16) (by decide)) rfl rfl (Nat.le_of_ble_eq_true rfl) ?_
          refine mV_push f10_readAny_92 ?_
          refine mV_icmp_ne f10_readAny_93 (fun h10 => ?_) (fun h10 => ?_)
          · rw [if_neg h10] at hr
            refine mV_aload f10_readAny_98 rfl ?_
            refine mV_push f10_readAny_99 ?_
            obtain ⟨z17, hz17, hr⟩ := mBind hr
            refine mV_cV f10_readAny_101 tg_m10_settles0 mCls10 (by decide) kk_119 (mC_deep (c10_settles0 X z16.2 s 9 hz17) (by decide)) rfl rfl (Nat.le_of_ble_eq_true rfl) ?_
            refine mV_push f10_readAny_104 ?_
            refine mV_istore (L' := [.ref 119, .int y1, .int 0, .int (r10_isWord I 6)]) f10_readAny_105 (by decide) rfl rfl ?_
            refine mV_goto f10_readAny_106 ?_
            refine mV_drop (L' := [.ref 119, .int y1, .int 0, mX0]) (mSub_k (mSub_k (mSub_k (mSub_x mSub_n)))) ?_
            exact ih y1 0 z17 _ hr hret hk
          · rw [if_pos h10] at hr
            refine mV_push f10_readAny_96 ?_
            have hr := Option.some.inj hr; subst hr; have hQ := hret _ rfl
            exact mV_iret rfl rfl f10_readAny_97 hQ
        · rw [if_neg h9] at hr
          refine mV_aload f10_readAny_33 rfl ?_
          refine mV_gI (I 119 30) f10_readAny_34 (by decide) kk_119 rfl rfl ?_
          refine mV_push f10_readAny_37 ?_
          refine mV_icmp_ne f10_readAny_39 (fun h11 => ?_) (fun h11 => ?_)
          · rw [if_neg h11] at hr
            refine mV_aload f10_readAny_48 rfl ?_
            refine mV_aload f10_readAny_49 rfl ?_
            refine mV_gI (I 119 30) f10_readAny_50 (by decide) kk_119 rfl rfl ?_
            refine mV_push f10_readAny_53 ?_
            refine mV_iadd f10_readAny_54 ?_
            refine mV_putI f10_readAny_55 (by decide) kk_119 rfl rfl ?_
            refine mV_iload f10_readAny_58 rfl ?_
            obtain ⟨z18, hz18, hr⟩ := mBind hr
            have keyz18 : mV X m10_readAny 7 0 0 66 [.ref 119, .int z18, .int y2, .int (r10_isWord I 6)] [] NN KK (mW I 119 30 (I 119 30 + 1)) (PP s) Q := by
              refine mV_aload f10_readAny_66 rfl ?_
              refine mV_iload f10_readAny_67 rfl ?_
              obtain ⟨z19, hz19, hr⟩ := mBind hr
              have keyz19 : mV X m10_readAny 7 0 0 78 [.ref 119, .int z18, .int y2, mX0] [.int z19, .ref 119] NN KK (mW I 119 30 (I 119 30 + 1)) (PP s) Q := by
                obtain ⟨z20, hz20, hr⟩ := mBind hr
                refine mV_cV f10_readAny_78 tg_m10_waits0 mCls10 (by decide) kk_119 (mC_deep (c10_waits0 X (mW I 119 30 (I 119 30 + 1)) s z19 hz20) (by decide)) rfl rfl (Nat.le_of_ble_eq_true rfl) ?_
                refine mV_aload f10_readAny_81 rfl ?_
                obtain ⟨z21, hz21, hr⟩ := mBind hr
                refine mV_cV f10_readAny_82 tg_m10_reads mCls10 (by decide) kk_119 (mC_deep (c10_reads X z20 s hz21) (by decide)) rfl rfl (Nat.le_of_ble_eq_true rfl) ?_
                refine mV_goto f10_readAny_85 ?_
                exact ih z18 y2 z21 _ hr hret hk
              clear hr
              have hr := hz19
              clear hz19
              refine mV_if_eq f10_readAny_68 (fun h13 => ?_) (fun h13 => ?_)
              · rw [if_pos h13] at hr
                refine mV_push f10_readAny_76 ?_
                have hr := Option.some.inj hr; subst hr
                refine mV_drop (L' := [.ref 119, .int z18, .int y2, mX0]) (mSub_k (mSub_k (mSub_k (mSub_x mSub_n)))) ?_
                exact keyz19
              · rw [if_neg h13] at hr
                refine mV_push f10_readAny_71 ?_
                refine mV_goto f10_readAny_73 ?_
                have hr := Option.some.inj hr; subst hr
                refine mV_drop (L' := [.ref 119, .int z18, .int y2, mX0]) (mSub_k (mSub_k (mSub_k (mSub_x mSub_n)))) ?_
                exact keyz19
            clear hr
            have hr := hz18
            clear hz18
            refine mV_if_ne f10_readAny_59 (fun h12 => ?_) (fun h12 => ?_)
            · rw [if_neg h12] at hr
              have hr := Option.some.inj hr; subst hr
              exact keyz18
            · rw [if_pos h12] at hr
              refine mV_iload f10_readAny_62 rfl ?_
              refine mV_push f10_readAny_63 ?_
              refine mV_iadd f10_readAny_64 ?_
              refine mV_istore (L' := [.ref 119, .int (y1 + 1), .int y2, .int (r10_isWord I 6)]) f10_readAny_65 (by decide) rfl rfl ?_
              have hr := Option.some.inj hr; subst hr
              exact keyz18
          · rw [if_pos h11] at hr
            refine mV_aload f10_readAny_42 rfl ?_
            refine mV_push f10_readAny_43 ?_
            obtain ⟨z22, hz22, hr⟩ := mBind hr
            refine mV_cV f10_readAny_44 tg_m10_errs mCls10 (by decide) kk_119 (mC_deep (c10_errs X I s 3 hz22) (by decide)) rfl rfl (Nat.le_of_ble_eq_true rfl) ?_
            have hr := Option.some.inj hr; subst hr; have hQ := hret _ rfl
            exact mV_iret rfl rfl f10_readAny_47 hQ
set_option maxHeartbeats 4000000 in
set_option maxRecDepth 100000 in
theorem w10_readAny (X : Nat × (Nat → Int32)) (I : mI) (s : Nat) (Q : mQ) {res : Int32 × mI} (hr : r10_readAny I = some res) (hQ : Q (some (.int res.1)) NN KK res.2 (PP s)) : mV X m10_readAny 7 0 0 0 [.ref 119, mX0, mX0, mX0] [] NN KK I (PP s) Q := by
  unfold r10_readAny at hr
  refine mV_push f10_readAny_0 ?_
  refine mV_istore (L' := [.ref 119, .int 0, mX0, mX0]) f10_readAny_1 (by decide) rfl rfl ?_
  refine mV_aload f10_readAny_2 rfl ?_
  refine mV_push f10_readAny_3 ?_
  refine mV_putI f10_readAny_4 (by decide) kk_119 rfl rfl ?_
  refine mV_push f10_readAny_7 ?_
  refine mV_istore (L' := [.ref 119, .int 0, .int 1, mX0]) f10_readAny_8 (by decide) rfl rfl ?_
  obtain ⟨z0, hz0, hr⟩ := mBind hr
  refine t10_readAny_9 X Q s FU 0 1 (mW I 119 32 0) _ hz0 (fun res ez0 => ?_) (fun wz0 ez0 => ?_)
  · rw [ez0] at hr; have hr := Option.some.inj hr; subst hr; exact hQ
  rw [ez0] at hr
  dsimp only at hr
  refine mV_aload f10_readAny_200 rfl ?_
  refine mV_push f10_readAny_201 ?_
  obtain ⟨z1, hz1, hr⟩ := mBind hr
  refine mV_cV f10_readAny_202 tg_m10_errs mCls10 (by decide) kk_119 (mC_deep (c10_errs X wz0 s 1 hz1) (by decide)) rfl rfl (Nat.le_of_ble_eq_true rfl) ?_
  have hr := Option.some.inj hr; subst hr
  exact mV_iret rfl rfl f10_readAny_205 hQ
theorem c10_readAny (X : Nat × (Nat → Int32)) (I : mI) (s : Nat) {res : Int32 × mI} (hr : r10_readAny I = some res) : mC X m10_readAny 7 0 0 [.ref 119] NN KK I (PP s) (mRet (some (.int res.1)) NN KK res.2 (PP s)) :=
  mC_of (L0 := [.ref 119, mX0, mX0, mX0]) rfl (Nat.le_of_ble_eq_true rfl) (w10_readAny X I s _ hr (mRet_ok _ _ _ _ _))
def r10_isLineWord (I : mI) : Int32 := if (I 119 18 : Int32) = (2 : Int32) then if ((r10_isIn (I 119 19) 0 2) : Int32) = (0 : Int32) then 0 else 1 else 0
set_option maxHeartbeats 4000000 in
set_option maxRecDepth 100000 in
theorem w10_isLineWord (X : Nat × (Nat → Int32)) (I : mI) (s : Nat) (Q : mQ) {res : Int32} (hr : r10_isLineWord I = res) (hQ : Q (some (.int res)) NN KK I (PP s)) : mV X m10_isLineWord 1 0 0 0 [.ref 119] [] NN KK I (PP s) Q := by
  unfold r10_isLineWord at hr
  refine mV_aload f10_isLineWord_0 rfl ?_
  refine mV_gI (I 119 18) f10_isLineWord_1 (by decide) kk_119 rfl rfl ?_
  refine mV_push f10_isLineWord_4 ?_
  refine mV_icmp_ne f10_isLineWord_5 (fun h0 => ?_) (fun h0 => ?_)
  · rw [if_neg h0] at hr
    refine mV_push f10_isLineWord_25 ?_
    subst hr
    exact mV_iret rfl rfl f10_isLineWord_26 hQ
  · rw [if_pos h0] at hr
    refine mV_aload f10_isLineWord_8 rfl ?_
    refine mV_aload f10_isLineWord_9 rfl ?_
    refine mV_gI (I 119 19) f10_isLineWord_10 (by decide) kk_119 rfl rfl ?_
    refine mV_push f10_isLineWord_13 ?_
    refine mV_push f10_isLineWord_14 ?_
    refine mV_cV f10_isLineWord_15 tg_m10_isIn mCls10 (by decide) kk_119 (mC_deep (c10_isIn X I s (I 119 19) 0 2 rfl) (by decide)) rfl rfl (Nat.le_of_ble_eq_true rfl) ?_
    refine mV_if_eq f10_isLineWord_18 (fun h1 => ?_) (fun h1 => ?_)
    · rw [if_pos h1] at hr
      refine mV_push f10_isLineWord_25 ?_
      subst hr
      exact mV_iret rfl rfl f10_isLineWord_26 hQ
    · rw [if_neg h1] at hr
      refine mV_push f10_isLineWord_21 ?_
      refine mV_goto f10_isLineWord_22 ?_
      subst hr
      exact mV_iret rfl rfl f10_isLineWord_26 hQ
theorem c10_isLineWord (X : Nat × (Nat → Int32)) (I : mI) (s : Nat) {res : Int32} (hr : r10_isLineWord I = res) : mC X m10_isLineWord 1 0 0 [.ref 119] NN KK I (PP s) (mRet (some (.int res)) NN KK I (PP s)) :=
  mC_of (L0 := [.ref 119]) rfl (Nat.le_of_ble_eq_true rfl) (w10_isLineWord X I s _ hr (mRet_ok _ _ _ _ _))
def l10_readLaw_2 : Nat → Int32 → mI → Option ((Int32 × mI) ⊕ (Int32 × mI))
  | 0, _, _ => none
  | f + 1, y1, I => if ((r10_isLineWord I) : Int32) = (0 : Int32) then some (.inr (y1, I)) else if (y1 : Int32) = (16 : Int32) then (r10_errs I 3).bind fun z13 => some (.inl (z13.1, z13.2)) else (mSto I 132 48 (32 + y1) (I 119 19)).bind fun z0 => (r10_reads z0).bind fun z1 => (mSto z1 133 48 (32 + y1) (z1 119 29)).bind fun z2 => (r10_readSum z2).bind fun z3 => if (z3.1 : Int32) = ((-1) : Int32) then some (.inl ((-1), z3.2)) else (mSto z3.2 134 48 (32 + y1) (z3.2 119 29)).bind fun z4 => if ((r10_isWord z4 3) : Int32) = (0 : Int32) then (mSto z4 135 48 (32 + y1) (z4 119 29)).bind fun z5 => if ((r10_isSign z5 59) : Int32) = (0 : Int32) then (r10_errs z5 1).bind fun z7 => some (.inl (z7.1, z7.2)) else (r10_reads z5).bind fun z6 => l10_readLaw_2 f (y1 + 1) z6 else (r10_reads z4).bind fun z8 => (r10_readAny z8).bind fun z9 => if (z9.1 : Int32) = ((-1) : Int32) then some (.inl ((-1), z9.2)) else (mSto z9.2 135 48 (32 + y1) (z9.2 119 29)).bind fun z10 => if ((r10_isSign z10 59) : Int32) = (0 : Int32) then (r10_errs z10 1).bind fun z12 => some (.inl (z12.1, z12.2)) else (r10_reads z10).bind fun z11 => l10_readLaw_2 f (y1 + 1) z11
def r10_readLaw (I : mI) : Option (Int32 × mI) := (l10_readLaw_2 FU 0 I).bind fun z0 => match z0 with | .inl rz0 => some rz0 | .inr wz0 => (if (wz0.2 119 18 : Int32) = (0 : Int32) then some (wz0.1, wz0.2) else (r10_errs wz0.2 1).bind fun z2 => some (z2.1, z2.2) : Option (Int32 × mI)).bind fun z1 => some (z1.1, z1.2)
set_option maxHeartbeats 4000000 in
set_option maxRecDepth 100000 in
theorem t10_readLaw_2 (X : Nat × (Nat → Int32)) (Q : mQ) (s : Nat) : ∀ (f : Nat) (y1 : Int32) (I : mI) (z : (Int32 × mI) ⊕ (Int32 × mI)), l10_readLaw_2 f y1 I = some z → (∀ res, z = .inl res → Q (some (.int res.1)) NN KK res.2 (PP s)) → (∀ w, z = .inr w → mV X m10_readLaw 8 0 0 128 [.ref 119, .int w.1, mX0] [] NN KK w.2 (PP s) Q) → mV X m10_readLaw 8 0 0 2 [.ref 119, .int y1, mX0] [] NN KK I (PP s) Q := by
  intro f
  induction f with
  | zero => intro y1 I z hr hret hk; cases hr
  | succ f ih =>
    intro y1 I z hr hret hk
    unfold l10_readLaw_2 at hr
    refine mV_aload f10_readLaw_2 rfl ?_
    refine mV_cV f10_readLaw_3 tg_m10_isLineWord mCls10 (by decide) kk_119 (mC_deep (c10_isLineWord X I s rfl) (by decide)) rfl rfl (Nat.le_of_ble_eq_true rfl) ?_
    refine mV_if_eq f10_readLaw_6 (fun h0 => ?_) (fun h0 => ?_)
    · rw [if_pos h0] at hr
      have hr := Option.some.inj hr; subst hr
      exact hk _ rfl
    · rw [if_neg h0] at hr
      refine mV_iload f10_readLaw_9 rfl ?_
      refine mV_push f10_readLaw_10 ?_
      refine mV_icmp_ne f10_readLaw_12 (fun h1 => ?_) (fun h1 => ?_)
      · rw [if_neg h1] at hr
        refine mV_push f10_readLaw_21 ?_
        refine mV_iload f10_readLaw_23 rfl ?_
        refine mV_iadd f10_readLaw_24 ?_
        refine mV_istore (L' := [.ref 119, .int y1, .int (32 + y1)]) f10_readLaw_25 (by decide) rfl rfl ?_
        refine mV_aload f10_readLaw_26 rfl ?_
        refine mV_getP f10_readLaw_27 (by decide) kk_119 rfl (pp_119_22 _) ?_
        refine mV_iload f10_readLaw_30 rfl ?_
        refine mV_aload f10_readLaw_31 rfl ?_
        refine mV_gI (I 119 19) f10_readLaw_32 (by decide) kk_119 rfl rfl ?_
        obtain ⟨z0, hz0, hr⟩ := mBind hr
        refine mV_stO f10_readLaw_35 (by decide) kk_132 hz0 ?_
        refine mV_aload f10_readLaw_36 rfl ?_
        obtain ⟨z1, hz1, hr⟩ := mBind hr
        refine mV_cV f10_readLaw_37 tg_m10_reads mCls10 (by decide) kk_119 (mC_deep (c10_reads X z0 s hz1) (by decide)) rfl rfl (Nat.le_of_ble_eq_true rfl) ?_
        refine mV_aload f10_readLaw_40 rfl ?_
        refine mV_getP f10_readLaw_41 (by decide) kk_119 rfl (pp_119_23 _) ?_
        refine mV_iload f10_readLaw_44 rfl ?_
        refine mV_aload f10_readLaw_45 rfl ?_
        refine mV_gI (z1 119 29) f10_readLaw_46 (by decide) kk_119 rfl rfl ?_
        obtain ⟨z2, hz2, hr⟩ := mBind hr
        refine mV_stO f10_readLaw_49 (by decide) kk_133 hz2 ?_
        refine mV_aload f10_readLaw_50 rfl ?_
        obtain ⟨z3, hz3, hr⟩ := mBind hr
        refine mV_cV f10_readLaw_51 tg_m10_readSum mCls10 (by decide) kk_119 (mC_deep (c10_readSum X z2 s hz3) (by decide)) rfl rfl (Nat.le_of_ble_eq_true rfl) ?_
        refine mV_push f10_readLaw_54 ?_
        refine mV_icmp_ne f10_readLaw_55 (fun h2 => ?_) (fun h2 => ?_)
        · rw [if_neg h2] at hr
          refine mV_aload f10_readLaw_60 rfl ?_
          refine mV_getP f10_readLaw_61 (by decide) kk_119 rfl (pp_119_24 _) ?_
          refine mV_iload f10_readLaw_64 rfl ?_
          refine mV_aload f10_readLaw_65 rfl ?_
          refine mV_gI (z3.2 119 29) f10_readLaw_66 (by decide) kk_119 rfl rfl ?_
          obtain ⟨z4, hz4, hr⟩ := mBind hr
          refine mV_stO f10_readLaw_69 (by decide) kk_134 hz4 ?_
          refine mV_aload f10_readLaw_70 rfl ?_
          refine mV_push f10_readLaw_71 ?_
          refine mV_cV f10_readLaw_72 tg_m10_isWord mCls10 (by decide) kk_119 (mC_deep (c10_isWord X z4 s 3 rfl) (by decide)) rfl rfl (Nat.le_of_ble_eq_true rfl) ?_
          refine mV_if_eq f10_readLaw_75 (fun h3 => ?_) (fun h3 => ?_)
          · rw [if_pos h3] at hr
            refine mV_aload f10_readLaw_92 rfl ?_
            refine mV_getP f10_readLaw_93 (by decide) kk_119 rfl (pp_119_25 _) ?_
            refine mV_iload f10_readLaw_96 rfl ?_
            refine mV_aload f10_readLaw_97 rfl ?_
            refine mV_gI (z4 119 29) f10_readLaw_98 (by decide) kk_119 rfl rfl ?_
            obtain ⟨z5, hz5, hr⟩ := mBind hr
            refine mV_stO f10_readLaw_101 (by decide) kk_135 hz5 ?_
            refine mV_aload f10_readLaw_102 rfl ?_
            refine mV_push f10_readLaw_103 ?_
            refine mV_cV f10_readLaw_105 tg_m10_isSign mCls10 (by decide) kk_119 (mC_deep (c10_isSign X z5 s 59 rfl) (by decide)) rfl rfl (Nat.le_of_ble_eq_true rfl) ?_
            refine mV_if_ne f10_readLaw_108 (fun h4 => ?_) (fun h4 => ?_)
            · rw [if_neg h4] at hr
              refine mV_aload f10_readLaw_117 rfl ?_
              obtain ⟨z6, hz6, hr⟩ := mBind hr
              refine mV_cV f10_readLaw_118 tg_m10_reads mCls10 (by decide) kk_119 (mC_deep (c10_reads X z5 s hz6) (by decide)) rfl rfl (Nat.le_of_ble_eq_true rfl) ?_
              refine mV_iload f10_readLaw_121 rfl ?_
              refine mV_push f10_readLaw_122 ?_
              refine mV_iadd f10_readLaw_123 ?_
              refine mV_istore (L' := [.ref 119, .int (y1 + 1), .int (32 + y1)]) f10_readLaw_124 (by decide) rfl rfl ?_
              refine mV_goto f10_readLaw_125 ?_
              refine mV_drop (L' := [.ref 119, .int (y1 + 1), mX0]) (mSub_k (mSub_k (mSub_x mSub_n))) ?_
              exact ih (y1 + 1) z6 _ hr hret hk
            · rw [if_pos h4] at hr
              refine mV_aload f10_readLaw_111 rfl ?_
              refine mV_push f10_readLaw_112 ?_
              obtain ⟨z7, hz7, hr⟩ := mBind hr
              refine mV_cV f10_readLaw_113 tg_m10_errs mCls10 (by decide) kk_119 (mC_deep (c10_errs X z5 s 1 hz7) (by decide)) rfl rfl (Nat.le_of_ble_eq_true rfl) ?_
              have hr := Option.some.inj hr; subst hr; have hQ := hret _ rfl
              exact mV_iret rfl rfl f10_readLaw_116 hQ
          · rw [if_neg h3] at hr
            refine mV_aload f10_readLaw_78 rfl ?_
            obtain ⟨z8, hz8, hr⟩ := mBind hr
            refine mV_cV f10_readLaw_79 tg_m10_reads mCls10 (by decide) kk_119 (mC_deep (c10_reads X z4 s hz8) (by decide)) rfl rfl (Nat.le_of_ble_eq_true rfl) ?_
            refine mV_aload f10_readLaw_82 rfl ?_
            obtain ⟨z9, hz9, hr⟩ := mBind hr
            refine mV_cV f10_readLaw_83 tg_m10_readAny mCls10 (by decide) kk_119 (mC_deep (c10_readAny X z8 s hz9) (by decide)) rfl rfl (Nat.le_of_ble_eq_true rfl) ?_
            refine mV_push f10_readLaw_86 ?_
            refine mV_icmp_ne f10_readLaw_87 (fun h5 => ?_) (fun h5 => ?_)
            · rw [if_neg h5] at hr
              refine mV_aload f10_readLaw_92 rfl ?_
              refine mV_getP f10_readLaw_93 (by decide) kk_119 rfl (pp_119_25 _) ?_
              refine mV_iload f10_readLaw_96 rfl ?_
              refine mV_aload f10_readLaw_97 rfl ?_
              refine mV_gI (z9.2 119 29) f10_readLaw_98 (by decide) kk_119 rfl rfl ?_
              obtain ⟨z10, hz10, hr⟩ := mBind hr
              refine mV_stO f10_readLaw_101 (by decide) kk_135 hz10 ?_
              refine mV_aload f10_readLaw_102 rfl ?_
              refine mV_push f10_readLaw_103 ?_
              refine mV_cV f10_readLaw_105 tg_m10_isSign mCls10 (by decide) kk_119 (mC_deep (c10_isSign X z10 s 59 rfl) (by decide)) rfl rfl (Nat.le_of_ble_eq_true rfl) ?_
              refine mV_if_ne f10_readLaw_108 (fun h6 => ?_) (fun h6 => ?_)
              · rw [if_neg h6] at hr
                refine mV_aload f10_readLaw_117 rfl ?_
                obtain ⟨z11, hz11, hr⟩ := mBind hr
                refine mV_cV f10_readLaw_118 tg_m10_reads mCls10 (by decide) kk_119 (mC_deep (c10_reads X z10 s hz11) (by decide)) rfl rfl (Nat.le_of_ble_eq_true rfl) ?_
                refine mV_iload f10_readLaw_121 rfl ?_
                refine mV_push f10_readLaw_122 ?_
                refine mV_iadd f10_readLaw_123 ?_
                refine mV_istore (L' := [.ref 119, .int (y1 + 1), .int (32 + y1)]) f10_readLaw_124 (by decide) rfl rfl ?_
                refine mV_goto f10_readLaw_125 ?_
                refine mV_drop (L' := [.ref 119, .int (y1 + 1), mX0]) (mSub_k (mSub_k (mSub_x mSub_n))) ?_
                exact ih (y1 + 1) z11 _ hr hret hk
              · rw [if_pos h6] at hr
                refine mV_aload f10_readLaw_111 rfl ?_
                refine mV_push f10_readLaw_112 ?_
                obtain ⟨z12, hz12, hr⟩ := mBind hr
                refine mV_cV f10_readLaw_113 tg_m10_errs mCls10 (by decide) kk_119 (mC_deep (c10_errs X z10 s 1 hz12) (by decide)) rfl rfl (Nat.le_of_ble_eq_true rfl) ?_
                have hr := Option.some.inj hr; subst hr; have hQ := hret _ rfl
                exact mV_iret rfl rfl f10_readLaw_116 hQ
            · rw [if_pos h5] at hr
              refine mV_push f10_readLaw_90 ?_
              have hr := Option.some.inj hr; subst hr; have hQ := hret _ rfl
              exact mV_iret rfl rfl f10_readLaw_91 hQ
        · rw [if_pos h2] at hr
          refine mV_push f10_readLaw_58 ?_
          have hr := Option.some.inj hr; subst hr; have hQ := hret _ rfl
          exact mV_iret rfl rfl f10_readLaw_59 hQ
      · rw [if_pos h1] at hr
        refine mV_aload f10_readLaw_15 rfl ?_
        refine mV_push f10_readLaw_16 ?_
        obtain ⟨z13, hz13, hr⟩ := mBind hr
        refine mV_cV f10_readLaw_17 tg_m10_errs mCls10 (by decide) kk_119 (mC_deep (c10_errs X I s 3 hz13) (by decide)) rfl rfl (Nat.le_of_ble_eq_true rfl) ?_
        have hr := Option.some.inj hr; subst hr; have hQ := hret _ rfl
        exact mV_iret rfl rfl f10_readLaw_20 hQ
set_option maxHeartbeats 4000000 in
set_option maxRecDepth 100000 in
theorem w10_readLaw (X : Nat × (Nat → Int32)) (I : mI) (s : Nat) (Q : mQ) {res : Int32 × mI} (hr : r10_readLaw I = some res) (hQ : Q (some (.int res.1)) NN KK res.2 (PP s)) : mV X m10_readLaw 8 0 0 0 [.ref 119, mX0, mX0] [] NN KK I (PP s) Q := by
  unfold r10_readLaw at hr
  refine mV_push f10_readLaw_0 ?_
  refine mV_istore (L' := [.ref 119, .int 0, mX0]) f10_readLaw_1 (by decide) rfl rfl ?_
  obtain ⟨z0, hz0, hr⟩ := mBind hr
  refine t10_readLaw_2 X Q s FU 0 I _ hz0 (fun res ez0 => ?_) (fun wz0 ez0 => ?_)
  · rw [ez0] at hr; have hr := Option.some.inj hr; subst hr; exact hQ
  rw [ez0] at hr
  dsimp only at hr
  refine mV_aload f10_readLaw_128 rfl ?_
  refine mV_gI (wz0.2 119 18) f10_readLaw_129 (by decide) kk_119 rfl rfl ?_
  obtain ⟨z1, hz1, hr⟩ := mBind hr
  have keyz1 : mV X m10_readLaw 8 0 0 144 [.ref 119, mX0, mX0] [.int z1.1] NN KK z1.2 (PP s) Q := by
    have hr := Option.some.inj hr; subst hr
    exact mV_iret rfl rfl f10_readLaw_144 hQ
  clear hr
  have hr := hz1
  clear hz1
  refine mV_if_ne f10_readLaw_132 (fun h0 => ?_) (fun h0 => ?_)
  · rw [if_neg h0] at hr
    refine mV_aload f10_readLaw_139 rfl ?_
    refine mV_push f10_readLaw_140 ?_
    obtain ⟨z2, hz2, hr⟩ := mBind hr
    refine mV_cV f10_readLaw_141 tg_m10_errs mCls10 (by decide) kk_119 (mC_deep (c10_errs X wz0.2 s 1 hz2) (by decide)) rfl rfl (Nat.le_of_ble_eq_true rfl) ?_
    have hr := Option.some.inj hr; subst hr
    refine mV_drop (L' := [.ref 119, mX0, mX0]) (mSub_k (mSub_x (mSub_x mSub_n))) ?_
    exact keyz1
  · rw [if_pos h0] at hr
    refine mV_iload f10_readLaw_135 rfl ?_
    refine mV_goto f10_readLaw_136 ?_
    have hr := Option.some.inj hr; subst hr
    refine mV_drop (L' := [.ref 119, mX0, mX0]) (mSub_k (mSub_x (mSub_x mSub_n))) ?_
    exact keyz1
theorem c10_readLaw (X : Nat × (Nat → Int32)) (I : mI) (s : Nat) {res : Int32 × mI} (hr : r10_readLaw I = some res) : mC X m10_readLaw 8 0 0 [.ref 119] NN KK I (PP s) (mRet (some (.int res.1)) NN KK res.2 (PP s)) :=
  mC_of (L0 := [.ref 119, mX0, mX0]) rfl (Nat.le_of_ble_eq_true rfl) (w10_readLaw X I s _ hr (mRet_ok _ _ _ _ _))
def l10_takesLaw_2 (k1 : Int32) : Nat → Int32 → mI → Option (mI)
  | 0, _, _ => none
  | f + 1, y2, I => if (k1 : Int32) ≤ (y2 : Int32) then some I else (mLd I 132 48 (32 + y2)).bind fun z0 => (mSto I 132 48 ((16 * I 119 28) + y2) z0).bind fun z1 => (mLd z1 133 48 (32 + y2)).bind fun z2 => (mSto z1 133 48 ((16 * z1 119 28) + y2) z2).bind fun z3 => (mLd z3 134 48 (32 + y2)).bind fun z4 => (mSto z3 134 48 ((16 * z3 119 28) + y2) z4).bind fun z5 => (mLd z5 135 48 (32 + y2)).bind fun z6 => (mSto z5 135 48 ((16 * z5 119 28) + y2) z6).bind fun z7 => l10_takesLaw_2 k1 f (y2 + 1) z7
def l10_takesLaw_107 : Nat → Int32 → mI → Option (mI)
  | 0, _, _ => none
  | f + 1, y2, I => if (I 119 29 : Int32) ≤ (y2 : Int32) then some I else (mLd I 136 1200 (800 + y2)).bind fun z0 => (mSto I 136 1200 ((400 * I 119 28) + y2) z0).bind fun z1 => (mLd z1 137 1200 (800 + y2)).bind fun z2 => (mSto z1 137 1200 ((400 * z1 119 28) + y2) z2).bind fun z3 => l10_takesLaw_107 f (y2 + 1) z3
def r10_takesLaw (I : mI) (x0 : Int32) : Option (mI) := (l10_takesLaw_2 x0 FU 0 I).bind fun z0 => (l10_takesLaw_107 FU 0 z0).bind fun z1 => (mSto z1 131 2 (z1 119 28) x0).bind fun z2 => some z2
set_option maxHeartbeats 4000000 in
set_option maxRecDepth 100000 in
theorem t10_takesLaw_2 (X : Nat × (Nat → Int32)) (Q : mQ) (s : Nat) (k1 : Int32) : ∀ (f : Nat) (y2 : Int32) (I : mI) (z : mI), l10_takesLaw_2 k1 f y2 I = some z → mV X m10_takesLaw 0 0 0 105 [.ref 119, .int k1, mX0] [] NN KK z (PP s) Q → mV X m10_takesLaw 0 0 0 2 [.ref 119, .int k1, .int y2] [] NN KK I (PP s) Q := by
  intro f
  induction f with
  | zero => intro y2 I z hr hk; cases hr
  | succ f ih =>
    intro y2 I z hr hk
    unfold l10_takesLaw_2 at hr
    refine mV_iload f10_takesLaw_2 rfl ?_
    refine mV_iload f10_takesLaw_3 rfl ?_
    refine mV_icmp_ge f10_takesLaw_4 (fun h0 => ?_) (fun h0 => ?_)
    · rw [if_pos h0] at hr
      have hr := Option.some.inj hr; subst hr
      refine mV_drop (L' := [.ref 119, .int k1, mX0]) (mSub_k (mSub_k (mSub_x mSub_n))) ?_
      exact hk
    · rw [if_neg h0] at hr
      refine mV_aload f10_takesLaw_7 rfl ?_
      refine mV_getP f10_takesLaw_8 (by decide) kk_119 rfl (pp_119_22 _) ?_
      refine mV_push f10_takesLaw_11 ?_
      refine mV_aload f10_takesLaw_13 rfl ?_
      refine mV_gI (I 119 28) f10_takesLaw_14 (by decide) kk_119 rfl rfl ?_
      refine mV_imul f10_takesLaw_17 ?_
      refine mV_iload f10_takesLaw_18 rfl ?_
      refine mV_iadd f10_takesLaw_19 ?_
      refine mV_aload f10_takesLaw_20 rfl ?_
      refine mV_getP f10_takesLaw_21 (by decide) kk_119 rfl (pp_119_22 _) ?_
      refine mV_push f10_takesLaw_24 ?_
      refine mV_iload f10_takesLaw_26 rfl ?_
      refine mV_iadd f10_takesLaw_27 ?_
      obtain ⟨z0, hz0, hr⟩ := mBind hr
      refine mV_ldO f10_takesLaw_28 (by decide) kk_132 hz0 ?_
      obtain ⟨z1, hz1, hr⟩ := mBind hr
      refine mV_stO f10_takesLaw_29 (by decide) kk_132 hz1 ?_
      refine mV_aload f10_takesLaw_30 rfl ?_
      refine mV_getP f10_takesLaw_31 (by decide) kk_119 rfl (pp_119_23 _) ?_
      refine mV_push f10_takesLaw_34 ?_
      refine mV_aload f10_takesLaw_36 rfl ?_
      refine mV_gI (z1 119 28) f10_takesLaw_37 (by decide) kk_119 rfl rfl ?_
      refine mV_imul f10_takesLaw_40 ?_
      refine mV_iload f10_takesLaw_41 rfl ?_
      refine mV_iadd f10_takesLaw_42 ?_
      refine mV_aload f10_takesLaw_43 rfl ?_
      refine mV_getP f10_takesLaw_44 (by decide) kk_119 rfl (pp_119_23 _) ?_
      refine mV_push f10_takesLaw_47 ?_
      refine mV_iload f10_takesLaw_49 rfl ?_
      refine mV_iadd f10_takesLaw_50 ?_
      obtain ⟨z2, hz2, hr⟩ := mBind hr
      refine mV_ldO f10_takesLaw_51 (by decide) kk_133 hz2 ?_
      obtain ⟨z3, hz3, hr⟩ := mBind hr
      refine mV_stO f10_takesLaw_52 (by decide) kk_133 hz3 ?_
      refine mV_aload f10_takesLaw_53 rfl ?_
      refine mV_getP f10_takesLaw_54 (by decide) kk_119 rfl (pp_119_24 _) ?_
      refine mV_push f10_takesLaw_57 ?_
      refine mV_aload f10_takesLaw_59 rfl ?_
      refine mV_gI (z3 119 28) f10_takesLaw_60 (by decide) kk_119 rfl rfl ?_
      refine mV_imul f10_takesLaw_63 ?_
      refine mV_iload f10_takesLaw_64 rfl ?_
      refine mV_iadd f10_takesLaw_65 ?_
      refine mV_aload f10_takesLaw_66 rfl ?_
      refine mV_getP f10_takesLaw_67 (by decide) kk_119 rfl (pp_119_24 _) ?_
      refine mV_push f10_takesLaw_70 ?_
      refine mV_iload f10_takesLaw_72 rfl ?_
      refine mV_iadd f10_takesLaw_73 ?_
      obtain ⟨z4, hz4, hr⟩ := mBind hr
      refine mV_ldO f10_takesLaw_74 (by decide) kk_134 hz4 ?_
      obtain ⟨z5, hz5, hr⟩ := mBind hr
      refine mV_stO f10_takesLaw_75 (by decide) kk_134 hz5 ?_
      refine mV_aload f10_takesLaw_76 rfl ?_
      refine mV_getP f10_takesLaw_77 (by decide) kk_119 rfl (pp_119_25 _) ?_
      refine mV_push f10_takesLaw_80 ?_
      refine mV_aload f10_takesLaw_82 rfl ?_
      refine mV_gI (z5 119 28) f10_takesLaw_83 (by decide) kk_119 rfl rfl ?_
      refine mV_imul f10_takesLaw_86 ?_
      refine mV_iload f10_takesLaw_87 rfl ?_
      refine mV_iadd f10_takesLaw_88 ?_
      refine mV_aload f10_takesLaw_89 rfl ?_
      refine mV_getP f10_takesLaw_90 (by decide) kk_119 rfl (pp_119_25 _) ?_
      refine mV_push f10_takesLaw_93 ?_
      refine mV_iload f10_takesLaw_95 rfl ?_
      refine mV_iadd f10_takesLaw_96 ?_
      obtain ⟨z6, hz6, hr⟩ := mBind hr
      refine mV_ldO f10_takesLaw_97 (by decide) kk_135 hz6 ?_
      obtain ⟨z7, hz7, hr⟩ := mBind hr
      refine mV_stO f10_takesLaw_98 (by decide) kk_135 hz7 ?_
      refine mV_iinc (y := (y2 + 1)) (L' := [.ref 119, .int k1, .int (y2 + 1)]) f10_takesLaw_99 rfl rfl (by decide) rfl rfl ?_
      refine mV_goto f10_takesLaw_102 ?_
      exact ih (y2 + 1) z7 _ hr hk
set_option maxHeartbeats 4000000 in
set_option maxRecDepth 100000 in
theorem t10_takesLaw_107 (X : Nat × (Nat → Int32)) (Q : mQ) (s : Nat) (k1 : Int32) : ∀ (f : Nat) (y2 : Int32) (I : mI) (z : mI), l10_takesLaw_107 f y2 I = some z → mV X m10_takesLaw 0 0 0 171 [.ref 119, .int k1, mX0] [] NN KK z (PP s) Q → mV X m10_takesLaw 0 0 0 107 [.ref 119, .int k1, .int y2] [] NN KK I (PP s) Q := by
  intro f
  induction f with
  | zero => intro y2 I z hr hk; cases hr
  | succ f ih =>
    intro y2 I z hr hk
    unfold l10_takesLaw_107 at hr
    refine mV_iload f10_takesLaw_107 rfl ?_
    refine mV_aload f10_takesLaw_108 rfl ?_
    refine mV_gI (I 119 29) f10_takesLaw_109 (by decide) kk_119 rfl rfl ?_
    refine mV_icmp_ge f10_takesLaw_112 (fun h0 => ?_) (fun h0 => ?_)
    · rw [if_pos h0] at hr
      have hr := Option.some.inj hr; subst hr
      refine mV_drop (L' := [.ref 119, .int k1, mX0]) (mSub_k (mSub_k (mSub_x mSub_n))) ?_
      exact hk
    · rw [if_neg h0] at hr
      refine mV_aload f10_takesLaw_115 rfl ?_
      refine mV_getP f10_takesLaw_116 (by decide) kk_119 rfl (pp_119_26 _) ?_
      refine mV_push f10_takesLaw_119 ?_
      refine mV_aload f10_takesLaw_122 rfl ?_
      refine mV_gI (I 119 28) f10_takesLaw_123 (by decide) kk_119 rfl rfl ?_
      refine mV_imul f10_takesLaw_126 ?_
      refine mV_iload f10_takesLaw_127 rfl ?_
      refine mV_iadd f10_takesLaw_128 ?_
      refine mV_aload f10_takesLaw_129 rfl ?_
      refine mV_getP f10_takesLaw_130 (by decide) kk_119 rfl (pp_119_26 _) ?_
      refine mV_push f10_takesLaw_133 ?_
      refine mV_iload f10_takesLaw_136 rfl ?_
      refine mV_iadd f10_takesLaw_137 ?_
      obtain ⟨z0, hz0, hr⟩ := mBind hr
      refine mV_ldO f10_takesLaw_138 (by decide) kk_136 hz0 ?_
      obtain ⟨z1, hz1, hr⟩ := mBind hr
      refine mV_stO f10_takesLaw_139 (by decide) kk_136 hz1 ?_
      refine mV_aload f10_takesLaw_140 rfl ?_
      refine mV_getP f10_takesLaw_141 (by decide) kk_119 rfl (pp_119_27 _) ?_
      refine mV_push f10_takesLaw_144 ?_
      refine mV_aload f10_takesLaw_147 rfl ?_
      refine mV_gI (z1 119 28) f10_takesLaw_148 (by decide) kk_119 rfl rfl ?_
      refine mV_imul f10_takesLaw_151 ?_
      refine mV_iload f10_takesLaw_152 rfl ?_
      refine mV_iadd f10_takesLaw_153 ?_
      refine mV_aload f10_takesLaw_154 rfl ?_
      refine mV_getP f10_takesLaw_155 (by decide) kk_119 rfl (pp_119_27 _) ?_
      refine mV_push f10_takesLaw_158 ?_
      refine mV_iload f10_takesLaw_161 rfl ?_
      refine mV_iadd f10_takesLaw_162 ?_
      obtain ⟨z2, hz2, hr⟩ := mBind hr
      refine mV_ldO f10_takesLaw_163 (by decide) kk_137 hz2 ?_
      obtain ⟨z3, hz3, hr⟩ := mBind hr
      refine mV_stO f10_takesLaw_164 (by decide) kk_137 hz3 ?_
      refine mV_iinc (y := (y2 + 1)) (L' := [.ref 119, .int k1, .int (y2 + 1)]) f10_takesLaw_165 rfl rfl (by decide) rfl rfl ?_
      refine mV_goto f10_takesLaw_168 ?_
      exact ih (y2 + 1) z3 _ hr hk
set_option maxHeartbeats 4000000 in
set_option maxRecDepth 100000 in
theorem w10_takesLaw (X : Nat × (Nat → Int32)) (I : mI) (s : Nat) (x0 : Int32) (Q : mQ) {res : mI} (hr : r10_takesLaw I x0 = some res) (hQ : Q none NN KK res (PP s)) : mV X m10_takesLaw 0 0 0 0 [.ref 119, .int x0, mX0] [] NN KK I (PP s) Q := by
  unfold r10_takesLaw at hr
  refine mV_push f10_takesLaw_0 ?_
  refine mV_istore (L' := [.ref 119, .int x0, .int 0]) f10_takesLaw_1 (by decide) rfl rfl ?_
  obtain ⟨z0, hz0, hr⟩ := mBind hr
  refine t10_takesLaw_2 X Q s x0 FU 0 I _ hz0 ?_
  refine mV_push f10_takesLaw_105 ?_
  refine mV_istore (L' := [.ref 119, .int x0, .int 0]) f10_takesLaw_106 (by decide) rfl rfl ?_
  obtain ⟨z1, hz1, hr⟩ := mBind hr
  refine t10_takesLaw_107 X Q s x0 FU 0 z0 _ hz1 ?_
  refine mV_aload f10_takesLaw_171 rfl ?_
  refine mV_getP f10_takesLaw_172 (by decide) kk_119 rfl (pp_119_21 _) ?_
  refine mV_aload f10_takesLaw_175 rfl ?_
  refine mV_gI (z1 119 28) f10_takesLaw_176 (by decide) kk_119 rfl rfl ?_
  refine mV_iload f10_takesLaw_179 rfl ?_
  obtain ⟨z2, hz2, hr⟩ := mBind hr
  refine mV_stO f10_takesLaw_180 (by decide) kk_131 hz2 ?_
  have hr := Option.some.inj hr; subst hr
  exact mV_vret rfl f10_takesLaw_181 hQ
theorem c10_takesLaw (X : Nat × (Nat → Int32)) (I : mI) (s : Nat) (x0 : Int32) {res : mI} (hr : r10_takesLaw I x0 = some res) : mC X m10_takesLaw 0 0 0 [.ref 119, .int x0] NN KK I (PP s) (mRet none NN KK res (PP s)) :=
  mC_of (L0 := [.ref 119, .int x0, mX0]) rfl (Nat.le_of_ble_eq_true rfl) (w10_takesLaw X I s x0 _ hr (mRet_ok _ _ _ _ _))
def r10_readNumber (I : mI) (x0 : Int32) (x1 : Int32) : Option (Int32 × mI) := if (I 119 18 : Int32) = (3 : Int32) then if ((r10_isIn (I 119 19) x0 x1) : Int32) = (0 : Int32) then (r10_errs I 2).bind fun z1 => some (z1.1, z1.2) else (r10_reads I).bind fun z0 => some (I 119 19, z0) else (r10_errs I 1).bind fun z2 => some (z2.1, z2.2)
set_option maxHeartbeats 4000000 in
set_option maxRecDepth 100000 in
theorem w10_readNumber (X : Nat × (Nat → Int32)) (I : mI) (s : Nat) (x0 : Int32) (x1 : Int32) (Q : mQ) {res : Int32 × mI} (hr : r10_readNumber I x0 x1 = some res) (hQ : Q (some (.int res.1)) NN KK res.2 (PP s)) : mV X m10_readNumber 3 0 0 0 [.ref 119, .int x0, .int x1, mX0] [] NN KK I (PP s) Q := by
  unfold r10_readNumber at hr
  refine mV_aload f10_readNumber_0 rfl ?_
  refine mV_gI (I 119 18) f10_readNumber_1 (by decide) kk_119 rfl rfl ?_
  refine mV_push f10_readNumber_4 ?_
  refine mV_icmp_eq f10_readNumber_5 (fun h0 => ?_) (fun h0 => ?_)
  · rw [if_pos h0] at hr
    refine mV_aload f10_readNumber_14 rfl ?_
    refine mV_aload f10_readNumber_15 rfl ?_
    refine mV_gI (I 119 19) f10_readNumber_16 (by decide) kk_119 rfl rfl ?_
    refine mV_iload f10_readNumber_19 rfl ?_
    refine mV_iload f10_readNumber_20 rfl ?_
    refine mV_cV f10_readNumber_21 tg_m10_isIn mCls10 (by decide) kk_119 (mC_deep (c10_isIn X I s (I 119 19) x0 x1 rfl) (by decide)) rfl rfl (Nat.le_of_ble_eq_true rfl) ?_
    refine mV_if_ne f10_readNumber_24 (fun h1 => ?_) (fun h1 => ?_)
    · rw [if_neg h1] at hr
      refine mV_aload f10_readNumber_33 rfl ?_
      refine mV_gI (I 119 19) f10_readNumber_34 (by decide) kk_119 rfl rfl ?_
      refine mV_istore (L' := [.ref 119, .int x0, .int x1, .int (I 119 19)]) f10_readNumber_37 (by decide) rfl rfl ?_
      refine mV_aload f10_readNumber_38 rfl ?_
      obtain ⟨z0, hz0, hr⟩ := mBind hr
      refine mV_cV f10_readNumber_39 tg_m10_reads mCls10 (by decide) kk_119 (mC_deep (c10_reads X I s hz0) (by decide)) rfl rfl (Nat.le_of_ble_eq_true rfl) ?_
      refine mV_iload f10_readNumber_42 rfl ?_
      have hr := Option.some.inj hr; subst hr
      exact mV_iret rfl rfl f10_readNumber_43 hQ
    · rw [if_pos h1] at hr
      refine mV_aload f10_readNumber_27 rfl ?_
      refine mV_push f10_readNumber_28 ?_
      obtain ⟨z1, hz1, hr⟩ := mBind hr
      refine mV_cV f10_readNumber_29 tg_m10_errs mCls10 (by decide) kk_119 (mC_deep (c10_errs X I s 2 hz1) (by decide)) rfl rfl (Nat.le_of_ble_eq_true rfl) ?_
      have hr := Option.some.inj hr; subst hr
      exact mV_iret rfl rfl f10_readNumber_32 hQ
  · rw [if_neg h0] at hr
    refine mV_aload f10_readNumber_8 rfl ?_
    refine mV_push f10_readNumber_9 ?_
    obtain ⟨z2, hz2, hr⟩ := mBind hr
    refine mV_cV f10_readNumber_10 tg_m10_errs mCls10 (by decide) kk_119 (mC_deep (c10_errs X I s 1 hz2) (by decide)) rfl rfl (Nat.le_of_ble_eq_true rfl) ?_
    have hr := Option.some.inj hr; subst hr
    exact mV_iret rfl rfl f10_readNumber_13 hQ
theorem c10_readNumber (X : Nat × (Nat → Int32)) (I : mI) (s : Nat) (x0 : Int32) (x1 : Int32) {res : Int32 × mI} (hr : r10_readNumber I x0 x1 = some res) : mC X m10_readNumber 3 0 0 [.ref 119, .int x0, .int x1] NN KK I (PP s) (mRet (some (.int res.1)) NN KK res.2 (PP s)) :=
  mC_of (L0 := [.ref 119, .int x0, .int x1, mX0]) rfl (Nat.le_of_ble_eq_true rfl) (w10_readNumber X I s x0 x1 _ hr (mRet_ok _ _ _ _ _))
def r10_readMark (I : mI) (x0 : Int32) : Option (Int32 × mI) := if ((r10_isSign I x0) : Int32) = (0 : Int32) then (r10_errs I 1).bind fun z1 => some (z1.1, z1.2) else (r10_reads I).bind fun z0 => some (0, z0)
set_option maxHeartbeats 4000000 in
set_option maxRecDepth 100000 in
theorem w10_readMark (X : Nat × (Nat → Int32)) (I : mI) (s : Nat) (x0 : Int32) (Q : mQ) {res : Int32 × mI} (hr : r10_readMark I x0 = some res) (hQ : Q (some (.int res.1)) NN KK res.2 (PP s)) : mV X m10_readMark 3 0 0 0 [.ref 119, .int x0] [] NN KK I (PP s) Q := by
  unfold r10_readMark at hr
  refine mV_aload f10_readMark_0 rfl ?_
  refine mV_iload f10_readMark_1 rfl ?_
  refine mV_cV f10_readMark_2 tg_m10_isSign mCls10 (by decide) kk_119 (mC_deep (c10_isSign X I s x0 rfl) (by decide)) rfl rfl (Nat.le_of_ble_eq_true rfl) ?_
  refine mV_if_ne f10_readMark_5 (fun h0 => ?_) (fun h0 => ?_)
  · rw [if_neg h0] at hr
    refine mV_aload f10_readMark_14 rfl ?_
    obtain ⟨z0, hz0, hr⟩ := mBind hr
    refine mV_cV f10_readMark_15 tg_m10_reads mCls10 (by decide) kk_119 (mC_deep (c10_reads X I s hz0) (by decide)) rfl rfl (Nat.le_of_ble_eq_true rfl) ?_
    refine mV_push f10_readMark_18 ?_
    have hr := Option.some.inj hr; subst hr
    exact mV_iret rfl rfl f10_readMark_19 hQ
  · rw [if_pos h0] at hr
    refine mV_aload f10_readMark_8 rfl ?_
    refine mV_push f10_readMark_9 ?_
    obtain ⟨z1, hz1, hr⟩ := mBind hr
    refine mV_cV f10_readMark_10 tg_m10_errs mCls10 (by decide) kk_119 (mC_deep (c10_errs X I s 1 hz1) (by decide)) rfl rfl (Nat.le_of_ble_eq_true rfl) ?_
    have hr := Option.some.inj hr; subst hr
    exact mV_iret rfl rfl f10_readMark_13 hQ
theorem c10_readMark (X : Nat × (Nat → Int32)) (I : mI) (s : Nat) (x0 : Int32) {res : Int32 × mI} (hr : r10_readMark I x0 = some res) : mC X m10_readMark 3 0 0 [.ref 119, .int x0] NN KK I (PP s) (mRet (some (.int res.1)) NN KK res.2 (PP s)) :=
  mC_of (L0 := [.ref 119, .int x0]) rfl (Nat.le_of_ble_eq_true rfl) (w10_readMark X I s x0 _ hr (mRet_ok _ _ _ _ _))
def r10_readTold (I : mI) (x0 : Int32) (x1 : Int32) (x2 : Int32) : Option (Int32 × mI) := if ((r10_isWord I x0) : Int32) = (0 : Int32) then (r10_errs I 1).bind fun z2 => some (z2.1, z2.2) else (r10_reads I).bind fun z0 => (r10_readNumber z0 x1 x2).bind fun z1 => some (z1.1, z1.2)
set_option maxHeartbeats 4000000 in
set_option maxRecDepth 100000 in
theorem w10_readTold (X : Nat × (Nat → Int32)) (I : mI) (s : Nat) (x0 : Int32) (x1 : Int32) (x2 : Int32) (Q : mQ) {res : Int32 × mI} (hr : r10_readTold I x0 x1 x2 = some res) (hQ : Q (some (.int res.1)) NN KK res.2 (PP s)) : mV X m10_readTold 4 0 0 0 [.ref 119, .int x0, .int x1, .int x2] [] NN KK I (PP s) Q := by
  unfold r10_readTold at hr
  refine mV_aload f10_readTold_0 rfl ?_
  refine mV_iload f10_readTold_1 rfl ?_
  refine mV_cV f10_readTold_2 tg_m10_isWord mCls10 (by decide) kk_119 (mC_deep (c10_isWord X I s x0 rfl) (by decide)) rfl rfl (Nat.le_of_ble_eq_true rfl) ?_
  refine mV_if_ne f10_readTold_5 (fun h0 => ?_) (fun h0 => ?_)
  · rw [if_neg h0] at hr
    refine mV_aload f10_readTold_14 rfl ?_
    obtain ⟨z0, hz0, hr⟩ := mBind hr
    refine mV_cV f10_readTold_15 tg_m10_reads mCls10 (by decide) kk_119 (mC_deep (c10_reads X I s hz0) (by decide)) rfl rfl (Nat.le_of_ble_eq_true rfl) ?_
    refine mV_aload f10_readTold_18 rfl ?_
    refine mV_iload f10_readTold_19 rfl ?_
    refine mV_iload f10_readTold_20 rfl ?_
    obtain ⟨z1, hz1, hr⟩ := mBind hr
    refine mV_cV f10_readTold_21 tg_m10_readNumber mCls10 (by decide) kk_119 (mC_deep (c10_readNumber X z0 s x1 x2 hz1) (by decide)) rfl rfl (Nat.le_of_ble_eq_true rfl) ?_
    have hr := Option.some.inj hr; subst hr
    exact mV_iret rfl rfl f10_readTold_24 hQ
  · rw [if_pos h0] at hr
    refine mV_aload f10_readTold_8 rfl ?_
    refine mV_push f10_readTold_9 ?_
    obtain ⟨z2, hz2, hr⟩ := mBind hr
    refine mV_cV f10_readTold_10 tg_m10_errs mCls10 (by decide) kk_119 (mC_deep (c10_errs X I s 1 hz2) (by decide)) rfl rfl (Nat.le_of_ble_eq_true rfl) ?_
    have hr := Option.some.inj hr; subst hr
    exact mV_iret rfl rfl f10_readTold_13 hQ
theorem c10_readTold (X : Nat × (Nat → Int32)) (I : mI) (s : Nat) (x0 : Int32) (x1 : Int32) (x2 : Int32) {res : Int32 × mI} (hr : r10_readTold I x0 x1 x2 = some res) : mC X m10_readTold 4 0 0 [.ref 119, .int x0, .int x1, .int x2] NN KK I (PP s) (mRet (some (.int res.1)) NN KK res.2 (PP s)) :=
  mC_of (L0 := [.ref 119, .int x0, .int x1, .int x2]) rfl (Nat.le_of_ble_eq_true rfl) (w10_readTold X I s x0 x1 x2 _ hr (mRet_ok _ _ _ _ _))
def l10_readPieces_21 (k1 : Int32) : Nat → Int32 → mI → Option ((Int32 × mI) ⊕ (Int32 × mI))
  | 0, _, _ => none
  | f + 1, y2, I => if (y2 : Int32) = (0 : Int32) then if (y2 : Int32) = (6 : Int32) then if ((r10_isIn (I 119 19) 0 (I 119 6 - 1)) : Int32) = (0 : Int32) then (r10_readNumber I 0 (I 119 6 - 1)).bind fun z2 => if (z2.1 : Int32) = ((-1) : Int32) then some (.inl ((-1), z2.2)) else (mSto z2.2 139 288 ((k1 + 3) + y2) z2.1).bind fun z3 => l10_readPieces_21 k1 f (y2 + 1) z3 else (r10_errs I 3).bind fun z4 => some (.inl (z4.1, z4.2)) else (r10_readNumber I 0 (I 119 6 - 1)).bind fun z0 => if (z0.1 : Int32) = ((-1) : Int32) then some (.inl ((-1), z0.2)) else (mSto z0.2 139 288 ((k1 + 3) + y2) z0.1).bind fun z1 => l10_readPieces_21 k1 f (y2 + 1) z1 else if (I 119 18 : Int32) = (3 : Int32) then if (y2 : Int32) = (6 : Int32) then if ((r10_isIn (I 119 19) 0 (I 119 6 - 1)) : Int32) = (0 : Int32) then (r10_readNumber I 0 (I 119 6 - 1)).bind fun z7 => if (z7.1 : Int32) = ((-1) : Int32) then some (.inl ((-1), z7.2)) else (mSto z7.2 139 288 ((k1 + 3) + y2) z7.1).bind fun z8 => l10_readPieces_21 k1 f (y2 + 1) z8 else (r10_errs I 3).bind fun z9 => some (.inl (z9.1, z9.2)) else (r10_readNumber I 0 (I 119 6 - 1)).bind fun z5 => if (z5.1 : Int32) = ((-1) : Int32) then some (.inl ((-1), z5.2)) else (mSto z5.2 139 288 ((k1 + 3) + y2) z5.1).bind fun z6 => l10_readPieces_21 k1 f (y2 + 1) z6 else some (.inr (y2, I))
def r10_readPieces (I : mI) (x0 : Int32) : Option (Int32 × mI) := if ((r10_isWord I 21) : Int32) = (0 : Int32) then (r10_errs I 1).bind fun z3 => some (z3.1, z3.2) else (r10_reads I).bind fun z0 => (l10_readPieces_21 x0 FU 0 z0).bind fun z1 => match z1 with | .inl rz1 => some rz1 | .inr wz1 => (mSto wz1.2 139 288 (x0 + 2) wz1.1).bind fun z2 => some (wz1.1, z2)
set_option maxHeartbeats 4000000 in
set_option maxRecDepth 100000 in
theorem t10_readPieces_21 (X : Nat × (Nat → Int32)) (Q : mQ) (s : Nat) (k1 : Int32) : ∀ (f : Nat) (y2 : Int32) (I : mI) (z : (Int32 × mI) ⊕ (Int32 × mI)), l10_readPieces_21 k1 f y2 I = some z → (∀ res, z = .inl res → Q (some (.int res.1)) NN KK res.2 (PP s)) → (∀ w, z = .inr w → mV X m10_readPieces 4 0 0 100 [.ref 119, .int k1, .int w.1, mX0] [] NN KK w.2 (PP s) Q) → mV X m10_readPieces 4 0 0 21 [.ref 119, .int k1, .int y2, mX0] [] NN KK I (PP s) Q := by
  intro f
  induction f with
  | zero => intro y2 I z hr hret hk; cases hr
  | succ f ih =>
    intro y2 I z hr hret hk
    unfold l10_readPieces_21 at hr
    refine mV_iload f10_readPieces_21 rfl ?_
    refine mV_if_eq f10_readPieces_22 (fun h0 => ?_) (fun h0 => ?_)
    · rw [if_pos h0] at hr
      refine mV_iload f10_readPieces_33 rfl ?_
      refine mV_push f10_readPieces_34 ?_
      refine mV_icmp_ne f10_readPieces_36 (fun h1 => ?_) (fun h1 => ?_)
      · rw [if_neg h1] at hr
        refine mV_aload f10_readPieces_63 rfl ?_
        refine mV_push f10_readPieces_64 ?_
        refine mV_aload f10_readPieces_65 rfl ?_
        refine mV_gI (I 119 6) f10_readPieces_66 (by decide) kk_119 rfl rfl ?_
        refine mV_push f10_readPieces_69 ?_
        refine mV_isub f10_readPieces_70 ?_
        obtain ⟨z0, hz0, hr⟩ := mBind hr
        refine mV_cV f10_readPieces_71 tg_m10_readNumber mCls10 (by decide) kk_119 (mC_deep (c10_readNumber X I s 0 (I 119 6 - 1) hz0) (by decide)) rfl rfl (Nat.le_of_ble_eq_true rfl) ?_
        refine mV_istore (L' := [.ref 119, .int k1, .int y2, .int z0.1]) f10_readPieces_74 (by decide) rfl rfl ?_
        refine mV_iload f10_readPieces_75 rfl ?_
        refine mV_push f10_readPieces_76 ?_
        refine mV_icmp_ne f10_readPieces_77 (fun h2 => ?_) (fun h2 => ?_)
        · rw [if_neg h2] at hr
          refine mV_aload f10_readPieces_82 rfl ?_
          refine mV_getP f10_readPieces_83 (by decide) kk_119 rfl (pp_119_38 _) ?_
          refine mV_iload f10_readPieces_86 rfl ?_
          refine mV_push f10_readPieces_87 ?_
          refine mV_iadd f10_readPieces_88 ?_
          refine mV_iload f10_readPieces_89 rfl ?_
          refine mV_iadd f10_readPieces_90 ?_
          refine mV_iload f10_readPieces_91 rfl ?_
          obtain ⟨z1, hz1, hr⟩ := mBind hr
          refine mV_stO f10_readPieces_92 (by decide) kk_139 hz1 ?_
          refine mV_iload f10_readPieces_93 rfl ?_
          refine mV_push f10_readPieces_94 ?_
          refine mV_iadd f10_readPieces_95 ?_
          refine mV_istore (L' := [.ref 119, .int k1, .int (y2 + 1), .int z0.1]) f10_readPieces_96 (by decide) rfl rfl ?_
          refine mV_goto f10_readPieces_97 ?_
          refine mV_drop (L' := [.ref 119, .int k1, .int (y2 + 1), mX0]) (mSub_k (mSub_k (mSub_k (mSub_x mSub_n)))) ?_
          exact ih (y2 + 1) z1 _ hr hret hk
        · rw [if_pos h2] at hr
          refine mV_push f10_readPieces_80 ?_
          have hr := Option.some.inj hr; subst hr; have hQ := hret _ rfl
          exact mV_iret rfl rfl f10_readPieces_81 hQ
      · rw [if_pos h1] at hr
        refine mV_aload f10_readPieces_39 rfl ?_
        refine mV_aload f10_readPieces_40 rfl ?_
        refine mV_gI (I 119 19) f10_readPieces_41 (by decide) kk_119 rfl rfl ?_
        refine mV_push f10_readPieces_44 ?_
        refine mV_aload f10_readPieces_45 rfl ?_
        refine mV_gI (I 119 6) f10_readPieces_46 (by decide) kk_119 rfl rfl ?_
        refine mV_push f10_readPieces_49 ?_
        refine mV_isub f10_readPieces_50 ?_
        refine mV_cV f10_readPieces_51 tg_m10_isIn mCls10 (by decide) kk_119 (mC_deep (c10_isIn X I s (I 119 19) 0 (I 119 6 - 1) rfl) (by decide)) rfl rfl (Nat.le_of_ble_eq_true rfl) ?_
        refine mV_if_eq f10_readPieces_54 (fun h3 => ?_) (fun h3 => ?_)
        · rw [if_pos h3] at hr
          refine mV_aload f10_readPieces_63 rfl ?_
          refine mV_push f10_readPieces_64 ?_
          refine mV_aload f10_readPieces_65 rfl ?_
          refine mV_gI (I 119 6) f10_readPieces_66 (by decide) kk_119 rfl rfl ?_
          refine mV_push f10_readPieces_69 ?_
          refine mV_isub f10_readPieces_70 ?_
          obtain ⟨z2, hz2, hr⟩ := mBind hr
          refine mV_cV f10_readPieces_71 tg_m10_readNumber mCls10 (by decide) kk_119 (mC_deep (c10_readNumber X I s 0 (I 119 6 - 1) hz2) (by decide)) rfl rfl (Nat.le_of_ble_eq_true rfl) ?_
          refine mV_istore (L' := [.ref 119, .int k1, .int y2, .int z2.1]) f10_readPieces_74 (by decide) rfl rfl ?_
          refine mV_iload f10_readPieces_75 rfl ?_
          refine mV_push f10_readPieces_76 ?_
          refine mV_icmp_ne f10_readPieces_77 (fun h4 => ?_) (fun h4 => ?_)
          · rw [if_neg h4] at hr
            refine mV_aload f10_readPieces_82 rfl ?_
            refine mV_getP f10_readPieces_83 (by decide) kk_119 rfl (pp_119_38 _) ?_
            refine mV_iload f10_readPieces_86 rfl ?_
            refine mV_push f10_readPieces_87 ?_
            refine mV_iadd f10_readPieces_88 ?_
            refine mV_iload f10_readPieces_89 rfl ?_
            refine mV_iadd f10_readPieces_90 ?_
            refine mV_iload f10_readPieces_91 rfl ?_
            obtain ⟨z3, hz3, hr⟩ := mBind hr
            refine mV_stO f10_readPieces_92 (by decide) kk_139 hz3 ?_
            refine mV_iload f10_readPieces_93 rfl ?_
            refine mV_push f10_readPieces_94 ?_
            refine mV_iadd f10_readPieces_95 ?_
            refine mV_istore (L' := [.ref 119, .int k1, .int (y2 + 1), .int z2.1]) f10_readPieces_96 (by decide) rfl rfl ?_
            refine mV_goto f10_readPieces_97 ?_
            refine mV_drop (L' := [.ref 119, .int k1, .int (y2 + 1), mX0]) (mSub_k (mSub_k (mSub_k (mSub_x mSub_n)))) ?_
            exact ih (y2 + 1) z3 _ hr hret hk
          · rw [if_pos h4] at hr
            refine mV_push f10_readPieces_80 ?_
            have hr := Option.some.inj hr; subst hr; have hQ := hret _ rfl
            exact mV_iret rfl rfl f10_readPieces_81 hQ
        · rw [if_neg h3] at hr
          refine mV_aload f10_readPieces_57 rfl ?_
          refine mV_push f10_readPieces_58 ?_
          obtain ⟨z4, hz4, hr⟩ := mBind hr
          refine mV_cV f10_readPieces_59 tg_m10_errs mCls10 (by decide) kk_119 (mC_deep (c10_errs X I s 3 hz4) (by decide)) rfl rfl (Nat.le_of_ble_eq_true rfl) ?_
          have hr := Option.some.inj hr; subst hr; have hQ := hret _ rfl
          exact mV_iret rfl rfl f10_readPieces_62 hQ
    · rw [if_neg h0] at hr
      refine mV_aload f10_readPieces_25 rfl ?_
      refine mV_gI (I 119 18) f10_readPieces_26 (by decide) kk_119 rfl rfl ?_
      refine mV_push f10_readPieces_29 ?_
      refine mV_icmp_ne f10_readPieces_30 (fun h5 => ?_) (fun h5 => ?_)
      · rw [if_neg h5] at hr
        have hr := Option.some.inj hr; subst hr
        exact hk _ rfl
      · rw [if_pos h5] at hr
        refine mV_iload f10_readPieces_33 rfl ?_
        refine mV_push f10_readPieces_34 ?_
        refine mV_icmp_ne f10_readPieces_36 (fun h6 => ?_) (fun h6 => ?_)
        · rw [if_neg h6] at hr
          refine mV_aload f10_readPieces_63 rfl ?_
          refine mV_push f10_readPieces_64 ?_
          refine mV_aload f10_readPieces_65 rfl ?_
          refine mV_gI (I 119 6) f10_readPieces_66 (by decide) kk_119 rfl rfl ?_
          refine mV_push f10_readPieces_69 ?_
          refine mV_isub f10_readPieces_70 ?_
          obtain ⟨z5, hz5, hr⟩ := mBind hr
          refine mV_cV f10_readPieces_71 tg_m10_readNumber mCls10 (by decide) kk_119 (mC_deep (c10_readNumber X I s 0 (I 119 6 - 1) hz5) (by decide)) rfl rfl (Nat.le_of_ble_eq_true rfl) ?_
          refine mV_istore (L' := [.ref 119, .int k1, .int y2, .int z5.1]) f10_readPieces_74 (by decide) rfl rfl ?_
          refine mV_iload f10_readPieces_75 rfl ?_
          refine mV_push f10_readPieces_76 ?_
          refine mV_icmp_ne f10_readPieces_77 (fun h7 => ?_) (fun h7 => ?_)
          · rw [if_neg h7] at hr
            refine mV_aload f10_readPieces_82 rfl ?_
            refine mV_getP f10_readPieces_83 (by decide) kk_119 rfl (pp_119_38 _) ?_
            refine mV_iload f10_readPieces_86 rfl ?_
            refine mV_push f10_readPieces_87 ?_
            refine mV_iadd f10_readPieces_88 ?_
            refine mV_iload f10_readPieces_89 rfl ?_
            refine mV_iadd f10_readPieces_90 ?_
            refine mV_iload f10_readPieces_91 rfl ?_
            obtain ⟨z6, hz6, hr⟩ := mBind hr
            refine mV_stO f10_readPieces_92 (by decide) kk_139 hz6 ?_
            refine mV_iload f10_readPieces_93 rfl ?_
            refine mV_push f10_readPieces_94 ?_
            refine mV_iadd f10_readPieces_95 ?_
            refine mV_istore (L' := [.ref 119, .int k1, .int (y2 + 1), .int z5.1]) f10_readPieces_96 (by decide) rfl rfl ?_
            refine mV_goto f10_readPieces_97 ?_
            refine mV_drop (L' := [.ref 119, .int k1, .int (y2 + 1), mX0]) (mSub_k (mSub_k (mSub_k (mSub_x mSub_n)))) ?_
            exact ih (y2 + 1) z6 _ hr hret hk
          · rw [if_pos h7] at hr
            refine mV_push f10_readPieces_80 ?_
            have hr := Option.some.inj hr; subst hr; have hQ := hret _ rfl
            exact mV_iret rfl rfl f10_readPieces_81 hQ
        · rw [if_pos h6] at hr
          refine mV_aload f10_readPieces_39 rfl ?_
          refine mV_aload f10_readPieces_40 rfl ?_
          refine mV_gI (I 119 19) f10_readPieces_41 (by decide) kk_119 rfl rfl ?_
          refine mV_push f10_readPieces_44 ?_
          refine mV_aload f10_readPieces_45 rfl ?_
          refine mV_gI (I 119 6) f10_readPieces_46 (by decide) kk_119 rfl rfl ?_
          refine mV_push f10_readPieces_49 ?_
          refine mV_isub f10_readPieces_50 ?_
          refine mV_cV f10_readPieces_51 tg_m10_isIn mCls10 (by decide) kk_119 (mC_deep (c10_isIn X I s (I 119 19) 0 (I 119 6 - 1) rfl) (by decide)) rfl rfl (Nat.le_of_ble_eq_true rfl) ?_
          refine mV_if_eq f10_readPieces_54 (fun h8 => ?_) (fun h8 => ?_)
          · rw [if_pos h8] at hr
            refine mV_aload f10_readPieces_63 rfl ?_
            refine mV_push f10_readPieces_64 ?_
            refine mV_aload f10_readPieces_65 rfl ?_
            refine mV_gI (I 119 6) f10_readPieces_66 (by decide) kk_119 rfl rfl ?_
            refine mV_push f10_readPieces_69 ?_
            refine mV_isub f10_readPieces_70 ?_
            obtain ⟨z7, hz7, hr⟩ := mBind hr
            refine mV_cV f10_readPieces_71 tg_m10_readNumber mCls10 (by decide) kk_119 (mC_deep (c10_readNumber X I s 0 (I 119 6 - 1) hz7) (by decide)) rfl rfl (Nat.le_of_ble_eq_true rfl) ?_
            refine mV_istore (L' := [.ref 119, .int k1, .int y2, .int z7.1]) f10_readPieces_74 (by decide) rfl rfl ?_
            refine mV_iload f10_readPieces_75 rfl ?_
            refine mV_push f10_readPieces_76 ?_
            refine mV_icmp_ne f10_readPieces_77 (fun h9 => ?_) (fun h9 => ?_)
            · rw [if_neg h9] at hr
              refine mV_aload f10_readPieces_82 rfl ?_
              refine mV_getP f10_readPieces_83 (by decide) kk_119 rfl (pp_119_38 _) ?_
              refine mV_iload f10_readPieces_86 rfl ?_
              refine mV_push f10_readPieces_87 ?_
              refine mV_iadd f10_readPieces_88 ?_
              refine mV_iload f10_readPieces_89 rfl ?_
              refine mV_iadd f10_readPieces_90 ?_
              refine mV_iload f10_readPieces_91 rfl ?_
              obtain ⟨z8, hz8, hr⟩ := mBind hr
              refine mV_stO f10_readPieces_92 (by decide) kk_139 hz8 ?_
              refine mV_iload f10_readPieces_93 rfl ?_
              refine mV_push f10_readPieces_94 ?_
              refine mV_iadd f10_readPieces_95 ?_
              refine mV_istore (L' := [.ref 119, .int k1, .int (y2 + 1), .int z7.1]) f10_readPieces_96 (by decide) rfl rfl ?_
              refine mV_goto f10_readPieces_97 ?_
              refine mV_drop (L' := [.ref 119, .int k1, .int (y2 + 1), mX0]) (mSub_k (mSub_k (mSub_k (mSub_x mSub_n)))) ?_
              exact ih (y2 + 1) z8 _ hr hret hk
            · rw [if_pos h9] at hr
              refine mV_push f10_readPieces_80 ?_
              have hr := Option.some.inj hr; subst hr; have hQ := hret _ rfl
              exact mV_iret rfl rfl f10_readPieces_81 hQ
          · rw [if_neg h8] at hr
            refine mV_aload f10_readPieces_57 rfl ?_
            refine mV_push f10_readPieces_58 ?_
            obtain ⟨z9, hz9, hr⟩ := mBind hr
            refine mV_cV f10_readPieces_59 tg_m10_errs mCls10 (by decide) kk_119 (mC_deep (c10_errs X I s 3 hz9) (by decide)) rfl rfl (Nat.le_of_ble_eq_true rfl) ?_
            have hr := Option.some.inj hr; subst hr; have hQ := hret _ rfl
            exact mV_iret rfl rfl f10_readPieces_62 hQ
set_option maxHeartbeats 4000000 in
set_option maxRecDepth 100000 in
theorem w10_readPieces (X : Nat × (Nat → Int32)) (I : mI) (s : Nat) (x0 : Int32) (Q : mQ) {res : Int32 × mI} (hr : r10_readPieces I x0 = some res) (hQ : Q (some (.int res.1)) NN KK res.2 (PP s)) : mV X m10_readPieces 4 0 0 0 [.ref 119, .int x0, mX0, mX0] [] NN KK I (PP s) Q := by
  unfold r10_readPieces at hr
  refine mV_aload f10_readPieces_0 rfl ?_
  refine mV_push f10_readPieces_1 ?_
  refine mV_cV f10_readPieces_3 tg_m10_isWord mCls10 (by decide) kk_119 (mC_deep (c10_isWord X I s 21 rfl) (by decide)) rfl rfl (Nat.le_of_ble_eq_true rfl) ?_
  refine mV_if_ne f10_readPieces_6 (fun h0 => ?_) (fun h0 => ?_)
  · rw [if_neg h0] at hr
    refine mV_aload f10_readPieces_15 rfl ?_
    obtain ⟨z0, hz0, hr⟩ := mBind hr
    refine mV_cV f10_readPieces_16 tg_m10_reads mCls10 (by decide) kk_119 (mC_deep (c10_reads X I s hz0) (by decide)) rfl rfl (Nat.le_of_ble_eq_true rfl) ?_
    refine mV_push f10_readPieces_19 ?_
    refine mV_istore (L' := [.ref 119, .int x0, .int 0, mX0]) f10_readPieces_20 (by decide) rfl rfl ?_
    obtain ⟨z1, hz1, hr⟩ := mBind hr
    refine t10_readPieces_21 X Q s x0 FU 0 z0 _ hz1 (fun res ez1 => ?_) (fun wz1 ez1 => ?_)
    · rw [ez1] at hr; have hr := Option.some.inj hr; subst hr; exact hQ
    rw [ez1] at hr
    dsimp only at hr
    refine mV_aload f10_readPieces_100 rfl ?_
    refine mV_getP f10_readPieces_101 (by decide) kk_119 rfl (pp_119_38 _) ?_
    refine mV_iload f10_readPieces_104 rfl ?_
    refine mV_push f10_readPieces_105 ?_
    refine mV_iadd f10_readPieces_106 ?_
    refine mV_iload f10_readPieces_107 rfl ?_
    obtain ⟨z2, hz2, hr⟩ := mBind hr
    refine mV_stO f10_readPieces_108 (by decide) kk_139 hz2 ?_
    refine mV_iload f10_readPieces_109 rfl ?_
    have hr := Option.some.inj hr; subst hr
    exact mV_iret rfl rfl f10_readPieces_110 hQ
  · rw [if_pos h0] at hr
    refine mV_aload f10_readPieces_9 rfl ?_
    refine mV_push f10_readPieces_10 ?_
    obtain ⟨z3, hz3, hr⟩ := mBind hr
    refine mV_cV f10_readPieces_11 tg_m10_errs mCls10 (by decide) kk_119 (mC_deep (c10_errs X I s 1 hz3) (by decide)) rfl rfl (Nat.le_of_ble_eq_true rfl) ?_
    have hr := Option.some.inj hr; subst hr
    exact mV_iret rfl rfl f10_readPieces_14 hQ
theorem c10_readPieces (X : Nat × (Nat → Int32)) (I : mI) (s : Nat) (x0 : Int32) {res : Int32 × mI} (hr : r10_readPieces I x0 = some res) : mC X m10_readPieces 4 0 0 [.ref 119, .int x0] NN KK I (PP s) (mRet (some (.int res.1)) NN KK res.2 (PP s)) :=
  mC_of (L0 := [.ref 119, .int x0, mX0, mX0]) rfl (Nat.le_of_ble_eq_true rfl) (w10_readPieces X I s x0 _ hr (mRet_ok _ _ _ _ _))
def r10_readEvening (I : mI) (x0 : Int32) : Option (Int32 × mI) := (r10_readTold I 19 0 999).bind fun z0 => (mSto z0.2 139 288 x0 z0.1).bind fun z1 => (mLd z1 139 288 x0).bind fun z2 => if (z2 : Int32) = ((-1) : Int32) then some ((-1), z1) else (r10_readTold z1 20 0 (z1 119 7 - 1)).bind fun z3 => (mSto z3.2 139 288 (x0 + 1) z3.1).bind fun z4 => (mLd z4 139 288 (x0 + 1)).bind fun z5 => if (z5 : Int32) = ((-1) : Int32) then some ((-1), z4) else (r10_readPieces z4 x0).bind fun z6 => if (z6.1 : Int32) = ((-1) : Int32) then some ((-1), z6.2) else (r10_readMark z6.2 59).bind fun z7 => some (z7.1, z7.2)
set_option maxHeartbeats 4000000 in
set_option maxRecDepth 100000 in
theorem w10_readEvening (X : Nat × (Nat → Int32)) (I : mI) (s : Nat) (x0 : Int32) (Q : mQ) {res : Int32 × mI} (hr : r10_readEvening I x0 = some res) (hQ : Q (some (.int res.1)) NN KK res.2 (PP s)) : mV X m10_readEvening 5 0 0 0 [.ref 119, .int x0] [] NN KK I (PP s) Q := by
  unfold r10_readEvening at hr
  refine mV_aload f10_readEvening_0 rfl ?_
  refine mV_getP f10_readEvening_1 (by decide) kk_119 rfl (pp_119_38 _) ?_
  refine mV_iload f10_readEvening_4 rfl ?_
  refine mV_aload f10_readEvening_5 rfl ?_
  refine mV_push f10_readEvening_6 ?_
  refine mV_push f10_readEvening_8 ?_
  refine mV_push f10_readEvening_9 ?_
  obtain ⟨z0, hz0, hr⟩ := mBind hr
  refine mV_cV f10_readEvening_12 tg_m10_readTold mCls10 (by decide) kk_119 (mC_deep (c10_readTold X I s 19 0 999 hz0) (by decide)) rfl rfl (Nat.le_of_ble_eq_true rfl) ?_
  obtain ⟨z1, hz1, hr⟩ := mBind hr
  refine mV_stO f10_readEvening_15 (by decide) kk_139 hz1 ?_
  refine mV_aload f10_readEvening_16 rfl ?_
  refine mV_getP f10_readEvening_17 (by decide) kk_119 rfl (pp_119_38 _) ?_
  refine mV_iload f10_readEvening_20 rfl ?_
  obtain ⟨z2, hz2, hr⟩ := mBind hr
  refine mV_ldO f10_readEvening_21 (by decide) kk_139 hz2 ?_
  refine mV_push f10_readEvening_22 ?_
  refine mV_icmp_ne f10_readEvening_23 (fun h0 => ?_) (fun h0 => ?_)
  · rw [if_neg h0] at hr
    refine mV_aload f10_readEvening_28 rfl ?_
    refine mV_getP f10_readEvening_29 (by decide) kk_119 rfl (pp_119_38 _) ?_
    refine mV_iload f10_readEvening_32 rfl ?_
    refine mV_push f10_readEvening_33 ?_
    refine mV_iadd f10_readEvening_34 ?_
    refine mV_aload f10_readEvening_35 rfl ?_
    refine mV_push f10_readEvening_36 ?_
    refine mV_push f10_readEvening_38 ?_
    refine mV_aload f10_readEvening_39 rfl ?_
    refine mV_gI (z1 119 7) f10_readEvening_40 (by decide) kk_119 rfl rfl ?_
    refine mV_push f10_readEvening_43 ?_
    refine mV_isub f10_readEvening_44 ?_
    obtain ⟨z3, hz3, hr⟩ := mBind hr
    refine mV_cV f10_readEvening_45 tg_m10_readTold mCls10 (by decide) kk_119 (mC_deep (c10_readTold X z1 s 20 0 (z1 119 7 - 1) hz3) (by decide)) rfl rfl (Nat.le_of_ble_eq_true rfl) ?_
    obtain ⟨z4, hz4, hr⟩ := mBind hr
    refine mV_stO f10_readEvening_48 (by decide) kk_139 hz4 ?_
    refine mV_aload f10_readEvening_49 rfl ?_
    refine mV_getP f10_readEvening_50 (by decide) kk_119 rfl (pp_119_38 _) ?_
    refine mV_iload f10_readEvening_53 rfl ?_
    refine mV_push f10_readEvening_54 ?_
    refine mV_iadd f10_readEvening_55 ?_
    obtain ⟨z5, hz5, hr⟩ := mBind hr
    refine mV_ldO f10_readEvening_56 (by decide) kk_139 hz5 ?_
    refine mV_push f10_readEvening_57 ?_
    refine mV_icmp_eq f10_readEvening_58 (fun h1 => ?_) (fun h1 => ?_)
    · rw [if_pos h1] at hr
      refine mV_push f10_readEvening_70 ?_
      have hr := Option.some.inj hr; subst hr
      exact mV_iret rfl rfl f10_readEvening_71 hQ
    · rw [if_neg h1] at hr
      refine mV_aload f10_readEvening_61 rfl ?_
      refine mV_iload f10_readEvening_62 rfl ?_
      obtain ⟨z6, hz6, hr⟩ := mBind hr
      refine mV_cV f10_readEvening_63 tg_m10_readPieces mCls10 (by decide) kk_119 (mC_deep (c10_readPieces X z4 s x0 hz6) (by decide)) rfl rfl (Nat.le_of_ble_eq_true rfl) ?_
      refine mV_push f10_readEvening_66 ?_
      refine mV_icmp_ne f10_readEvening_67 (fun h2 => ?_) (fun h2 => ?_)
      · rw [if_neg h2] at hr
        refine mV_aload f10_readEvening_72 rfl ?_
        refine mV_push f10_readEvening_73 ?_
        obtain ⟨z7, hz7, hr⟩ := mBind hr
        refine mV_cV f10_readEvening_75 tg_m10_readMark mCls10 (by decide) kk_119 (mC_deep (c10_readMark X z6.2 s 59 hz7) (by decide)) rfl rfl (Nat.le_of_ble_eq_true rfl) ?_
        have hr := Option.some.inj hr; subst hr
        exact mV_iret rfl rfl f10_readEvening_78 hQ
      · rw [if_pos h2] at hr
        refine mV_push f10_readEvening_70 ?_
        have hr := Option.some.inj hr; subst hr
        exact mV_iret rfl rfl f10_readEvening_71 hQ
  · rw [if_pos h0] at hr
    refine mV_push f10_readEvening_26 ?_
    have hr := Option.some.inj hr; subst hr
    exact mV_iret rfl rfl f10_readEvening_27 hQ
theorem c10_readEvening (X : Nat × (Nat → Int32)) (I : mI) (s : Nat) (x0 : Int32) {res : Int32 × mI} (hr : r10_readEvening I x0 = some res) : mC X m10_readEvening 5 0 0 [.ref 119, .int x0] NN KK I (PP s) (mRet (some (.int res.1)) NN KK res.2 (PP s)) :=
  mC_of (L0 := [.ref 119, .int x0]) rfl (Nat.le_of_ble_eq_true rfl) (w10_readEvening X I s x0 _ hr (mRet_ok _ _ _ _ _))
def l10_readProgramme_2 : Nat → Int32 → mI → Option ((Int32 × mI) ⊕ (Int32 × mI))
  | 0, _, _ => none
  | f + 1, y1, I => if ((r10_isWord I 19) : Int32) = (0 : Int32) then some (.inr (y1, I)) else if (y1 : Int32) = (16 : Int32) then (r10_errs I 3).bind fun z1 => some (.inl (z1.1, z1.2)) else (r10_readEvening I (144 + (9 * y1))).bind fun z0 => if (z0.1 : Int32) = ((-1) : Int32) then some (.inl ((-1), z0.2)) else l10_readProgramme_2 f (y1 + 1) z0.2
def r10_readProgramme (I : mI) : Option (Int32 × mI) := (l10_readProgramme_2 FU 0 I).bind fun z0 => match z0 with | .inl rz0 => some rz0 | .inr wz0 => (if (wz0.2 119 18 : Int32) = (0 : Int32) then some (wz0.1, wz0.2) else (r10_errs wz0.2 1).bind fun z2 => some (z2.1, z2.2) : Option (Int32 × mI)).bind fun z1 => some (z1.1, z1.2)
set_option maxHeartbeats 4000000 in
set_option maxRecDepth 100000 in
theorem t10_readProgramme_2 (X : Nat × (Nat → Int32)) (Q : mQ) (s : Nat) : ∀ (f : Nat) (y1 : Int32) (I : mI) (z : (Int32 × mI) ⊕ (Int32 × mI)), l10_readProgramme_2 f y1 I = some z → (∀ res, z = .inl res → Q (some (.int res.1)) NN KK res.2 (PP s)) → (∀ w, z = .inr w → mV X m10_readProgramme 6 0 0 48 [.ref 119, .int w.1] [] NN KK w.2 (PP s) Q) → mV X m10_readProgramme 6 0 0 2 [.ref 119, .int y1] [] NN KK I (PP s) Q := by
  intro f
  induction f with
  | zero => intro y1 I z hr hret hk; cases hr
  | succ f ih =>
    intro y1 I z hr hret hk
    unfold l10_readProgramme_2 at hr
    refine mV_aload f10_readProgramme_2 rfl ?_
    refine mV_push f10_readProgramme_3 ?_
    refine mV_cV f10_readProgramme_5 tg_m10_isWord mCls10 (by decide) kk_119 (mC_deep (c10_isWord X I s 19 rfl) (by decide)) rfl rfl (Nat.le_of_ble_eq_true rfl) ?_
    refine mV_if_eq f10_readProgramme_8 (fun h0 => ?_) (fun h0 => ?_)
    · rw [if_pos h0] at hr
      have hr := Option.some.inj hr; subst hr
      exact hk _ rfl
    · rw [if_neg h0] at hr
      refine mV_iload f10_readProgramme_11 rfl ?_
      refine mV_push f10_readProgramme_12 ?_
      refine mV_icmp_ne f10_readProgramme_14 (fun h1 => ?_) (fun h1 => ?_)
      · rw [if_neg h1] at hr
        refine mV_aload f10_readProgramme_23 rfl ?_
        refine mV_push f10_readProgramme_24 ?_
        refine mV_push f10_readProgramme_27 ?_
        refine mV_iload f10_readProgramme_29 rfl ?_
        refine mV_imul f10_readProgramme_30 ?_
        refine mV_iadd f10_readProgramme_31 ?_
        obtain ⟨z0, hz0, hr⟩ := mBind hr
        refine mV_cV f10_readProgramme_32 tg_m10_readEvening mCls10 (by decide) kk_119 (mC_deep (c10_readEvening X I s (144 + (9 * y1)) hz0) (by decide)) rfl rfl (Nat.le_of_ble_eq_true rfl) ?_
        refine mV_push f10_readProgramme_35 ?_
        refine mV_icmp_ne f10_readProgramme_36 (fun h2 => ?_) (fun h2 => ?_)
        · rw [if_neg h2] at hr
          refine mV_iload f10_readProgramme_41 rfl ?_
          refine mV_push f10_readProgramme_42 ?_
          refine mV_iadd f10_readProgramme_43 ?_
          refine mV_istore (L' := [.ref 119, .int (y1 + 1)]) f10_readProgramme_44 (by decide) rfl rfl ?_
          refine mV_goto f10_readProgramme_45 ?_
          exact ih (y1 + 1) z0.2 _ hr hret hk
        · rw [if_pos h2] at hr
          refine mV_push f10_readProgramme_39 ?_
          have hr := Option.some.inj hr; subst hr; have hQ := hret _ rfl
          exact mV_iret rfl rfl f10_readProgramme_40 hQ
      · rw [if_pos h1] at hr
        refine mV_aload f10_readProgramme_17 rfl ?_
        refine mV_push f10_readProgramme_18 ?_
        obtain ⟨z1, hz1, hr⟩ := mBind hr
        refine mV_cV f10_readProgramme_19 tg_m10_errs mCls10 (by decide) kk_119 (mC_deep (c10_errs X I s 3 hz1) (by decide)) rfl rfl (Nat.le_of_ble_eq_true rfl) ?_
        have hr := Option.some.inj hr; subst hr; have hQ := hret _ rfl
        exact mV_iret rfl rfl f10_readProgramme_22 hQ
set_option maxHeartbeats 4000000 in
set_option maxRecDepth 100000 in
theorem w10_readProgramme (X : Nat × (Nat → Int32)) (I : mI) (s : Nat) (Q : mQ) {res : Int32 × mI} (hr : r10_readProgramme I = some res) (hQ : Q (some (.int res.1)) NN KK res.2 (PP s)) : mV X m10_readProgramme 6 0 0 0 [.ref 119, mX0] [] NN KK I (PP s) Q := by
  unfold r10_readProgramme at hr
  refine mV_push f10_readProgramme_0 ?_
  refine mV_istore (L' := [.ref 119, .int 0]) f10_readProgramme_1 (by decide) rfl rfl ?_
  obtain ⟨z0, hz0, hr⟩ := mBind hr
  refine t10_readProgramme_2 X Q s FU 0 I _ hz0 (fun res ez0 => ?_) (fun wz0 ez0 => ?_)
  · rw [ez0] at hr; have hr := Option.some.inj hr; subst hr; exact hQ
  rw [ez0] at hr
  dsimp only at hr
  refine mV_aload f10_readProgramme_48 rfl ?_
  refine mV_gI (wz0.2 119 18) f10_readProgramme_49 (by decide) kk_119 rfl rfl ?_
  obtain ⟨z1, hz1, hr⟩ := mBind hr
  have keyz1 : mV X m10_readProgramme 6 0 0 64 [.ref 119, mX0] [.int z1.1] NN KK z1.2 (PP s) Q := by
    have hr := Option.some.inj hr; subst hr
    exact mV_iret rfl rfl f10_readProgramme_64 hQ
  clear hr
  have hr := hz1
  clear hz1
  refine mV_if_ne f10_readProgramme_52 (fun h0 => ?_) (fun h0 => ?_)
  · rw [if_neg h0] at hr
    refine mV_aload f10_readProgramme_59 rfl ?_
    refine mV_push f10_readProgramme_60 ?_
    obtain ⟨z2, hz2, hr⟩ := mBind hr
    refine mV_cV f10_readProgramme_61 tg_m10_errs mCls10 (by decide) kk_119 (mC_deep (c10_errs X wz0.2 s 1 hz2) (by decide)) rfl rfl (Nat.le_of_ble_eq_true rfl) ?_
    have hr := Option.some.inj hr; subst hr
    refine mV_drop (L' := [.ref 119, mX0]) (mSub_k (mSub_x mSub_n)) ?_
    exact keyz1
  · rw [if_pos h0] at hr
    refine mV_iload f10_readProgramme_55 rfl ?_
    refine mV_goto f10_readProgramme_56 ?_
    have hr := Option.some.inj hr; subst hr
    refine mV_drop (L' := [.ref 119, mX0]) (mSub_k (mSub_x mSub_n)) ?_
    exact keyz1
theorem c10_readProgramme (X : Nat × (Nat → Int32)) (I : mI) (s : Nat) {res : Int32 × mI} (hr : r10_readProgramme I = some res) : mC X m10_readProgramme 6 0 0 [.ref 119] NN KK I (PP s) (mRet (some (.int res.1)) NN KK res.2 (PP s)) :=
  mC_of (L0 := [.ref 119, mX0]) rfl (Nat.le_of_ble_eq_true rfl) (w10_readProgramme X I s _ hr (mRet_ok _ _ _ _ _))
def r10_kindOfDeed (I : mI) : Int32 := if ((r10_isWord I 15) : Int32) = (0 : Int32) then if ((r10_isWord I 25) : Int32) = (0 : Int32) then if (I 119 18 : Int32) = (2 : Int32) then if ((r10_isIn (I 119 19) 22 24) : Int32) = (0 : Int32) then (-1) else (I 119 19 - 22) else (-1) else 4 else 3
set_option maxHeartbeats 4000000 in
set_option maxRecDepth 100000 in
theorem w10_kindOfDeed (X : Nat × (Nat → Int32)) (I : mI) (s : Nat) (Q : mQ) {res : Int32} (hr : r10_kindOfDeed I = res) (hQ : Q (some (.int res)) NN KK I (PP s)) : mV X m10_kindOfDeed 1 0 0 0 [.ref 119] [] NN KK I (PP s) Q := by
  unfold r10_kindOfDeed at hr
  refine mV_aload f10_kindOfDeed_0 rfl ?_
  refine mV_push f10_kindOfDeed_1 ?_
  refine mV_cV f10_kindOfDeed_3 tg_m10_isWord mCls10 (by decide) kk_119 (mC_deep (c10_isWord X I s 15 rfl) (by decide)) rfl rfl (Nat.le_of_ble_eq_true rfl) ?_
  refine mV_if_eq f10_kindOfDeed_6 (fun h0 => ?_) (fun h0 => ?_)
  · rw [if_pos h0] at hr
    refine mV_aload f10_kindOfDeed_11 rfl ?_
    refine mV_push f10_kindOfDeed_12 ?_
    refine mV_cV f10_kindOfDeed_14 tg_m10_isWord mCls10 (by decide) kk_119 (mC_deep (c10_isWord X I s 25 rfl) (by decide)) rfl rfl (Nat.le_of_ble_eq_true rfl) ?_
    refine mV_if_eq f10_kindOfDeed_17 (fun h1 => ?_) (fun h1 => ?_)
    · rw [if_pos h1] at hr
      refine mV_aload f10_kindOfDeed_22 rfl ?_
      refine mV_gI (I 119 18) f10_kindOfDeed_23 (by decide) kk_119 rfl rfl ?_
      refine mV_push f10_kindOfDeed_26 ?_
      refine mV_icmp_ne f10_kindOfDeed_27 (fun h2 => ?_) (fun h2 => ?_)
      · rw [if_neg h2] at hr
        refine mV_push f10_kindOfDeed_55 ?_
        subst hr
        exact mV_iret rfl rfl f10_kindOfDeed_56 hQ
      · rw [if_pos h2] at hr
        refine mV_aload f10_kindOfDeed_30 rfl ?_
        refine mV_aload f10_kindOfDeed_31 rfl ?_
        refine mV_gI (I 119 19) f10_kindOfDeed_32 (by decide) kk_119 rfl rfl ?_
        refine mV_push f10_kindOfDeed_35 ?_
        refine mV_push f10_kindOfDeed_37 ?_
        refine mV_cV f10_kindOfDeed_39 tg_m10_isIn mCls10 (by decide) kk_119 (mC_deep (c10_isIn X I s (I 119 19) 22 24 rfl) (by decide)) rfl rfl (Nat.le_of_ble_eq_true rfl) ?_
        refine mV_if_eq f10_kindOfDeed_42 (fun h3 => ?_) (fun h3 => ?_)
        · rw [if_pos h3] at hr
          refine mV_push f10_kindOfDeed_55 ?_
          subst hr
          exact mV_iret rfl rfl f10_kindOfDeed_56 hQ
        · rw [if_neg h3] at hr
          refine mV_aload f10_kindOfDeed_45 rfl ?_
          refine mV_gI (I 119 19) f10_kindOfDeed_46 (by decide) kk_119 rfl rfl ?_
          refine mV_push f10_kindOfDeed_49 ?_
          refine mV_isub f10_kindOfDeed_51 ?_
          refine mV_goto f10_kindOfDeed_52 ?_
          subst hr
          exact mV_iret rfl rfl f10_kindOfDeed_56 hQ
    · rw [if_neg h1] at hr
      refine mV_push f10_kindOfDeed_20 ?_
      subst hr
      exact mV_iret rfl rfl f10_kindOfDeed_21 hQ
  · rw [if_neg h0] at hr
    refine mV_push f10_kindOfDeed_9 ?_
    subst hr
    exact mV_iret rfl rfl f10_kindOfDeed_10 hQ
theorem c10_kindOfDeed (X : Nat × (Nat → Int32)) (I : mI) (s : Nat) {res : Int32} (hr : r10_kindOfDeed I = res) : mC X m10_kindOfDeed 1 0 0 [.ref 119] NN KK I (PP s) (mRet (some (.int res)) NN KK I (PP s)) :=
  mC_of (L0 := [.ref 119]) rfl (Nat.le_of_ble_eq_true rfl) (w10_kindOfDeed X I s _ hr (mRet_ok _ _ _ _ _))

def l10_spanOf_29 (k1 : Int32) (k3 : Int32) : Nat → Int32 → Int32 → Option (Int32)
  | 0, _, _ => none
  | f + 1, y4, y5 => if (12 : Int32) ≤ (y5 : Int32) then some y4 else (if ((r10_has k1 (mRm (k3 + y5) 12)) : Int32) = (0 : Int32) then some y4 else some y5 : Option (Int32)).bind fun z0 => l10_spanOf_29 k1 k3 f z0 (y5 + 1)
def l10_spanOf_5 (k1 : Int32) : Nat → Int32 → Int32 → Option (Int32)
  | 0, _, _ => none
  | f + 1, y2, y3 => if (12 : Int32) ≤ (y3 : Int32) then some y2 else (if ((r10_has k1 y3) : Int32) = (0 : Int32) then some y2 else (l10_spanOf_29 k1 y3 FU 0 1).bind fun z1 => some (r10_lesser y2 z1) : Option (Int32)).bind fun z0 => l10_spanOf_5 k1 f z0 (y3 + 1)
def r10_spanOf (x0 : Int32) : Option (Int32) := (l10_spanOf_5 x0 FU 12 0).bind fun z0 => some z0
set_option maxHeartbeats 4000000 in
set_option maxRecDepth 100000 in
theorem t10_spanOf_29 (X : Nat × (Nat → Int32)) (Q : mQ) (s : Nat) (I : mI) (k1 : Int32) (k2 : Int32) (k3 : Int32) : ∀ (f : Nat) (y4 : Int32) (y5 : Int32) (z : Int32), l10_spanOf_29 k1 k3 f y4 y5 = some z → mV X m10_spanOf 1 0 0 61 [.ref 119, .int k1, .int k2, .int k3, .int z, mX0] [] NN KK I (PP s) Q → mV X m10_spanOf 1 0 0 29 [.ref 119, .int k1, .int k2, .int k3, .int y4, .int y5] [] NN KK I (PP s) Q := by
  intro f
  induction f with
  | zero => intro y4 y5 z hr hk; cases hr
  | succ f ih =>
    intro y4 y5 z hr hk
    unfold l10_spanOf_29 at hr
    refine mV_iload f10_spanOf_29 rfl ?_
    refine mV_push f10_spanOf_31 ?_
    refine mV_icmp_ge f10_spanOf_33 (fun h0 => ?_) (fun h0 => ?_)
    · rw [if_pos h0] at hr
      have hr := Option.some.inj hr; subst hr
      refine mV_drop (L' := [.ref 119, .int k1, .int k2, .int k3, .int y4, mX0]) (mSub_k (mSub_k (mSub_k (mSub_k (mSub_k (mSub_x mSub_n)))))) ?_
      exact hk
    · rw [if_neg h0] at hr
      refine mV_aload f10_spanOf_36 rfl ?_
      refine mV_iload f10_spanOf_37 rfl ?_
      refine mV_iload f10_spanOf_38 rfl ?_
      refine mV_iload f10_spanOf_39 rfl ?_
      refine mV_iadd f10_spanOf_41 ?_
      refine mV_push f10_spanOf_42 ?_
      refine mV_remC f10_spanOf_44 (by decide) ?_
      refine mV_cV f10_spanOf_45 tg_m10_has mCls10 (by decide) kk_119 (mC_deep (c10_has X I s k1 (mRm (k3 + y5) 12) rfl) (by decide)) rfl rfl (Nat.le_of_ble_eq_true rfl) ?_
      obtain ⟨z0, hz0, hr⟩ := mBind hr
      have keyz0 : mV X m10_spanOf 1 0 0 55 [.ref 119, .int k1, .int k2, .int k3, .int z0, .int y5] [] NN KK I (PP s) Q := by
        refine mV_iinc (y := (y5 + 1)) (L' := [.ref 119, .int k1, .int k2, .int k3, .int z0, .int (y5 + 1)]) f10_spanOf_55 rfl rfl (by decide) rfl rfl ?_
        refine mV_goto f10_spanOf_58 ?_
        exact ih z0 (y5 + 1) _ hr hk
      clear hr
      have hr := hz0
      clear hz0
      refine mV_if_eq f10_spanOf_48 (fun h1 => ?_) (fun h1 => ?_)
      · rw [if_pos h1] at hr
        have hr := Option.some.inj hr; subst hr
        exact keyz0
      · rw [if_neg h1] at hr
        refine mV_iload f10_spanOf_51 rfl ?_
        refine mV_istore (L' := [.ref 119, .int k1, .int k2, .int k3, .int y5, .int y5]) f10_spanOf_53 (by decide) rfl rfl ?_
        have hr := Option.some.inj hr; subst hr
        exact keyz0
set_option maxHeartbeats 4000000 in
set_option maxRecDepth 100000 in
theorem t10_spanOf_5 (X : Nat × (Nat → Int32)) (Q : mQ) (s : Nat) (I : mI) (k1 : Int32) : ∀ (f : Nat) (y2 : Int32) (y3 : Int32) (z : Int32), l10_spanOf_5 k1 f y2 y3 = some z → mV X m10_spanOf 1 0 0 75 [.ref 119, .int k1, .int z, mX0, mX0, mX0] [] NN KK I (PP s) Q → mV X m10_spanOf 1 0 0 5 [.ref 119, .int k1, .int y2, .int y3, mX0, mX0] [] NN KK I (PP s) Q := by
  intro f
  induction f with
  | zero => intro y2 y3 z hr hk; cases hr
  | succ f ih =>
    intro y2 y3 z hr hk
    unfold l10_spanOf_5 at hr
    refine mV_iload f10_spanOf_5 rfl ?_
    refine mV_push f10_spanOf_6 ?_
    refine mV_icmp_ge f10_spanOf_8 (fun h0 => ?_) (fun h0 => ?_)
    · rw [if_pos h0] at hr
      have hr := Option.some.inj hr; subst hr
      refine mV_drop (L' := [.ref 119, .int k1, .int y2, mX0, mX0, mX0]) (mSub_k (mSub_k (mSub_k (mSub_x (mSub_x (mSub_x mSub_n)))))) ?_
      exact hk
    · rw [if_neg h0] at hr
      refine mV_aload f10_spanOf_11 rfl ?_
      refine mV_iload f10_spanOf_12 rfl ?_
      refine mV_iload f10_spanOf_13 rfl ?_
      refine mV_cV f10_spanOf_14 tg_m10_has mCls10 (by decide) kk_119 (mC_deep (c10_has X I s k1 y3 rfl) (by decide)) rfl rfl (Nat.le_of_ble_eq_true rfl) ?_
      obtain ⟨z0, hz0, hr⟩ := mBind hr
      have keyz0 : mV X m10_spanOf 1 0 0 69 [.ref 119, .int k1, .int z0, .int y3, mX0, mX0] [] NN KK I (PP s) Q := by
        refine mV_iinc (y := (y3 + 1)) (L' := [.ref 119, .int k1, .int z0, .int (y3 + 1), mX0, mX0]) f10_spanOf_69 rfl rfl (by decide) rfl rfl ?_
        refine mV_goto f10_spanOf_72 ?_
        exact ih z0 (y3 + 1) _ hr hk
      clear hr
      have hr := hz0
      clear hz0
      refine mV_if_ne f10_spanOf_17 (fun h1 => ?_) (fun h1 => ?_)
      · rw [if_neg h1] at hr
        refine mV_push f10_spanOf_23 ?_
        refine mV_istore (L' := [.ref 119, .int k1, .int y2, .int y3, .int 0, mX0]) f10_spanOf_24 (by decide) rfl rfl ?_
        refine mV_push f10_spanOf_26 ?_
        refine mV_istore (L' := [.ref 119, .int k1, .int y2, .int y3, .int 0, .int 1]) f10_spanOf_27 (by decide) rfl rfl ?_
        obtain ⟨z1, hz1, hr⟩ := mBind hr
        refine t10_spanOf_29 X Q s I k1 y2 y3 FU 0 1 _ hz1 ?_
        refine mV_aload f10_spanOf_61 rfl ?_
        refine mV_iload f10_spanOf_62 rfl ?_
        refine mV_iload f10_spanOf_63 rfl ?_
        refine mV_cV f10_spanOf_65 tg_m10_lesser mCls10 (by decide) kk_119 (mC_deep (c10_lesser X I s y2 z1 rfl) (by decide)) rfl rfl (Nat.le_of_ble_eq_true rfl) ?_
        refine mV_istore (L' := [.ref 119, .int k1, .int (r10_lesser y2 z1), .int y3, .int z1, mX0]) f10_spanOf_68 (by decide) rfl rfl ?_
        have hr := Option.some.inj hr; subst hr
        refine mV_drop (L' := [.ref 119, .int k1, .int (r10_lesser y2 z1), .int y3, mX0, mX0]) (mSub_k (mSub_k (mSub_k (mSub_k (mSub_x (mSub_x mSub_n)))))) ?_
        exact keyz0
      · rw [if_pos h1] at hr
        refine mV_goto f10_spanOf_20 ?_
        have hr := Option.some.inj hr; subst hr
        exact keyz0
set_option maxHeartbeats 4000000 in
set_option maxRecDepth 100000 in
theorem w10_spanOf (X : Nat × (Nat → Int32)) (I : mI) (s : Nat) (x0 : Int32) (Q : mQ) {res : Int32} (hr : r10_spanOf x0 = some res) (hQ : Q (some (.int res)) NN KK I (PP s)) : mV X m10_spanOf 1 0 0 0 [.ref 119, .int x0, mX0, mX0, mX0, mX0] [] NN KK I (PP s) Q := by
  unfold r10_spanOf at hr
  refine mV_push f10_spanOf_0 ?_
  refine mV_istore (L' := [.ref 119, .int x0, .int 12, mX0, mX0, mX0]) f10_spanOf_2 (by decide) rfl rfl ?_
  refine mV_push f10_spanOf_3 ?_
  refine mV_istore (L' := [.ref 119, .int x0, .int 12, .int 0, mX0, mX0]) f10_spanOf_4 (by decide) rfl rfl ?_
  obtain ⟨z0, hz0, hr⟩ := mBind hr
  refine t10_spanOf_5 X Q s I x0 FU 12 0 _ hz0 ?_
  refine mV_iload f10_spanOf_75 rfl ?_
  have hr := Option.some.inj hr; subst hr
  exact mV_iret rfl rfl f10_spanOf_76 hQ
theorem c10_spanOf (X : Nat × (Nat → Int32)) (I : mI) (s : Nat) (x0 : Int32) {res : Int32} (hr : r10_spanOf x0 = some res) : mC X m10_spanOf 1 0 0 [.ref 119, .int x0] NN KK I (PP s) (mRet (some (.int res)) NN KK I (PP s)) :=
  mC_of (L0 := [.ref 119, .int x0, mX0, mX0, mX0, mX0]) rfl (Nat.le_of_ble_eq_true rfl) (w10_spanOf X I s x0 _ hr (mRet_ok _ _ _ _ _))
def r10_chords (I : mI) (x0 : Int32) (x1 : Int32) (x2 : Int32) : Option (Int32 × mI) := if ((r10_isIn x0 1 4095) : Int32) = (0 : Int32) then some ((-1), (mW I 119 0 0)) else if ((r10_isIn x2 0 4) : Int32) = (0 : Int32) then some ((-1), (mW I 119 0 0)) else if (2 : Int32) ≤ (x2 : Int32) then (if (x2 : Int32) = (2 : Int32) then (r10_mostHeld x0).bind fun z3 => (r10_onesOf (x0 &&& (r10_movedUp x0 z3))).bind fun z4 => some z4 else if (x2 : Int32) = (3 : Int32) then (r10_mostHeld x0).bind fun z2 => some z2 else (r10_spanOf x0).bind fun z1 => some z1 : Option (Int32)).bind fun z0 => some (z0, (mW I 119 0 0)) else (if ((r10_isIn x1 1 4095) : Int32) = (0 : Int32) then some (-1) else (if (x2 : Int32) = (0 : Int32) then some x0 else (r10_turnedOver x0).bind fun z7 => some z7 : Option (Int32)).bind fun z6 => (r10_stepsUp z6 x1).bind fun z8 => some z8 : Option (Int32)).bind fun z5 => some (z5, (mW I 119 0 0))
set_option maxHeartbeats 4000000 in
set_option maxRecDepth 100000 in
theorem w10_chords (X : Nat × (Nat → Int32)) (I : mI) (s : Nat) (x0 : Int32) (x1 : Int32) (x2 : Int32) (Q : mQ) {res : Int32 × mI} (hr : r10_chords I x0 x1 x2 = some res) (hQ : Q (some (.int res.1)) NN KK res.2 (PP s)) : mV X m10_chords 2 0 0 0 [.ref 119, .int x0, .int x1, .int x2] [] NN KK I (PP s) Q := by
  unfold r10_chords at hr
  refine mV_aload f10_chords_0 rfl ?_
  refine mV_push f10_chords_1 ?_
  refine mV_putI f10_chords_2 (by decide) kk_119 rfl rfl ?_
  refine mV_aload f10_chords_5 rfl ?_
  refine mV_iload f10_chords_6 rfl ?_
  refine mV_push f10_chords_7 ?_
  refine mV_push f10_chords_8 ?_
  refine mV_cV f10_chords_11 tg_m10_isIn mCls10 (by decide) kk_119 (mC_deep (c10_isIn X (mW I 119 0 0) s x0 1 4095 rfl) (by decide)) rfl rfl (Nat.le_of_ble_eq_true rfl) ?_
  refine mV_if_eq f10_chords_14 (fun h0 => ?_) (fun h0 => ?_)
  · rw [if_pos h0] at hr
    refine mV_push f10_chords_27 ?_
    have hr := Option.some.inj hr; subst hr
    exact mV_iret rfl rfl f10_chords_28 hQ
  · rw [if_neg h0] at hr
    refine mV_aload f10_chords_17 rfl ?_
    refine mV_iload f10_chords_18 rfl ?_
    refine mV_push f10_chords_19 ?_
    refine mV_push f10_chords_20 ?_
    refine mV_cV f10_chords_21 tg_m10_isIn mCls10 (by decide) kk_119 (mC_deep (c10_isIn X (mW I 119 0 0) s x2 0 4 rfl) (by decide)) rfl rfl (Nat.le_of_ble_eq_true rfl) ?_
    refine mV_if_ne f10_chords_24 (fun h1 => ?_) (fun h1 => ?_)
    · rw [if_neg h1] at hr
      refine mV_iload f10_chords_29 rfl ?_
      refine mV_push f10_chords_30 ?_
      refine mV_icmp_ge f10_chords_31 (fun h2 => ?_) (fun h2 => ?_)
      · rw [if_pos h2] at hr
        refine mV_iload f10_chords_69 rfl ?_
        refine mV_push f10_chords_70 ?_
        obtain ⟨z0, hz0, hr⟩ := mBind hr
        have keyz0 : mV X m10_chords 2 0 0 111 [.ref 119, mX0, mX0, mX0] [.int z0] NN KK (mW I 119 0 0) (PP s) Q := by
          have hr := Option.some.inj hr; subst hr
          exact mV_iret rfl rfl f10_chords_111 hQ
        clear hr
        have hr := hz0
        clear hz0
        refine mV_icmp_ne f10_chords_71 (fun h3 => ?_) (fun h3 => ?_)
        · rw [if_neg h3] at hr
          refine mV_iload f10_chords_93 rfl ?_
          refine mV_push f10_chords_94 ?_
          refine mV_icmp_ne f10_chords_95 (fun h4 => ?_) (fun h4 => ?_)
          · rw [if_neg h4] at hr
            refine mV_aload f10_chords_106 rfl ?_
            refine mV_iload f10_chords_107 rfl ?_
            obtain ⟨z1, hz1, hr⟩ := mBind hr
            refine mV_cV f10_chords_108 tg_m10_spanOf mCls10 (by decide) kk_119 (mC_deep (c10_spanOf X (mW I 119 0 0) s x0 hz1) (by decide)) rfl rfl (Nat.le_of_ble_eq_true rfl) ?_
            have hr := Option.some.inj hr; subst hr
            refine mV_drop (L' := [.ref 119, mX0, mX0, mX0]) (mSub_k (mSub_x (mSub_x (mSub_x mSub_n)))) ?_
            exact keyz0
          · rw [if_pos h4] at hr
            refine mV_aload f10_chords_98 rfl ?_
            refine mV_iload f10_chords_99 rfl ?_
            obtain ⟨z2, hz2, hr⟩ := mBind hr
            refine mV_cV f10_chords_100 tg_m10_mostHeld mCls10 (by decide) kk_119 (mC_deep (c10_mostHeld X (mW I 119 0 0) s x0 hz2) (by decide)) rfl rfl (Nat.le_of_ble_eq_true rfl) ?_
            refine mV_goto f10_chords_103 ?_
            have hr := Option.some.inj hr; subst hr
            refine mV_drop (L' := [.ref 119, mX0, mX0, mX0]) (mSub_k (mSub_x (mSub_x (mSub_x mSub_n)))) ?_
            exact keyz0
        · rw [if_pos h3] at hr
          refine mV_aload f10_chords_74 rfl ?_
          refine mV_iload f10_chords_75 rfl ?_
          refine mV_aload f10_chords_76 rfl ?_
          refine mV_iload f10_chords_77 rfl ?_
          refine mV_aload f10_chords_78 rfl ?_
          refine mV_iload f10_chords_79 rfl ?_
          obtain ⟨z3, hz3, hr⟩ := mBind hr
          refine mV_cV f10_chords_80 tg_m10_mostHeld mCls10 (by decide) kk_119 (mC_deep (c10_mostHeld X (mW I 119 0 0) s x0 hz3) (by decide)) rfl rfl (Nat.le_of_ble_eq_true rfl) ?_
          refine mV_cV f10_chords_83 tg_m10_movedUp mCls10 (by decide) kk_119 (mC_deep (c10_movedUp X (mW I 119 0 0) s x0 z3 rfl) (by decide)) rfl rfl (Nat.le_of_ble_eq_true rfl) ?_
          refine mV_iand f10_chords_86 ?_
          obtain ⟨z4, hz4, hr⟩ := mBind hr
          refine mV_cV f10_chords_87 tg_m10_onesOf mCls10 (by decide) kk_119 (mC_deep (c10_onesOf X (mW I 119 0 0) s (x0 &&& (r10_movedUp x0 z3)) hz4) (by decide)) rfl rfl (Nat.le_of_ble_eq_true rfl) ?_
          refine mV_goto f10_chords_90 ?_
          have hr := Option.some.inj hr; subst hr
          refine mV_drop (L' := [.ref 119, mX0, mX0, mX0]) (mSub_k (mSub_x (mSub_x (mSub_x mSub_n)))) ?_
          exact keyz0
      · rw [if_neg h2] at hr
        refine mV_aload f10_chords_34 rfl ?_
        refine mV_iload f10_chords_35 rfl ?_
        refine mV_push f10_chords_36 ?_
        refine mV_push f10_chords_37 ?_
        refine mV_cV f10_chords_40 tg_m10_isIn mCls10 (by decide) kk_119 (mC_deep (c10_isIn X (mW I 119 0 0) s x1 1 4095 rfl) (by decide)) rfl rfl (Nat.le_of_ble_eq_true rfl) ?_
        obtain ⟨z5, hz5, hr⟩ := mBind hr
        have keyz5 : mV X m10_chords 2 0 0 68 [.ref 119, mX0, mX0, mX0] [.int z5] NN KK (mW I 119 0 0) (PP s) Q := by
          have hr := Option.some.inj hr; subst hr
          exact mV_iret rfl rfl f10_chords_68 hQ
        clear hr
        have hr := hz5
        clear hz5
        refine mV_if_ne f10_chords_43 (fun h5 => ?_) (fun h5 => ?_)
        · rw [if_neg h5] at hr
          refine mV_aload f10_chords_50 rfl ?_
          refine mV_iload f10_chords_51 rfl ?_
          obtain ⟨z6, hz6, hr⟩ := mBind hr
          have keyz6 : mV X m10_chords 2 0 0 64 [.ref 119, mX0, .int x1, mX0] [.int z6, .ref 119] NN KK (mW I 119 0 0) (PP s) Q := by
            refine mV_iload f10_chords_64 rfl ?_
            obtain ⟨z8, hz8, hr⟩ := mBind hr
            refine mV_cV f10_chords_65 tg_m10_stepsUp mCls10 (by decide) kk_119 (mC_deep (c10_stepsUp X (mW I 119 0 0) s z6 x1 hz8) (by decide)) rfl rfl (Nat.le_of_ble_eq_true rfl) ?_
            have hr := Option.some.inj hr; subst hr
            refine mV_drop (L' := [.ref 119, mX0, mX0, mX0]) (mSub_k (mSub_x (mSub_x (mSub_x mSub_n)))) ?_
            exact keyz5
          clear hr
          have hr := hz6
          clear hz6
          refine mV_if_ne f10_chords_52 (fun h6 => ?_) (fun h6 => ?_)
          · rw [if_neg h6] at hr
            refine mV_aload f10_chords_59 rfl ?_
            refine mV_iload f10_chords_60 rfl ?_
            obtain ⟨z7, hz7, hr⟩ := mBind hr
            refine mV_cV f10_chords_61 tg_m10_turnedOver mCls10 (by decide) kk_119 (mC_deep (c10_turnedOver X (mW I 119 0 0) s x0 hz7) (by decide)) rfl rfl (Nat.le_of_ble_eq_true rfl) ?_
            have hr := Option.some.inj hr; subst hr
            refine mV_drop (L' := [.ref 119, mX0, .int x1, mX0]) (mSub_k (mSub_x (mSub_k (mSub_x mSub_n)))) ?_
            exact keyz6
          · rw [if_pos h6] at hr
            refine mV_iload f10_chords_55 rfl ?_
            refine mV_goto f10_chords_56 ?_
            have hr := Option.some.inj hr; subst hr
            refine mV_drop (L' := [.ref 119, mX0, .int x1, mX0]) (mSub_k (mSub_x (mSub_k (mSub_x mSub_n)))) ?_
            exact keyz6
        · rw [if_pos h5] at hr
          refine mV_push f10_chords_46 ?_
          refine mV_goto f10_chords_47 ?_
          have hr := Option.some.inj hr; subst hr
          refine mV_drop (L' := [.ref 119, mX0, mX0, mX0]) (mSub_k (mSub_x (mSub_x (mSub_x mSub_n)))) ?_
          exact keyz5
    · rw [if_pos h1] at hr
      refine mV_push f10_chords_27 ?_
      have hr := Option.some.inj hr; subst hr
      exact mV_iret rfl rfl f10_chords_28 hQ
theorem c10_chords (X : Nat × (Nat → Int32)) (I : mI) (s : Nat) (x0 : Int32) (x1 : Int32) (x2 : Int32) {res : Int32 × mI} (hr : r10_chords I x0 x1 x2 = some res) : mC X m10_chords 2 0 0 [.ref 119, .int x0, .int x1, .int x2] NN KK I (PP s) (mRet (some (.int res.1)) NN KK res.2 (PP s)) :=
  mC_of (L0 := [.ref 119, .int x0, .int x1, .int x2]) rfl (Nat.le_of_ble_eq_true rfl) (w10_chords X I s x0 x1 x2 _ hr (mRet_ok _ _ _ _ _))
def r10_tone (I : mI) (x0 : Int32) : Option (Int32 × mI) := if (x0 : Int32) = ((-1) : Int32) then some (0, (mW (mW I 119 0 0) 119 48 0)) else if ((r10_isIn x0 0 60) : Int32) = (0 : Int32) then some ((-1), (mW I 119 0 0)) else if (I 119 48 : Int32) = (16 : Int32) then some ((-1), (mW I 119 0 0)) else (mSto (mW I 119 0 0) 146 16 (I 119 48) x0).bind fun z0 => some ((z0 119 48 + 1), (mW z0 119 48 (z0 119 48 + 1)))
set_option maxHeartbeats 4000000 in
set_option maxRecDepth 100000 in
theorem w10_tone (X : Nat × (Nat → Int32)) (I : mI) (s : Nat) (x0 : Int32) (Q : mQ) {res : Int32 × mI} (hr : r10_tone I x0 = some res) (hQ : Q (some (.int res.1)) NN KK res.2 (PP s)) : mV X m10_tone 1 0 0 0 [.ref 119, .int x0] [] NN KK I (PP s) Q := by
  unfold r10_tone at hr
  refine mV_aload f10_tone_0 rfl ?_
  refine mV_push f10_tone_1 ?_
  refine mV_putI f10_tone_2 (by decide) kk_119 rfl rfl ?_
  refine mV_iload f10_tone_5 rfl ?_
  refine mV_push f10_tone_6 ?_
  refine mV_icmp_ne f10_tone_7 (fun h0 => ?_) (fun h0 => ?_)
  · rw [if_neg h0] at hr
    refine mV_aload f10_tone_17 rfl ?_
    refine mV_iload f10_tone_18 rfl ?_
    refine mV_push f10_tone_19 ?_
    refine mV_push f10_tone_20 ?_
    refine mV_cV f10_tone_22 tg_m10_isIn mCls10 (by decide) kk_119 (mC_deep (c10_isIn X (mW I 119 0 0) s x0 0 60 rfl) (by decide)) rfl rfl (Nat.le_of_ble_eq_true rfl) ?_
    refine mV_if_eq f10_tone_25 (fun h1 => ?_) (fun h1 => ?_)
    · rw [if_pos h1] at hr
      refine mV_push f10_tone_37 ?_
      have hr := Option.some.inj hr; subst hr
      exact mV_iret rfl rfl f10_tone_38 hQ
    · rw [if_neg h1] at hr
      refine mV_aload f10_tone_28 rfl ?_
      refine mV_gI (I 119 48) f10_tone_29 (by decide) kk_119 rfl rfl ?_
      refine mV_push f10_tone_32 ?_
      refine mV_icmp_ne f10_tone_34 (fun h2 => ?_) (fun h2 => ?_)
      · rw [if_neg h2] at hr
        refine mV_aload f10_tone_39 rfl ?_
        refine mV_getP f10_tone_40 (by decide) kk_119 rfl (pp_119_49 _) ?_
        refine mV_aload f10_tone_43 rfl ?_
        refine mV_gI (I 119 48) f10_tone_44 (by decide) kk_119 rfl rfl ?_
        refine mV_iload f10_tone_47 rfl ?_
        obtain ⟨z0, hz0, hr⟩ := mBind hr
        refine mV_stO f10_tone_48 (by decide) kk_146 hz0 ?_
        refine mV_aload f10_tone_49 rfl ?_
        refine mV_aload f10_tone_50 rfl ?_
        refine mV_gI (z0 119 48) f10_tone_51 (by decide) kk_119 rfl rfl ?_
        refine mV_push f10_tone_54 ?_
        refine mV_iadd f10_tone_55 ?_
        refine mV_putI f10_tone_56 (by decide) kk_119 rfl rfl ?_
        refine mV_aload f10_tone_59 rfl ?_
        refine mV_gI (z0 119 48 + 1) f10_tone_60 (by decide) kk_119 rfl rfl ?_
        have hr := Option.some.inj hr; subst hr
        exact mV_iret rfl rfl f10_tone_63 hQ
      · rw [if_pos h2] at hr
        refine mV_push f10_tone_37 ?_
        have hr := Option.some.inj hr; subst hr
        exact mV_iret rfl rfl f10_tone_38 hQ
  · rw [if_pos h0] at hr
    refine mV_aload f10_tone_10 rfl ?_
    refine mV_push f10_tone_11 ?_
    refine mV_putI f10_tone_12 (by decide) kk_119 rfl rfl ?_
    refine mV_push f10_tone_15 ?_
    have hr := Option.some.inj hr; subst hr
    exact mV_iret rfl rfl f10_tone_16 hQ
theorem c10_tone (X : Nat × (Nat → Int32)) (I : mI) (s : Nat) (x0 : Int32) {res : Int32 × mI} (hr : r10_tone I x0 = some res) : mC X m10_tone 1 0 0 [.ref 119, .int x0] NN KK I (PP s) (mRet (some (.int res.1)) NN KK res.2 (PP s)) :=
  mC_of (L0 := [.ref 119, .int x0]) rfl (Nat.le_of_ble_eq_true rfl) (w10_tone X I s x0 _ hr (mRet_ok _ _ _ _ _))
def l10_alikeFrom_2 (I : mI) (k1 : Int32) (k2 : Int32) : Nat → Int32 → Option (Int32)
  | 0, _ => none
  | f + 1, y3 => if (I 119 48 : Int32) ≤ ((k1 + y3) : Int32) then some y3 else if (I 119 48 : Int32) ≤ ((k2 + y3) : Int32) then some y3 else (mLd I 146 16 (k1 + y3)).bind fun z0 => (mLd I 146 16 k1).bind fun z1 => (mLd I 146 16 (k2 + y3)).bind fun z2 => (mLd I 146 16 k2).bind fun z3 => if ((z0 - z1) : Int32) = ((z2 - z3) : Int32) then l10_alikeFrom_2 I k1 k2 f (y3 + 1) else some y3
def r10_alikeFrom (I : mI) (x0 : Int32) (x1 : Int32) : Option (Int32) := (l10_alikeFrom_2 I x0 x1 FU 1).bind fun z0 => some z0
set_option maxHeartbeats 4000000 in
set_option maxRecDepth 100000 in
theorem t10_alikeFrom_2 (X : Nat × (Nat → Int32)) (Q : mQ) (s : Nat) (I : mI) (k1 : Int32) (k2 : Int32) : ∀ (f : Nat) (y3 : Int32) (z : Int32), l10_alikeFrom_2 I k1 k2 f y3 = some z → mV X m10_alikeFrom 0 0 0 62 [.ref 119, .int k1, .int k2, .int z] [] NN KK I (PP s) Q → mV X m10_alikeFrom 0 0 0 2 [.ref 119, .int k1, .int k2, .int y3] [] NN KK I (PP s) Q := by
  intro f
  induction f with
  | zero => intro y3 z hr hk; cases hr
  | succ f ih =>
    intro y3 z hr hk
    unfold l10_alikeFrom_2 at hr
    refine mV_iload f10_alikeFrom_2 rfl ?_
    refine mV_iload f10_alikeFrom_3 rfl ?_
    refine mV_iadd f10_alikeFrom_4 ?_
    refine mV_aload f10_alikeFrom_5 rfl ?_
    refine mV_gI (I 119 48) f10_alikeFrom_6 (by decide) kk_119 rfl rfl ?_
    refine mV_icmp_ge f10_alikeFrom_9 (fun h0 => ?_) (fun h0 => ?_)
    · rw [if_pos h0] at hr
      have hr := Option.some.inj hr; subst hr
      exact hk
    · rw [if_neg h0] at hr
      refine mV_iload f10_alikeFrom_12 rfl ?_
      refine mV_iload f10_alikeFrom_13 rfl ?_
      refine mV_iadd f10_alikeFrom_14 ?_
      refine mV_aload f10_alikeFrom_15 rfl ?_
      refine mV_gI (I 119 48) f10_alikeFrom_16 (by decide) kk_119 rfl rfl ?_
      refine mV_icmp_ge f10_alikeFrom_19 (fun h1 => ?_) (fun h1 => ?_)
      · rw [if_pos h1] at hr
        have hr := Option.some.inj hr; subst hr
        exact hk
      · rw [if_neg h1] at hr
        refine mV_aload f10_alikeFrom_22 rfl ?_
        refine mV_getP f10_alikeFrom_23 (by decide) kk_119 rfl (pp_119_49 _) ?_
        refine mV_iload f10_alikeFrom_26 rfl ?_
        refine mV_iload f10_alikeFrom_27 rfl ?_
        refine mV_iadd f10_alikeFrom_28 ?_
        obtain ⟨z0, hz0, hr⟩ := mBind hr
        refine mV_ldO f10_alikeFrom_29 (by decide) kk_146 hz0 ?_
        refine mV_aload f10_alikeFrom_30 rfl ?_
        refine mV_getP f10_alikeFrom_31 (by decide) kk_119 rfl (pp_119_49 _) ?_
        refine mV_iload f10_alikeFrom_34 rfl ?_
        obtain ⟨z1, hz1, hr⟩ := mBind hr
        refine mV_ldO f10_alikeFrom_35 (by decide) kk_146 hz1 ?_
        refine mV_isub f10_alikeFrom_36 ?_
        refine mV_aload f10_alikeFrom_37 rfl ?_
        refine mV_getP f10_alikeFrom_38 (by decide) kk_119 rfl (pp_119_49 _) ?_
        refine mV_iload f10_alikeFrom_41 rfl ?_
        refine mV_iload f10_alikeFrom_42 rfl ?_
        refine mV_iadd f10_alikeFrom_43 ?_
        obtain ⟨z2, hz2, hr⟩ := mBind hr
        refine mV_ldO f10_alikeFrom_44 (by decide) kk_146 hz2 ?_
        refine mV_aload f10_alikeFrom_45 rfl ?_
        refine mV_getP f10_alikeFrom_46 (by decide) kk_119 rfl (pp_119_49 _) ?_
        refine mV_iload f10_alikeFrom_49 rfl ?_
        obtain ⟨z3, hz3, hr⟩ := mBind hr
        refine mV_ldO f10_alikeFrom_50 (by decide) kk_146 hz3 ?_
        refine mV_isub f10_alikeFrom_51 ?_
        refine mV_icmp_ne f10_alikeFrom_52 (fun h2 => ?_) (fun h2 => ?_)
        · rw [if_neg h2] at hr
          have hr := Option.some.inj hr; subst hr
          exact hk
        · rw [if_pos h2] at hr
          refine mV_iload f10_alikeFrom_55 rfl ?_
          refine mV_push f10_alikeFrom_56 ?_
          refine mV_iadd f10_alikeFrom_57 ?_
          refine mV_istore (L' := [.ref 119, .int k1, .int k2, .int (y3 + 1)]) f10_alikeFrom_58 (by decide) rfl rfl ?_
          refine mV_goto f10_alikeFrom_59 ?_
          exact ih (y3 + 1) _ hr hk
set_option maxHeartbeats 4000000 in
set_option maxRecDepth 100000 in
theorem w10_alikeFrom (X : Nat × (Nat → Int32)) (I : mI) (s : Nat) (x0 : Int32) (x1 : Int32) (Q : mQ) {res : Int32} (hr : r10_alikeFrom I x0 x1 = some res) (hQ : Q (some (.int res)) NN KK I (PP s)) : mV X m10_alikeFrom 0 0 0 0 [.ref 119, .int x0, .int x1, mX0] [] NN KK I (PP s) Q := by
  unfold r10_alikeFrom at hr
  refine mV_push f10_alikeFrom_0 ?_
  refine mV_istore (L' := [.ref 119, .int x0, .int x1, .int 1]) f10_alikeFrom_1 (by decide) rfl rfl ?_
  obtain ⟨z0, hz0, hr⟩ := mBind hr
  refine t10_alikeFrom_2 X Q s I x0 x1 FU 1 _ hz0 ?_
  refine mV_iload f10_alikeFrom_62 rfl ?_
  have hr := Option.some.inj hr; subst hr
  exact mV_iret rfl rfl f10_alikeFrom_63 hQ
theorem c10_alikeFrom (X : Nat × (Nat → Int32)) (I : mI) (s : Nat) (x0 : Int32) (x1 : Int32) {res : Int32} (hr : r10_alikeFrom I x0 x1 = some res) : mC X m10_alikeFrom 0 0 0 [.ref 119, .int x0, .int x1] NN KK I (PP s) (mRet (some (.int res)) NN KK I (PP s)) :=
  mC_of (L0 := [.ref 119, .int x0, .int x1, mX0]) rfl (Nat.le_of_ble_eq_true rfl) (w10_alikeFrom X I s x0 x1 _ hr (mRet_ok _ _ _ _ _))
def l10_twice_19 (I : mI) (k4 : Int32) : Nat → Int32 → Int32 → Int32 → Option (Int32 × Int32)
  | 0, _, _, _ => none
  | f + 1, y2, y3, y5 => if (I 119 48 : Int32) ≤ (y5 : Int32) then some (y2, y3) else (if (y5 : Int32) = (k4 : Int32) then some (y2, y3) else (r10_alikeFrom I k4 y5).bind fun z1 => if (y2 : Int32) < (z1 : Int32) then (r10_alikeFrom I k4 y5).bind fun z2 => some (z2, k4) else some (y2, y3) : Option (Int32 × Int32)).bind fun z0 => l10_twice_19 I k4 f z0.1 z0.2 (y5 + 1)
def l10_twice_7 (I : mI) : Nat → Int32 → Int32 → Int32 → Option (Int32 × Int32)
  | 0, _, _, _ => none
  | f + 1, y2, y3, y4 => if (I 119 48 : Int32) ≤ (y4 : Int32) then some (y2, y3) else (l10_twice_19 I y4 FU y2 y3 0).bind fun z0 => l10_twice_7 I f z0.1 z0.2 (y4 + 1)
def r10_twice (I : mI) (x0 : Int32) : Option (Int32) := (l10_twice_7 I FU 1 (-1) 0).bind fun z0 => (if (x0 : Int32) = (0 : Int32) then if (z0.1 : Int32) ≤ (1 : Int32) then some 0 else some z0.1 else some z0.2 : Option (Int32)).bind fun z1 => some z1
set_option maxHeartbeats 4000000 in
set_option maxRecDepth 100000 in
theorem t10_twice_19 (X : Nat × (Nat → Int32)) (Q : mQ) (s : Nat) (I : mI) (k1 : Int32) (k4 : Int32) : ∀ (f : Nat) (y2 : Int32) (y3 : Int32) (y5 : Int32) (z : Int32 × Int32), l10_twice_19 I k4 f y2 y3 y5 = some z → mV X m10_twice 1 0 0 68 [.ref 119, .int k1, .int z.1, .int z.2, .int k4, mX0] [] NN KK I (PP s) Q → mV X m10_twice 1 0 0 19 [.ref 119, .int k1, .int y2, .int y3, .int k4, .int y5] [] NN KK I (PP s) Q := by
  intro f
  induction f with
  | zero => intro y2 y3 y5 z hr hk; cases hr
  | succ f ih =>
    intro y2 y3 y5 z hr hk
    unfold l10_twice_19 at hr
    refine mV_iload f10_twice_19 rfl ?_
    refine mV_aload f10_twice_21 rfl ?_
    refine mV_gI (I 119 48) f10_twice_22 (by decide) kk_119 rfl rfl ?_
    refine mV_icmp_ge f10_twice_25 (fun h0 => ?_) (fun h0 => ?_)
    · rw [if_pos h0] at hr
      have hr := Option.some.inj hr; subst hr
      refine mV_drop (L' := [.ref 119, .int k1, .int y2, .int y3, .int k4, mX0]) (mSub_k (mSub_k (mSub_k (mSub_k (mSub_k (mSub_x mSub_n)))))) ?_
      exact hk
    · rw [if_neg h0] at hr
      refine mV_iload f10_twice_28 rfl ?_
      refine mV_iload f10_twice_30 rfl ?_
      obtain ⟨z0, hz0, hr⟩ := mBind hr
      have keyz0 : mV X m10_twice 1 0 0 62 [.ref 119, .int k1, .int z0.1, .int z0.2, .int k4, .int y5] [] NN KK I (PP s) Q := by
        refine mV_iinc (y := (y5 + 1)) (L' := [.ref 119, .int k1, .int z0.1, .int z0.2, .int k4, .int (y5 + 1)]) f10_twice_62 rfl rfl (by decide) rfl rfl ?_
        refine mV_goto f10_twice_65 ?_
        exact ih z0.1 z0.2 (y5 + 1) _ hr hk
      clear hr
      have hr := hz0
      clear hz0
      refine mV_icmp_eq f10_twice_32 (fun h1 => ?_) (fun h1 => ?_)
      · rw [if_pos h1] at hr
        have hr := Option.some.inj hr; subst hr
        exact keyz0
      · rw [if_neg h1] at hr
        refine mV_aload f10_twice_35 rfl ?_
        refine mV_iload f10_twice_36 rfl ?_
        refine mV_iload f10_twice_38 rfl ?_
        obtain ⟨z1, hz1, hr⟩ := mBind hr
        refine mV_cV f10_twice_40 tg_m10_alikeFrom mCls10 (by decide) kk_119 (mC_deep (c10_alikeFrom X I s k4 y5 hz1) (by decide)) rfl rfl (Nat.le_of_ble_eq_true rfl) ?_
        refine mV_iload f10_twice_43 rfl ?_
        refine mV_icmp_gt f10_twice_44 (fun h2 => ?_) (fun h2 => ?_)
        · rw [if_pos h2] at hr
          refine mV_aload f10_twice_50 rfl ?_
          refine mV_iload f10_twice_51 rfl ?_
          refine mV_iload f10_twice_53 rfl ?_
          obtain ⟨z2, hz2, hr⟩ := mBind hr
          refine mV_cV f10_twice_55 tg_m10_alikeFrom mCls10 (by decide) kk_119 (mC_deep (c10_alikeFrom X I s k4 y5 hz2) (by decide)) rfl rfl (Nat.le_of_ble_eq_true rfl) ?_
          refine mV_istore (L' := [.ref 119, .int k1, .int z2, .int y3, .int k4, .int y5]) f10_twice_58 (by decide) rfl rfl ?_
          refine mV_iload f10_twice_59 rfl ?_
          refine mV_istore (L' := [.ref 119, .int k1, .int z2, .int k4, .int k4, .int y5]) f10_twice_61 (by decide) rfl rfl ?_
          have hr := Option.some.inj hr; subst hr
          exact keyz0
        · rw [if_neg h2] at hr
          refine mV_goto f10_twice_47 ?_
          have hr := Option.some.inj hr; subst hr
          exact keyz0
set_option maxHeartbeats 4000000 in
set_option maxRecDepth 100000 in
theorem t10_twice_7 (X : Nat × (Nat → Int32)) (Q : mQ) (s : Nat) (I : mI) (k1 : Int32) : ∀ (f : Nat) (y2 : Int32) (y3 : Int32) (y4 : Int32) (z : Int32 × Int32), l10_twice_7 I f y2 y3 y4 = some z → mV X m10_twice 1 0 0 74 [.ref 119, .int k1, .int z.1, .int z.2, mX0, mX0] [] NN KK I (PP s) Q → mV X m10_twice 1 0 0 7 [.ref 119, .int k1, .int y2, .int y3, .int y4, mX0] [] NN KK I (PP s) Q := by
  intro f
  induction f with
  | zero => intro y2 y3 y4 z hr hk; cases hr
  | succ f ih =>
    intro y2 y3 y4 z hr hk
    unfold l10_twice_7 at hr
    refine mV_iload f10_twice_7 rfl ?_
    refine mV_aload f10_twice_9 rfl ?_
    refine mV_gI (I 119 48) f10_twice_10 (by decide) kk_119 rfl rfl ?_
    refine mV_icmp_ge f10_twice_13 (fun h0 => ?_) (fun h0 => ?_)
    · rw [if_pos h0] at hr
      have hr := Option.some.inj hr; subst hr
      refine mV_drop (L' := [.ref 119, .int k1, .int y2, .int y3, mX0, mX0]) (mSub_k (mSub_k (mSub_k (mSub_k (mSub_x (mSub_x mSub_n)))))) ?_
      exact hk
    · rw [if_neg h0] at hr
      refine mV_push f10_twice_16 ?_
      refine mV_istore (L' := [.ref 119, .int k1, .int y2, .int y3, .int y4, .int 0]) f10_twice_17 (by decide) rfl rfl ?_
      obtain ⟨z0, hz0, hr⟩ := mBind hr
      refine t10_twice_19 X Q s I k1 y4 FU y2 y3 0 _ hz0 ?_
      refine mV_iinc (y := (y4 + 1)) (L' := [.ref 119, .int k1, .int z0.1, .int z0.2, .int (y4 + 1), mX0]) f10_twice_68 rfl rfl (by decide) rfl rfl ?_
      refine mV_goto f10_twice_71 ?_
      exact ih z0.1 z0.2 (y4 + 1) _ hr hk
set_option maxHeartbeats 4000000 in
set_option maxRecDepth 100000 in
theorem w10_twice (X : Nat × (Nat → Int32)) (I : mI) (s : Nat) (x0 : Int32) (Q : mQ) {res : Int32} (hr : r10_twice I x0 = some res) (hQ : Q (some (.int res)) NN KK I (PP s)) : mV X m10_twice 1 0 0 0 [.ref 119, .int x0, mX0, mX0, mX0, mX0] [] NN KK I (PP s) Q := by
  unfold r10_twice at hr
  refine mV_push f10_twice_0 ?_
  refine mV_istore (L' := [.ref 119, .int x0, .int 1, mX0, mX0, mX0]) f10_twice_1 (by decide) rfl rfl ?_
  refine mV_push f10_twice_2 ?_
  refine mV_istore (L' := [.ref 119, .int x0, .int 1, .int (-1), mX0, mX0]) f10_twice_3 (by decide) rfl rfl ?_
  refine mV_push f10_twice_4 ?_
  refine mV_istore (L' := [.ref 119, .int x0, .int 1, .int (-1), .int 0, mX0]) f10_twice_5 (by decide) rfl rfl ?_
  obtain ⟨z0, hz0, hr⟩ := mBind hr
  refine t10_twice_7 X Q s I x0 FU 1 (-1) 0 _ hz0 ?_
  refine mV_iload f10_twice_74 rfl ?_
  obtain ⟨z1, hz1, hr⟩ := mBind hr
  have keyz1 : mV X m10_twice 1 0 0 92 [.ref 119, mX0, mX0, mX0, mX0, mX0] [.int z1] NN KK I (PP s) Q := by
    have hr := Option.some.inj hr; subst hr
    exact mV_iret rfl rfl f10_twice_92 hQ
  clear hr
  have hr := hz1
  clear hz1
  refine mV_if_eq f10_twice_75 (fun h0 => ?_) (fun h0 => ?_)
  · rw [if_pos h0] at hr
    refine mV_iload f10_twice_82 rfl ?_
    refine mV_push f10_twice_83 ?_
    refine mV_icmp_le f10_twice_84 (fun h1 => ?_) (fun h1 => ?_)
    · rw [if_pos h1] at hr
      refine mV_push f10_twice_91 ?_
      have hr := Option.some.inj hr; subst hr
      refine mV_drop (L' := [.ref 119, mX0, mX0, mX0, mX0, mX0]) (mSub_k (mSub_x (mSub_x (mSub_x (mSub_x (mSub_x mSub_n)))))) ?_
      exact keyz1
    · rw [if_neg h1] at hr
      refine mV_iload f10_twice_87 rfl ?_
      refine mV_goto f10_twice_88 ?_
      have hr := Option.some.inj hr; subst hr
      refine mV_drop (L' := [.ref 119, mX0, mX0, mX0, mX0, mX0]) (mSub_k (mSub_x (mSub_x (mSub_x (mSub_x (mSub_x mSub_n)))))) ?_
      exact keyz1
  · rw [if_neg h0] at hr
    refine mV_iload f10_twice_78 rfl ?_
    refine mV_goto f10_twice_79 ?_
    have hr := Option.some.inj hr; subst hr
    refine mV_drop (L' := [.ref 119, mX0, mX0, mX0, mX0, mX0]) (mSub_k (mSub_x (mSub_x (mSub_x (mSub_x (mSub_x mSub_n)))))) ?_
    exact keyz1
theorem c10_twice (X : Nat × (Nat → Int32)) (I : mI) (s : Nat) (x0 : Int32) {res : Int32} (hr : r10_twice I x0 = some res) : mC X m10_twice 1 0 0 [.ref 119, .int x0] NN KK I (PP s) (mRet (some (.int res)) NN KK I (PP s)) :=
  mC_of (L0 := [.ref 119, .int x0, mX0, mX0, mX0, mX0]) rfl (Nat.le_of_ble_eq_true rfl) (w10_twice X I s x0 _ hr (mRet_ok _ _ _ _ _))
def l10_rises_14 (I : mI) : Nat → Int32 → Int32 → Int32 → Option (Int32)
  | 0, _, _, _ => none
  | f + 1, y1, y2, y3 => if (I 119 48 : Int32) ≤ (y3 : Int32) then some y1 else (mLd I 146 16 y3).bind fun z0 => (mLd I 146 16 (y3 - 1)).bind fun z1 => (if (z0 : Int32) ≤ (z1 : Int32) then some 1 else some (y2 + 1) : Option (Int32)).bind fun z2 => l10_rises_14 I f (r10_greater y1 z2) z2 (y3 + 1)
def r10_rises (I : mI) : Option (Int32) := (l10_rises_14 I FU (r10_lesser 1 (I 119 48)) 1 1).bind fun z0 => some z0
set_option maxHeartbeats 4000000 in
set_option maxRecDepth 100000 in
theorem t10_rises_14 (X : Nat × (Nat → Int32)) (Q : mQ) (s : Nat) (I : mI) : ∀ (f : Nat) (y1 : Int32) (y2 : Int32) (y3 : Int32) (z : Int32), l10_rises_14 I f y1 y2 y3 = some z → mV X m10_rises 1 0 0 60 [.ref 119, .int z, mX0, mX0] [] NN KK I (PP s) Q → mV X m10_rises 1 0 0 14 [.ref 119, .int y1, .int y2, .int y3] [] NN KK I (PP s) Q := by
  intro f
  induction f with
  | zero => intro y1 y2 y3 z hr hk; cases hr
  | succ f ih =>
    intro y1 y2 y3 z hr hk
    unfold l10_rises_14 at hr
    refine mV_iload f10_rises_14 rfl ?_
    refine mV_aload f10_rises_15 rfl ?_
    refine mV_gI (I 119 48) f10_rises_16 (by decide) kk_119 rfl rfl ?_
    refine mV_icmp_ge f10_rises_19 (fun h0 => ?_) (fun h0 => ?_)
    · rw [if_pos h0] at hr
      have hr := Option.some.inj hr; subst hr
      refine mV_drop (L' := [.ref 119, .int y1, mX0, mX0]) (mSub_k (mSub_k (mSub_x (mSub_x mSub_n)))) ?_
      exact hk
    · rw [if_neg h0] at hr
      refine mV_aload f10_rises_22 rfl ?_
      refine mV_getP f10_rises_23 (by decide) kk_119 rfl (pp_119_49 _) ?_
      refine mV_iload f10_rises_26 rfl ?_
      obtain ⟨z0, hz0, hr⟩ := mBind hr
      refine mV_ldO f10_rises_27 (by decide) kk_146 hz0 ?_
      refine mV_aload f10_rises_28 rfl ?_
      refine mV_getP f10_rises_29 (by decide) kk_119 rfl (pp_119_49 _) ?_
      refine mV_iload f10_rises_32 rfl ?_
      refine mV_push f10_rises_33 ?_
      refine mV_isub f10_rises_34 ?_
      obtain ⟨z1, hz1, hr⟩ := mBind hr
      refine mV_ldO f10_rises_35 (by decide) kk_146 hz1 ?_
      obtain ⟨z2, hz2, hr⟩ := mBind hr
      have keyz2 : mV X m10_rises 1 0 0 46 [.ref 119, .int y1, mX0, .int y3] [.int z2] NN KK I (PP s) Q := by
        refine mV_istore (L' := [.ref 119, .int y1, .int z2, .int y3]) f10_rises_46 (by decide) rfl rfl ?_
        refine mV_aload f10_rises_47 rfl ?_
        refine mV_iload f10_rises_48 rfl ?_
        refine mV_iload f10_rises_49 rfl ?_
        refine mV_cV f10_rises_50 tg_m10_greater mCls10 (by decide) kk_119 (mC_deep (c10_greater X I s y1 z2 rfl) (by decide)) rfl rfl (Nat.le_of_ble_eq_true rfl) ?_
        refine mV_istore (L' := [.ref 119, .int (r10_greater y1 z2), .int z2, .int y3]) f10_rises_53 (by decide) rfl rfl ?_
        refine mV_iinc (y := (y3 + 1)) (L' := [.ref 119, .int (r10_greater y1 z2), .int z2, .int (y3 + 1)]) f10_rises_54 rfl rfl (by decide) rfl rfl ?_
        refine mV_goto f10_rises_57 ?_
        exact ih (r10_greater y1 z2) z2 (y3 + 1) _ hr hk
      clear hr
      have hr := hz2
      clear hz2
      refine mV_icmp_le f10_rises_36 (fun h1 => ?_) (fun h1 => ?_)
      · rw [if_pos h1] at hr
        refine mV_push f10_rises_45 ?_
        have hr := Option.some.inj hr; subst hr
        refine mV_drop (L' := [.ref 119, .int y1, mX0, .int y3]) (mSub_k (mSub_k (mSub_x (mSub_k mSub_n)))) ?_
        exact keyz2
      · rw [if_neg h1] at hr
        refine mV_iload f10_rises_39 rfl ?_
        refine mV_push f10_rises_40 ?_
        refine mV_iadd f10_rises_41 ?_
        refine mV_goto f10_rises_42 ?_
        have hr := Option.some.inj hr; subst hr
        refine mV_drop (L' := [.ref 119, .int y1, mX0, .int y3]) (mSub_k (mSub_k (mSub_x (mSub_k mSub_n)))) ?_
        exact keyz2
set_option maxHeartbeats 4000000 in
set_option maxRecDepth 100000 in
theorem w10_rises (X : Nat × (Nat → Int32)) (I : mI) (s : Nat) (Q : mQ) {res : Int32} (hr : r10_rises I = some res) (hQ : Q (some (.int res)) NN KK I (PP s)) : mV X m10_rises 1 0 0 0 [.ref 119, mX0, mX0, mX0] [] NN KK I (PP s) Q := by
  unfold r10_rises at hr
  refine mV_aload f10_rises_0 rfl ?_
  refine mV_push f10_rises_1 ?_
  refine mV_aload f10_rises_2 rfl ?_
  refine mV_gI (I 119 48) f10_rises_3 (by decide) kk_119 rfl rfl ?_
  refine mV_cV f10_rises_6 tg_m10_lesser mCls10 (by decide) kk_119 (mC_deep (c10_lesser X I s 1 (I 119 48) rfl) (by decide)) rfl rfl (Nat.le_of_ble_eq_true rfl) ?_
  refine mV_istore (L' := [.ref 119, .int (r10_lesser 1 (I 119 48)), mX0, mX0]) f10_rises_9 (by decide) rfl rfl ?_
  refine mV_push f10_rises_10 ?_
  refine mV_istore (L' := [.ref 119, .int (r10_lesser 1 (I 119 48)), .int 1, mX0]) f10_rises_11 (by decide) rfl rfl ?_
  refine mV_push f10_rises_12 ?_
  refine mV_istore (L' := [.ref 119, .int (r10_lesser 1 (I 119 48)), .int 1, .int 1]) f10_rises_13 (by decide) rfl rfl ?_
  obtain ⟨z0, hz0, hr⟩ := mBind hr
  refine t10_rises_14 X Q s I FU (r10_lesser 1 (I 119 48)) 1 1 _ hz0 ?_
  refine mV_iload f10_rises_60 rfl ?_
  have hr := Option.some.inj hr; subst hr
  exact mV_iret rfl rfl f10_rises_61 hQ
theorem c10_rises (X : Nat × (Nat → Int32)) (I : mI) (s : Nat) {res : Int32} (hr : r10_rises I = some res) : mC X m10_rises 1 0 0 [.ref 119] NN KK I (PP s) (mRet (some (.int res)) NN KK I (PP s)) :=
  mC_of (L0 := [.ref 119, mX0, mX0, mX0]) rfl (Nat.le_of_ble_eq_true rfl) (w10_rises X I s _ hr (mRet_ok _ _ _ _ _))
def r10_stepCost (I : mI) (x0 : Int32) (x1 : Int32) (x2 : Int32) : Option (Int32) := (mLd I 146 16 (x0 + 1)).bind fun z0 => (mLd I 146 16 x0).bind fun z1 => (if (x1 : Int32) = (x2 : Int32) then if ((z0 - z1) : Int32) = (0 : Int32) then some 0 else some 9 else some 0 : Option (Int32)).bind fun z2 => some ((r10_apart (z0 - z1) (2 * (x2 - x1))) + z2)
set_option maxHeartbeats 4000000 in
set_option maxRecDepth 100000 in
theorem w10_stepCost (X : Nat × (Nat → Int32)) (I : mI) (s : Nat) (x0 : Int32) (x1 : Int32) (x2 : Int32) (Q : mQ) {res : Int32} (hr : r10_stepCost I x0 x1 x2 = some res) (hQ : Q (some (.int res)) NN KK I (PP s)) : mV X m10_stepCost 1 0 0 0 [.ref 119, .int x0, .int x1, .int x2, mX0] [] NN KK I (PP s) Q := by
  unfold r10_stepCost at hr
  refine mV_aload f10_stepCost_0 rfl ?_
  refine mV_getP f10_stepCost_1 (by decide) kk_119 rfl (pp_119_49 _) ?_
  refine mV_iload f10_stepCost_4 rfl ?_
  refine mV_push f10_stepCost_5 ?_
  refine mV_iadd f10_stepCost_6 ?_
  obtain ⟨z0, hz0, hr⟩ := mBind hr
  refine mV_ldO f10_stepCost_7 (by decide) kk_146 hz0 ?_
  refine mV_aload f10_stepCost_8 rfl ?_
  refine mV_getP f10_stepCost_9 (by decide) kk_119 rfl (pp_119_49 _) ?_
  refine mV_iload f10_stepCost_12 rfl ?_
  obtain ⟨z1, hz1, hr⟩ := mBind hr
  refine mV_ldO f10_stepCost_13 (by decide) kk_146 hz1 ?_
  refine mV_isub f10_stepCost_14 ?_
  refine mV_istore (L' := [.ref 119, .int x0, .int x1, .int x2, .int (z0 - z1)]) f10_stepCost_15 (by decide) rfl rfl ?_
  refine mV_aload f10_stepCost_17 rfl ?_
  refine mV_iload f10_stepCost_18 rfl ?_
  refine mV_push f10_stepCost_20 ?_
  refine mV_iload f10_stepCost_21 rfl ?_
  refine mV_iload f10_stepCost_22 rfl ?_
  refine mV_isub f10_stepCost_23 ?_
  refine mV_imul f10_stepCost_24 ?_
  refine mV_cV f10_stepCost_25 tg_m10_apart mCls10 (by decide) kk_119 (mC_deep (c10_apart X I s (z0 - z1) (2 * (x2 - x1)) rfl) (by decide)) rfl rfl (Nat.le_of_ble_eq_true rfl) ?_
  refine mV_iload f10_stepCost_28 rfl ?_
  refine mV_iload f10_stepCost_29 rfl ?_
  obtain ⟨z2, hz2, hr⟩ := mBind hr
  have keyz2 : mV X m10_stepCost 1 0 0 44 [.ref 119, mX0, mX0, mX0, mX0] [.int z2, .int (r10_apart (z0 - z1) (2 * (x2 - x1)))] NN KK I (PP s) Q := by
    refine mV_iadd f10_stepCost_44 ?_
    have hr := Option.some.inj hr; subst hr
    exact mV_iret rfl rfl f10_stepCost_45 hQ
  clear hr
  have hr := hz2
  clear hz2
  refine mV_icmp_ne f10_stepCost_30 (fun h0 => ?_) (fun h0 => ?_)
  · rw [if_neg h0] at hr
    refine mV_push f10_stepCost_43 ?_
    have hr := Option.some.inj hr; subst hr
    refine mV_drop (L' := [.ref 119, mX0, mX0, mX0, mX0]) (mSub_k (mSub_x (mSub_x (mSub_x (mSub_x mSub_n))))) ?_
    exact keyz2
  · rw [if_pos h0] at hr
    refine mV_iload f10_stepCost_33 rfl ?_
    refine mV_if_eq f10_stepCost_35 (fun h1 => ?_) (fun h1 => ?_)
    · rw [if_pos h1] at hr
      refine mV_push f10_stepCost_43 ?_
      have hr := Option.some.inj hr; subst hr
      refine mV_drop (L' := [.ref 119, mX0, mX0, mX0, mX0]) (mSub_k (mSub_x (mSub_x (mSub_x (mSub_x mSub_n))))) ?_
      exact keyz2
    · rw [if_neg h1] at hr
      refine mV_push f10_stepCost_38 ?_
      refine mV_goto f10_stepCost_40 ?_
      have hr := Option.some.inj hr; subst hr
      refine mV_drop (L' := [.ref 119, mX0, mX0, mX0, mX0]) (mSub_k (mSub_x (mSub_x (mSub_x (mSub_x mSub_n))))) ?_
      exact keyz2
theorem c10_stepCost (X : Nat × (Nat → Int32)) (I : mI) (s : Nat) (x0 : Int32) (x1 : Int32) (x2 : Int32) {res : Int32} (hr : r10_stepCost I x0 x1 x2 = some res) : mC X m10_stepCost 1 0 0 [.ref 119, .int x0, .int x1, .int x2] NN KK I (PP s) (mRet (some (.int res)) NN KK I (PP s)) :=
  mC_of (L0 := [.ref 119, .int x0, .int x1, .int x2, mX0]) rfl (Nat.le_of_ble_eq_true rfl) (w10_stepCost X I s x0 x1 x2 _ hr (mRet_ok _ _ _ _ _))
def l10_findsFingers_40 (I : mI) (k1 : Int32) (k2 : Int32) : Nat → Int32 → Int32 → Option (Int32)
  | 0, _, _ => none
  | f + 1, y3, y4 => if (6 : Int32) ≤ (y4 : Int32) then some y3 else if ((I 119 48 - 1) : Int32) ≤ (k1 : Int32) then some y3 else (r10_stepCost I k1 k2 y4).bind fun z0 => (mLd I 147 96 ((6 * (k1 + 1)) + y4)).bind fun z1 => l10_findsFingers_40 I k1 k2 f (r10_lesser y3 (z0 + z1)) (y4 + 1)
def l10_findsFingers_13 (k1 : Int32) : Nat → Int32 → mI → Option (mI)
  | 0, _, _ => none
  | f + 1, y2, I => if (6 : Int32) ≤ (y2 : Int32) then some I else (if (k1 : Int32) = ((I 119 48 - 1) : Int32) then some 0 else some 100000000 : Option (Int32)).bind fun z0 => (l10_findsFingers_40 I k1 y2 FU z0 1).bind fun z1 => (mSto I 147 96 ((6 * k1) + y2) z1).bind fun z2 => l10_findsFingers_13 k1 f (y2 + 1) z2
def l10_findsFingers_7 : Nat → Int32 → mI → Option (mI)
  | 0, _, _ => none
  | f + 1, y1, I => if (y1 : Int32) < (0 : Int32) then some I else (l10_findsFingers_13 y1 FU 1 I).bind fun z0 => l10_findsFingers_7 f (y1 + (-1)) z0
def r10_findsFingers (I : mI) : Option (mI) := (l10_findsFingers_7 FU (I 119 48 - 1) I).bind fun z0 => some z0
set_option maxHeartbeats 4000000 in
set_option maxRecDepth 100000 in
theorem t10_findsFingers_40 (X : Nat × (Nat → Int32)) (Q : mQ) (s : Nat) (I : mI) (k1 : Int32) (k2 : Int32) : ∀ (f : Nat) (y3 : Int32) (y4 : Int32) (z : Int32), l10_findsFingers_40 I k1 k2 f y3 y4 = some z → mV X m10_findsFingers 2 0 0 92 [.ref 119, .int k1, .int k2, .int z, mX0] [] NN KK I (PP s) Q → mV X m10_findsFingers 2 0 0 40 [.ref 119, .int k1, .int k2, .int y3, .int y4] [] NN KK I (PP s) Q := by
  intro f
  induction f with
  | zero => intro y3 y4 z hr hk; cases hr
  | succ f ih =>
    intro y3 y4 z hr hk
    unfold l10_findsFingers_40 at hr
    refine mV_iload f10_findsFingers_40 rfl ?_
    refine mV_push f10_findsFingers_42 ?_
    refine mV_icmp_ge f10_findsFingers_44 (fun h0 => ?_) (fun h0 => ?_)
    · rw [if_pos h0] at hr
      have hr := Option.some.inj hr; subst hr
      refine mV_drop (L' := [.ref 119, .int k1, .int k2, .int y3, mX0]) (mSub_k (mSub_k (mSub_k (mSub_k (mSub_x mSub_n))))) ?_
      exact hk
    · rw [if_neg h0] at hr
      refine mV_iload f10_findsFingers_47 rfl ?_
      refine mV_aload f10_findsFingers_48 rfl ?_
      refine mV_gI (I 119 48) f10_findsFingers_49 (by decide) kk_119 rfl rfl ?_
      refine mV_push f10_findsFingers_52 ?_
      refine mV_isub f10_findsFingers_53 ?_
      refine mV_icmp_ge f10_findsFingers_54 (fun h1 => ?_) (fun h1 => ?_)
      · rw [if_pos h1] at hr
        have hr := Option.some.inj hr; subst hr
        refine mV_drop (L' := [.ref 119, .int k1, .int k2, .int y3, mX0]) (mSub_k (mSub_k (mSub_k (mSub_k (mSub_x mSub_n))))) ?_
        exact hk
      · rw [if_neg h1] at hr
        refine mV_aload f10_findsFingers_57 rfl ?_
        refine mV_iload f10_findsFingers_58 rfl ?_
        refine mV_aload f10_findsFingers_59 rfl ?_
        refine mV_iload f10_findsFingers_60 rfl ?_
        refine mV_iload f10_findsFingers_61 rfl ?_
        refine mV_iload f10_findsFingers_62 rfl ?_
        obtain ⟨z0, hz0, hr⟩ := mBind hr
        refine mV_cV f10_findsFingers_64 tg_m10_stepCost mCls10 (by decide) kk_119 (mC_deep (c10_stepCost X I s k1 k2 y4 hz0) (by decide)) rfl rfl (Nat.le_of_ble_eq_true rfl) ?_
        refine mV_aload f10_findsFingers_67 rfl ?_
        refine mV_getP f10_findsFingers_68 (by decide) kk_119 rfl (pp_119_50 _) ?_
        refine mV_push f10_findsFingers_71 ?_
        refine mV_iload f10_findsFingers_73 rfl ?_
        refine mV_push f10_findsFingers_74 ?_
        refine mV_iadd f10_findsFingers_75 ?_
        refine mV_imul f10_findsFingers_76 ?_
        refine mV_iload f10_findsFingers_77 rfl ?_
        refine mV_iadd f10_findsFingers_79 ?_
        obtain ⟨z1, hz1, hr⟩ := mBind hr
        refine mV_ldO f10_findsFingers_80 (by decide) kk_147 hz1 ?_
        refine mV_iadd f10_findsFingers_81 ?_
        refine mV_cV f10_findsFingers_82 tg_m10_lesser mCls10 (by decide) kk_119 (mC_deep (c10_lesser X I s y3 (z0 + z1) rfl) (by decide)) rfl rfl (Nat.le_of_ble_eq_true rfl) ?_
        refine mV_istore (L' := [.ref 119, .int k1, .int k2, .int (r10_lesser y3 (z0 + z1)), .int y4]) f10_findsFingers_85 (by decide) rfl rfl ?_
        refine mV_iinc (y := (y4 + 1)) (L' := [.ref 119, .int k1, .int k2, .int (r10_lesser y3 (z0 + z1)), .int (y4 + 1)]) f10_findsFingers_86 rfl rfl (by decide) rfl rfl ?_
        refine mV_goto f10_findsFingers_89 ?_
        exact ih (r10_lesser y3 (z0 + z1)) (y4 + 1) _ hr hk
set_option maxHeartbeats 4000000 in
set_option maxRecDepth 100000 in
theorem t10_findsFingers_13 (X : Nat × (Nat → Int32)) (Q : mQ) (s : Nat) (k1 : Int32) : ∀ (f : Nat) (y2 : Int32) (I : mI) (z : mI), l10_findsFingers_13 k1 f y2 I = some z → mV X m10_findsFingers 2 0 0 110 [.ref 119, .int k1, mX0, mX0, mX0] [] NN KK z (PP s) Q → mV X m10_findsFingers 2 0 0 13 [.ref 119, .int k1, .int y2, mX0, mX0] [] NN KK I (PP s) Q := by
  intro f
  induction f with
  | zero => intro y2 I z hr hk; cases hr
  | succ f ih =>
    intro y2 I z hr hk
    unfold l10_findsFingers_13 at hr
    refine mV_iload f10_findsFingers_13 rfl ?_
    refine mV_push f10_findsFingers_14 ?_
    refine mV_icmp_ge f10_findsFingers_16 (fun h0 => ?_) (fun h0 => ?_)
    · rw [if_pos h0] at hr
      have hr := Option.some.inj hr; subst hr
      refine mV_drop (L' := [.ref 119, .int k1, mX0, mX0, mX0]) (mSub_k (mSub_k (mSub_x (mSub_x (mSub_x mSub_n))))) ?_
      exact hk
    · rw [if_neg h0] at hr
      refine mV_iload f10_findsFingers_19 rfl ?_
      refine mV_aload f10_findsFingers_20 rfl ?_
      refine mV_gI (I 119 48) f10_findsFingers_21 (by decide) kk_119 rfl rfl ?_
      refine mV_push f10_findsFingers_24 ?_
      refine mV_isub f10_findsFingers_25 ?_
      obtain ⟨z0, hz0, hr⟩ := mBind hr
      have keyz0 : mV X m10_findsFingers 2 0 0 36 [.ref 119, .int k1, .int y2, mX0, mX0] [.int z0] NN KK I (PP s) Q := by
        refine mV_istore (L' := [.ref 119, .int k1, .int y2, .int z0, mX0]) f10_findsFingers_36 (by decide) rfl rfl ?_
        refine mV_push f10_findsFingers_37 ?_
        refine mV_istore (L' := [.ref 119, .int k1, .int y2, .int z0, .int 1]) f10_findsFingers_38 (by decide) rfl rfl ?_
        obtain ⟨z1, hz1, hr⟩ := mBind hr
        refine t10_findsFingers_40 X Q s I k1 y2 FU z0 1 _ hz1 ?_
        refine mV_aload f10_findsFingers_92 rfl ?_
        refine mV_getP f10_findsFingers_93 (by decide) kk_119 rfl (pp_119_50 _) ?_
        refine mV_push f10_findsFingers_96 ?_
        refine mV_iload f10_findsFingers_98 rfl ?_
        refine mV_imul f10_findsFingers_99 ?_
        refine mV_iload f10_findsFingers_100 rfl ?_
        refine mV_iadd f10_findsFingers_101 ?_
        refine mV_iload f10_findsFingers_102 rfl ?_
        obtain ⟨z2, hz2, hr⟩ := mBind hr
        refine mV_stO f10_findsFingers_103 (by decide) kk_147 hz2 ?_
        refine mV_iinc (y := (y2 + 1)) (L' := [.ref 119, .int k1, .int (y2 + 1), .int z1, mX0]) f10_findsFingers_104 rfl rfl (by decide) rfl rfl ?_
        refine mV_goto f10_findsFingers_107 ?_
        refine mV_drop (L' := [.ref 119, .int k1, .int (y2 + 1), mX0, mX0]) (mSub_k (mSub_k (mSub_k (mSub_x (mSub_x mSub_n))))) ?_
        exact ih (y2 + 1) z2 _ hr hk
      clear hr
      have hr := hz0
      clear hz0
      refine mV_icmp_ne f10_findsFingers_26 (fun h1 => ?_) (fun h1 => ?_)
      · rw [if_neg h1] at hr
        refine mV_push f10_findsFingers_33 ?_
        have hr := Option.some.inj hr; subst hr
        exact keyz0
      · rw [if_pos h1] at hr
        refine mV_push f10_findsFingers_29 ?_
        refine mV_goto f10_findsFingers_30 ?_
        have hr := Option.some.inj hr; subst hr
        exact keyz0
set_option maxHeartbeats 4000000 in
set_option maxRecDepth 100000 in
theorem t10_findsFingers_7 (X : Nat × (Nat → Int32)) (Q : mQ) (s : Nat) : ∀ (f : Nat) (y1 : Int32) (I : mI) (z : mI), l10_findsFingers_7 f y1 I = some z → mV X m10_findsFingers 2 0 0 116 [.ref 119, mX0, mX0, mX0, mX0] [] NN KK z (PP s) Q → mV X m10_findsFingers 2 0 0 7 [.ref 119, .int y1, mX0, mX0, mX0] [] NN KK I (PP s) Q := by
  intro f
  induction f with
  | zero => intro y1 I z hr hk; cases hr
  | succ f ih =>
    intro y1 I z hr hk
    unfold l10_findsFingers_7 at hr
    refine mV_iload f10_findsFingers_7 rfl ?_
    refine mV_if_lt f10_findsFingers_8 (fun h0 => ?_) (fun h0 => ?_)
    · rw [if_pos h0] at hr
      have hr := Option.some.inj hr; subst hr
      refine mV_drop (L' := [.ref 119, mX0, mX0, mX0, mX0]) (mSub_k (mSub_x (mSub_x (mSub_x (mSub_x mSub_n))))) ?_
      exact hk
    · rw [if_neg h0] at hr
      refine mV_push f10_findsFingers_11 ?_
      refine mV_istore (L' := [.ref 119, .int y1, .int 1, mX0, mX0]) f10_findsFingers_12 (by decide) rfl rfl ?_
      obtain ⟨z0, hz0, hr⟩ := mBind hr
      refine t10_findsFingers_13 X Q s y1 FU 1 I _ hz0 ?_
      refine mV_iinc (y := (y1 + (-1))) (L' := [.ref 119, .int (y1 + (-1)), mX0, mX0, mX0]) f10_findsFingers_110 rfl rfl (by decide) rfl rfl ?_
      refine mV_goto f10_findsFingers_113 ?_
      exact ih (y1 + (-1)) z0 _ hr hk
set_option maxHeartbeats 4000000 in
set_option maxRecDepth 100000 in
theorem w10_findsFingers (X : Nat × (Nat → Int32)) (I : mI) (s : Nat) (Q : mQ) {res : mI} (hr : r10_findsFingers I = some res) (hQ : Q none NN KK res (PP s)) : mV X m10_findsFingers 2 0 0 0 [.ref 119, mX0, mX0, mX0, mX0] [] NN KK I (PP s) Q := by
  unfold r10_findsFingers at hr
  refine mV_aload f10_findsFingers_0 rfl ?_
  refine mV_gI (I 119 48) f10_findsFingers_1 (by decide) kk_119 rfl rfl ?_
  refine mV_push f10_findsFingers_4 ?_
  refine mV_isub f10_findsFingers_5 ?_
  refine mV_istore (L' := [.ref 119, .int (I 119 48 - 1), mX0, mX0, mX0]) f10_findsFingers_6 (by decide) rfl rfl ?_
  obtain ⟨z0, hz0, hr⟩ := mBind hr
  refine t10_findsFingers_7 X Q s FU (I 119 48 - 1) I _ hz0 ?_
  have hr := Option.some.inj hr; subst hr
  exact mV_vret rfl f10_findsFingers_116 hQ
theorem c10_findsFingers (X : Nat × (Nat → Int32)) (I : mI) (s : Nat) {res : mI} (hr : r10_findsFingers I = some res) : mC X m10_findsFingers 2 0 0 [.ref 119] NN KK I (PP s) (mRet none NN KK res (PP s)) :=
  mC_of (L0 := [.ref 119, mX0, mX0, mX0, mX0]) rfl (Nat.le_of_ble_eq_true rfl) (w10_findsFingers X I s _ hr (mRet_ok _ _ _ _ _))
def l10_firstFinger_4 (I : mI) : Nat → Int32 → Int32 → Option (Int32)
  | 0, _, _ => none
  | f + 1, y1, y2 => if (6 : Int32) ≤ (y2 : Int32) then some y1 else (mLd I 147 96 y2).bind fun z0 => (mLd I 147 96 y1).bind fun z1 => (if (z1 : Int32) ≤ (z0 : Int32) then some y1 else some y2 : Option (Int32)).bind fun z2 => l10_firstFinger_4 I f z2 (y2 + 1)
def r10_firstFinger (I : mI) : Option (Int32) := (l10_firstFinger_4 I FU 1 2).bind fun z0 => some z0
set_option maxHeartbeats 4000000 in
set_option maxRecDepth 100000 in
theorem t10_firstFinger_4 (X : Nat × (Nat → Int32)) (Q : mQ) (s : Nat) (I : mI) : ∀ (f : Nat) (y1 : Int32) (y2 : Int32) (z : Int32), l10_firstFinger_4 I f y1 y2 = some z → mV X m10_firstFinger 0 0 0 33 [.ref 119, .int z, mX0] [] NN KK I (PP s) Q → mV X m10_firstFinger 0 0 0 4 [.ref 119, .int y1, .int y2] [] NN KK I (PP s) Q := by
  intro f
  induction f with
  | zero => intro y1 y2 z hr hk; cases hr
  | succ f ih =>
    intro y1 y2 z hr hk
    unfold l10_firstFinger_4 at hr
    refine mV_iload f10_firstFinger_4 rfl ?_
    refine mV_push f10_firstFinger_5 ?_
    refine mV_icmp_ge f10_firstFinger_7 (fun h0 => ?_) (fun h0 => ?_)
    · rw [if_pos h0] at hr
      have hr := Option.some.inj hr; subst hr
      refine mV_drop (L' := [.ref 119, .int y1, mX0]) (mSub_k (mSub_k (mSub_x mSub_n))) ?_
      exact hk
    · rw [if_neg h0] at hr
      refine mV_aload f10_firstFinger_10 rfl ?_
      refine mV_getP f10_firstFinger_11 (by decide) kk_119 rfl (pp_119_50 _) ?_
      refine mV_iload f10_firstFinger_14 rfl ?_
      obtain ⟨z0, hz0, hr⟩ := mBind hr
      refine mV_ldO f10_firstFinger_15 (by decide) kk_147 hz0 ?_
      refine mV_aload f10_firstFinger_16 rfl ?_
      refine mV_getP f10_firstFinger_17 (by decide) kk_119 rfl (pp_119_50 _) ?_
      refine mV_iload f10_firstFinger_20 rfl ?_
      obtain ⟨z1, hz1, hr⟩ := mBind hr
      refine mV_ldO f10_firstFinger_21 (by decide) kk_147 hz1 ?_
      obtain ⟨z2, hz2, hr⟩ := mBind hr
      have keyz2 : mV X m10_firstFinger 0 0 0 27 [.ref 119, .int z2, .int y2] [] NN KK I (PP s) Q := by
        refine mV_iinc (y := (y2 + 1)) (L' := [.ref 119, .int z2, .int (y2 + 1)]) f10_firstFinger_27 rfl rfl (by decide) rfl rfl ?_
        refine mV_goto f10_firstFinger_30 ?_
        exact ih z2 (y2 + 1) _ hr hk
      clear hr
      have hr := hz2
      clear hz2
      refine mV_icmp_ge f10_firstFinger_22 (fun h1 => ?_) (fun h1 => ?_)
      · rw [if_pos h1] at hr
        have hr := Option.some.inj hr; subst hr
        exact keyz2
      · rw [if_neg h1] at hr
        refine mV_iload f10_firstFinger_25 rfl ?_
        refine mV_istore (L' := [.ref 119, .int y2, .int y2]) f10_firstFinger_26 (by decide) rfl rfl ?_
        have hr := Option.some.inj hr; subst hr
        exact keyz2
set_option maxHeartbeats 4000000 in
set_option maxRecDepth 100000 in
theorem w10_firstFinger (X : Nat × (Nat → Int32)) (I : mI) (s : Nat) (Q : mQ) {res : Int32} (hr : r10_firstFinger I = some res) (hQ : Q (some (.int res)) NN KK I (PP s)) : mV X m10_firstFinger 0 0 0 0 [.ref 119, mX0, mX0] [] NN KK I (PP s) Q := by
  unfold r10_firstFinger at hr
  refine mV_push f10_firstFinger_0 ?_
  refine mV_istore (L' := [.ref 119, .int 1, mX0]) f10_firstFinger_1 (by decide) rfl rfl ?_
  refine mV_push f10_firstFinger_2 ?_
  refine mV_istore (L' := [.ref 119, .int 1, .int 2]) f10_firstFinger_3 (by decide) rfl rfl ?_
  obtain ⟨z0, hz0, hr⟩ := mBind hr
  refine t10_firstFinger_4 X Q s I FU 1 2 _ hz0 ?_
  refine mV_iload f10_firstFinger_33 rfl ?_
  have hr := Option.some.inj hr; subst hr
  exact mV_iret rfl rfl f10_firstFinger_34 hQ
theorem c10_firstFinger (X : Nat × (Nat → Int32)) (I : mI) (s : Nat) {res : Int32} (hr : r10_firstFinger I = some res) : mC X m10_firstFinger 0 0 0 [.ref 119] NN KK I (PP s) (mRet (some (.int res)) NN KK I (PP s)) :=
  mC_of (L0 := [.ref 119, mX0, mX0]) rfl (Nat.le_of_ble_eq_true rfl) (w10_firstFinger X I s _ hr (mRet_ok _ _ _ _ _))
def l10_fingerOf_15 (I : mI) (k2 : Int32) (k3 : Int32) : Nat → Int32 → Option (Int32)
  | 0, _ => none
  | f + 1, y4 => (r10_stepCost I k3 k2 y4).bind fun z0 => (mLd I 147 96 ((6 * (k3 + 1)) + y4)).bind fun z1 => (mLd I 147 96 ((6 * k3) + k2)).bind fun z2 => if ((z0 + z1) : Int32) = (z2 : Int32) then some y4 else l10_fingerOf_15 I k2 k3 f (y4 + 1)
def l10_fingerOf_7 (I : mI) (k1 : Int32) : Nat → Int32 → Int32 → Option (Int32)
  | 0, _, _ => none
  | f + 1, y2, y3 => if (k1 : Int32) ≤ (y3 : Int32) then some y2 else (l10_fingerOf_15 I y2 y3 FU 1).bind fun z0 => l10_fingerOf_7 I k1 f z0 (y3 + 1)
def r10_fingerOf (I : mI) (x0 : Int32) : Option (Int32) := (r10_firstFinger I).bind fun z0 => (l10_fingerOf_7 I x0 FU z0 0).bind fun z1 => some z1
set_option maxHeartbeats 4000000 in
set_option maxRecDepth 100000 in
theorem t10_fingerOf_15 (X : Nat × (Nat → Int32)) (Q : mQ) (s : Nat) (I : mI) (k1 : Int32) (k2 : Int32) (k3 : Int32) : ∀ (f : Nat) (y4 : Int32) (z : Int32), l10_fingerOf_15 I k2 k3 f y4 = some z → mV X m10_fingerOf 2 0 0 61 [.ref 119, .int k1, .int k2, .int k3, .int z] [] NN KK I (PP s) Q → mV X m10_fingerOf 2 0 0 15 [.ref 119, .int k1, .int k2, .int k3, .int y4] [] NN KK I (PP s) Q := by
  intro f
  induction f with
  | zero => intro y4 z hr hk; cases hr
  | succ f ih =>
    intro y4 z hr hk
    unfold l10_fingerOf_15 at hr
    refine mV_aload f10_fingerOf_15 rfl ?_
    refine mV_iload f10_fingerOf_16 rfl ?_
    refine mV_iload f10_fingerOf_17 rfl ?_
    refine mV_iload f10_fingerOf_18 rfl ?_
    obtain ⟨z0, hz0, hr⟩ := mBind hr
    refine mV_cV f10_fingerOf_20 tg_m10_stepCost mCls10 (by decide) kk_119 (mC_deep (c10_stepCost X I s k3 k2 y4 hz0) (by decide)) rfl rfl (Nat.le_of_ble_eq_true rfl) ?_
    refine mV_aload f10_fingerOf_23 rfl ?_
    refine mV_getP f10_fingerOf_24 (by decide) kk_119 rfl (pp_119_50 _) ?_
    refine mV_push f10_fingerOf_27 ?_
    refine mV_iload f10_fingerOf_29 rfl ?_
    refine mV_push f10_fingerOf_30 ?_
    refine mV_iadd f10_fingerOf_31 ?_
    refine mV_imul f10_fingerOf_32 ?_
    refine mV_iload f10_fingerOf_33 rfl ?_
    refine mV_iadd f10_fingerOf_35 ?_
    obtain ⟨z1, hz1, hr⟩ := mBind hr
    refine mV_ldO f10_fingerOf_36 (by decide) kk_147 hz1 ?_
    refine mV_iadd f10_fingerOf_37 ?_
    refine mV_aload f10_fingerOf_38 rfl ?_
    refine mV_getP f10_fingerOf_39 (by decide) kk_119 rfl (pp_119_50 _) ?_
    refine mV_push f10_fingerOf_42 ?_
    refine mV_iload f10_fingerOf_44 rfl ?_
    refine mV_imul f10_fingerOf_45 ?_
    refine mV_iload f10_fingerOf_46 rfl ?_
    refine mV_iadd f10_fingerOf_47 ?_
    obtain ⟨z2, hz2, hr⟩ := mBind hr
    refine mV_ldO f10_fingerOf_48 (by decide) kk_147 hz2 ?_
    refine mV_icmp_eq f10_fingerOf_49 (fun h0 => ?_) (fun h0 => ?_)
    · rw [if_pos h0] at hr
      have hr := Option.some.inj hr; subst hr
      exact hk
    · rw [if_neg h0] at hr
      refine mV_iload f10_fingerOf_52 rfl ?_
      refine mV_push f10_fingerOf_54 ?_
      refine mV_iadd f10_fingerOf_55 ?_
      refine mV_istore (L' := [.ref 119, .int k1, .int k2, .int k3, .int (y4 + 1)]) f10_fingerOf_56 (by decide) rfl rfl ?_
      refine mV_goto f10_fingerOf_58 ?_
      exact ih (y4 + 1) _ hr hk
set_option maxHeartbeats 4000000 in
set_option maxRecDepth 100000 in
theorem t10_fingerOf_7 (X : Nat × (Nat → Int32)) (Q : mQ) (s : Nat) (I : mI) (k1 : Int32) : ∀ (f : Nat) (y2 : Int32) (y3 : Int32) (z : Int32), l10_fingerOf_7 I k1 f y2 y3 = some z → mV X m10_fingerOf 2 0 0 70 [.ref 119, .int k1, .int z, mX0, mX0] [] NN KK I (PP s) Q → mV X m10_fingerOf 2 0 0 7 [.ref 119, .int k1, .int y2, .int y3, mX0] [] NN KK I (PP s) Q := by
  intro f
  induction f with
  | zero => intro y2 y3 z hr hk; cases hr
  | succ f ih =>
    intro y2 y3 z hr hk
    unfold l10_fingerOf_7 at hr
    refine mV_iload f10_fingerOf_7 rfl ?_
    refine mV_iload f10_fingerOf_8 rfl ?_
    refine mV_icmp_ge f10_fingerOf_9 (fun h0 => ?_) (fun h0 => ?_)
    · rw [if_pos h0] at hr
      have hr := Option.some.inj hr; subst hr
      refine mV_drop (L' := [.ref 119, .int k1, .int y2, mX0, mX0]) (mSub_k (mSub_k (mSub_k (mSub_x (mSub_x mSub_n))))) ?_
      exact hk
    · rw [if_neg h0] at hr
      refine mV_push f10_fingerOf_12 ?_
      refine mV_istore (L' := [.ref 119, .int k1, .int y2, .int y3, .int 1]) f10_fingerOf_13 (by decide) rfl rfl ?_
      obtain ⟨z0, hz0, hr⟩ := mBind hr
      refine t10_fingerOf_15 X Q s I k1 y2 y3 FU 1 _ hz0 ?_
      refine mV_iload f10_fingerOf_61 rfl ?_
      refine mV_istore (L' := [.ref 119, .int k1, .int z0, .int y3, .int z0]) f10_fingerOf_63 (by decide) rfl rfl ?_
      refine mV_iinc (y := (y3 + 1)) (L' := [.ref 119, .int k1, .int z0, .int (y3 + 1), .int z0]) f10_fingerOf_64 rfl rfl (by decide) rfl rfl ?_
      refine mV_goto f10_fingerOf_67 ?_
      refine mV_drop (L' := [.ref 119, .int k1, .int z0, .int (y3 + 1), mX0]) (mSub_k (mSub_k (mSub_k (mSub_k (mSub_x mSub_n))))) ?_
      exact ih z0 (y3 + 1) _ hr hk
set_option maxHeartbeats 4000000 in
set_option maxRecDepth 100000 in
theorem w10_fingerOf (X : Nat × (Nat → Int32)) (I : mI) (s : Nat) (x0 : Int32) (Q : mQ) {res : Int32} (hr : r10_fingerOf I x0 = some res) (hQ : Q (some (.int res)) NN KK I (PP s)) : mV X m10_fingerOf 2 0 0 0 [.ref 119, .int x0, mX0, mX0, mX0] [] NN KK I (PP s) Q := by
  unfold r10_fingerOf at hr
  refine mV_aload f10_fingerOf_0 rfl ?_
  obtain ⟨z0, hz0, hr⟩ := mBind hr
  refine mV_cV f10_fingerOf_1 tg_m10_firstFinger mCls10 (by decide) kk_119 (mC_deep (c10_firstFinger X I s hz0) (by decide)) rfl rfl (Nat.le_of_ble_eq_true rfl) ?_
  refine mV_istore (L' := [.ref 119, .int x0, .int z0, mX0, mX0]) f10_fingerOf_4 (by decide) rfl rfl ?_
  refine mV_push f10_fingerOf_5 ?_
  refine mV_istore (L' := [.ref 119, .int x0, .int z0, .int 0, mX0]) f10_fingerOf_6 (by decide) rfl rfl ?_
  obtain ⟨z1, hz1, hr⟩ := mBind hr
  refine t10_fingerOf_7 X Q s I x0 FU z0 0 _ hz1 ?_
  refine mV_iload f10_fingerOf_70 rfl ?_
  have hr := Option.some.inj hr; subst hr
  exact mV_iret rfl rfl f10_fingerOf_71 hQ
theorem c10_fingerOf (X : Nat × (Nat → Int32)) (I : mI) (s : Nat) (x0 : Int32) {res : Int32} (hr : r10_fingerOf I x0 = some res) : mC X m10_fingerOf 2 0 0 [.ref 119, .int x0] NN KK I (PP s) (mRet (some (.int res)) NN KK I (PP s)) :=
  mC_of (L0 := [.ref 119, .int x0, mX0, mX0, mX0]) rfl (Nat.le_of_ble_eq_true rfl) (w10_fingerOf X I s x0 _ hr (mRet_ok _ _ _ _ _))
def r10_tune (I : mI) (x0 : Int32) : Option (Int32 × mI) := if (x0 : Int32) = (0 : Int32) then (if (x0 : Int32) = (1 : Int32) then some 1 else some 0 : Option (Int32)).bind fun z0 => (r10_twice (mW I 119 0 0) z0).bind fun z1 => some (z1, (mW I 119 0 0)) else if (x0 : Int32) = (1 : Int32) then (if (x0 : Int32) = (1 : Int32) then some 1 else some 0 : Option (Int32)).bind fun z13 => (r10_twice (mW I 119 0 0) z13).bind fun z14 => some (z14, (mW I 119 0 0)) else if (x0 : Int32) = (2 : Int32) then (r10_rises (mW I 119 0 0)).bind fun z12 => some (z12, (mW I 119 0 0)) else if (x0 : Int32) = (3 : Int32) then (r10_findsFingers (mW I 119 0 0)).bind fun z2 => (if (x0 : Int32) ≤ (3 : Int32) then if (z2 119 48 : Int32) = (0 : Int32) then some 0 else (r10_firstFinger z2).bind fun z4 => (mLd z2 147 96 z4).bind fun z5 => some z5 else (r10_fingerOf z2 (x0 - 10)).bind fun z6 => some z6 : Option (Int32)).bind fun z3 => some (z3, z2) else if ((r10_isIn x0 10 (9 + I 119 48)) : Int32) = (0 : Int32) then some ((-1), (mW I 119 0 0)) else (r10_findsFingers (mW I 119 0 0)).bind fun z7 => (if (x0 : Int32) ≤ (3 : Int32) then if (z7 119 48 : Int32) = (0 : Int32) then some 0 else (r10_firstFinger z7).bind fun z9 => (mLd z7 147 96 z9).bind fun z10 => some z10 else (r10_fingerOf z7 (x0 - 10)).bind fun z11 => some z11 : Option (Int32)).bind fun z8 => some (z8, z7)
set_option maxHeartbeats 4000000 in
set_option maxRecDepth 100000 in
theorem w10_tune (X : Nat × (Nat → Int32)) (I : mI) (s : Nat) (x0 : Int32) (Q : mQ) {res : Int32 × mI} (hr : r10_tune I x0 = some res) (hQ : Q (some (.int res.1)) NN KK res.2 (PP s)) : mV X m10_tune 3 0 0 0 [.ref 119, .int x0] [] NN KK I (PP s) Q := by
  unfold r10_tune at hr
  refine mV_aload f10_tune_0 rfl ?_
  refine mV_push f10_tune_1 ?_
  refine mV_putI f10_tune_2 (by decide) kk_119 rfl rfl ?_
  refine mV_iload f10_tune_5 rfl ?_
  refine mV_if_eq f10_tune_6 (fun h0 => ?_) (fun h0 => ?_)
  · rw [if_pos h0] at hr
    refine mV_aload f10_tune_14 rfl ?_
    refine mV_iload f10_tune_15 rfl ?_
    refine mV_push f10_tune_16 ?_
    obtain ⟨z0, hz0, hr⟩ := mBind hr
    have keyz0 : mV X m10_tune 3 0 0 25 [.ref 119, mX0] [.int z0, .ref 119] NN KK (mW I 119 0 0) (PP s) Q := by
      obtain ⟨z1, hz1, hr⟩ := mBind hr
      refine mV_cV f10_tune_25 tg_m10_twice mCls10 (by decide) kk_119 (mC_deep (c10_twice X (mW I 119 0 0) s z0 hz1) (by decide)) rfl rfl (Nat.le_of_ble_eq_true rfl) ?_
      have hr := Option.some.inj hr; subst hr
      exact mV_iret rfl rfl f10_tune_28 hQ
    clear hr
    have hr := hz0
    clear hz0
    refine mV_icmp_ne f10_tune_17 (fun h1 => ?_) (fun h1 => ?_)
    · rw [if_neg h1] at hr
      refine mV_push f10_tune_24 ?_
      have hr := Option.some.inj hr; subst hr
      refine mV_drop (L' := [.ref 119, mX0]) (mSub_k (mSub_x mSub_n)) ?_
      exact keyz0
    · rw [if_pos h1] at hr
      refine mV_push f10_tune_20 ?_
      refine mV_goto f10_tune_21 ?_
      have hr := Option.some.inj hr; subst hr
      refine mV_drop (L' := [.ref 119, mX0]) (mSub_k (mSub_x mSub_n)) ?_
      exact keyz0
  · rw [if_neg h0] at hr
    refine mV_iload f10_tune_9 rfl ?_
    refine mV_push f10_tune_10 ?_
    refine mV_icmp_ne f10_tune_11 (fun h2 => ?_) (fun h2 => ?_)
    · rw [if_neg h2] at hr
      refine mV_iload f10_tune_29 rfl ?_
      refine mV_push f10_tune_30 ?_
      refine mV_icmp_ne f10_tune_31 (fun h3 => ?_) (fun h3 => ?_)
      · rw [if_neg h3] at hr
        refine mV_iload f10_tune_39 rfl ?_
        refine mV_push f10_tune_40 ?_
        refine mV_icmp_eq f10_tune_41 (fun h4 => ?_) (fun h4 => ?_)
        · rw [if_pos h4] at hr
          refine mV_aload f10_tune_63 rfl ?_
          obtain ⟨z2, hz2, hr⟩ := mBind hr
          refine mV_cV f10_tune_64 tg_m10_findsFingers mCls10 (by decide) kk_119 (mC_deep (c10_findsFingers X (mW I 119 0 0) s hz2) (by decide)) rfl rfl (Nat.le_of_ble_eq_true rfl) ?_
          refine mV_iload f10_tune_67 rfl ?_
          refine mV_push f10_tune_68 ?_
          obtain ⟨z3, hz3, hr⟩ := mBind hr
          have keyz3 : mV X m10_tune 3 0 0 103 [.ref 119, mX0] [.int z3] NN KK z2 (PP s) Q := by
            have hr := Option.some.inj hr; subst hr
            exact mV_iret rfl rfl f10_tune_103 hQ
          clear hr
          have hr := hz3
          clear hz3
          refine mV_icmp_le f10_tune_69 (fun h5 => ?_) (fun h5 => ?_)
          · rw [if_pos h5] at hr
            refine mV_aload f10_tune_83 rfl ?_
            refine mV_gI (z2 119 48) f10_tune_84 (by decide) kk_119 rfl rfl ?_
            refine mV_if_ne f10_tune_87 (fun h6 => ?_) (fun h6 => ?_)
            · rw [if_neg h6] at hr
              refine mV_aload f10_tune_94 rfl ?_
              refine mV_getP f10_tune_95 (by decide) kk_119 rfl (pp_119_50 _) ?_
              refine mV_aload f10_tune_98 rfl ?_
              obtain ⟨z4, hz4, hr⟩ := mBind hr
              refine mV_cV f10_tune_99 tg_m10_firstFinger mCls10 (by decide) kk_119 (mC_deep (c10_firstFinger X z2 s hz4) (by decide)) rfl rfl (Nat.le_of_ble_eq_true rfl) ?_
              obtain ⟨z5, hz5, hr⟩ := mBind hr
              refine mV_ldO f10_tune_102 (by decide) kk_147 hz5 ?_
              have hr := Option.some.inj hr; subst hr
              refine mV_drop (L' := [.ref 119, mX0]) (mSub_k (mSub_x mSub_n)) ?_
              exact keyz3
            · rw [if_pos h6] at hr
              refine mV_push f10_tune_90 ?_
              refine mV_goto f10_tune_91 ?_
              have hr := Option.some.inj hr; subst hr
              refine mV_drop (L' := [.ref 119, mX0]) (mSub_k (mSub_x mSub_n)) ?_
              exact keyz3
          · rw [if_neg h5] at hr
            refine mV_aload f10_tune_72 rfl ?_
            refine mV_iload f10_tune_73 rfl ?_
            refine mV_push f10_tune_74 ?_
            refine mV_isub f10_tune_76 ?_
            obtain ⟨z6, hz6, hr⟩ := mBind hr
            refine mV_cV f10_tune_77 tg_m10_fingerOf mCls10 (by decide) kk_119 (mC_deep (c10_fingerOf X z2 s (x0 - 10) hz6) (by decide)) rfl rfl (Nat.le_of_ble_eq_true rfl) ?_
            refine mV_goto f10_tune_80 ?_
            have hr := Option.some.inj hr; subst hr
            refine mV_drop (L' := [.ref 119, mX0]) (mSub_k (mSub_x mSub_n)) ?_
            exact keyz3
        · rw [if_neg h4] at hr
          refine mV_aload f10_tune_44 rfl ?_
          refine mV_iload f10_tune_45 rfl ?_
          refine mV_push f10_tune_46 ?_
          refine mV_push f10_tune_48 ?_
          refine mV_aload f10_tune_50 rfl ?_
          refine mV_gI (I 119 48) f10_tune_51 (by decide) kk_119 rfl rfl ?_
          refine mV_iadd f10_tune_54 ?_
          refine mV_cV f10_tune_55 tg_m10_isIn mCls10 (by decide) kk_119 (mC_deep (c10_isIn X (mW I 119 0 0) s x0 10 (9 + I 119 48) rfl) (by decide)) rfl rfl (Nat.le_of_ble_eq_true rfl) ?_
          refine mV_if_ne f10_tune_58 (fun h7 => ?_) (fun h7 => ?_)
          · rw [if_neg h7] at hr
            refine mV_aload f10_tune_63 rfl ?_
            obtain ⟨z7, hz7, hr⟩ := mBind hr
            refine mV_cV f10_tune_64 tg_m10_findsFingers mCls10 (by decide) kk_119 (mC_deep (c10_findsFingers X (mW I 119 0 0) s hz7) (by decide)) rfl rfl (Nat.le_of_ble_eq_true rfl) ?_
            refine mV_iload f10_tune_67 rfl ?_
            refine mV_push f10_tune_68 ?_
            obtain ⟨z8, hz8, hr⟩ := mBind hr
            have keyz8 : mV X m10_tune 3 0 0 103 [.ref 119, mX0] [.int z8] NN KK z7 (PP s) Q := by
              have hr := Option.some.inj hr; subst hr
              exact mV_iret rfl rfl f10_tune_103 hQ
            clear hr
            have hr := hz8
            clear hz8
            refine mV_icmp_le f10_tune_69 (fun h8 => ?_) (fun h8 => ?_)
            · rw [if_pos h8] at hr
              refine mV_aload f10_tune_83 rfl ?_
              refine mV_gI (z7 119 48) f10_tune_84 (by decide) kk_119 rfl rfl ?_
              refine mV_if_ne f10_tune_87 (fun h9 => ?_) (fun h9 => ?_)
              · rw [if_neg h9] at hr
                refine mV_aload f10_tune_94 rfl ?_
                refine mV_getP f10_tune_95 (by decide) kk_119 rfl (pp_119_50 _) ?_
                refine mV_aload f10_tune_98 rfl ?_
                obtain ⟨z9, hz9, hr⟩ := mBind hr
                refine mV_cV f10_tune_99 tg_m10_firstFinger mCls10 (by decide) kk_119 (mC_deep (c10_firstFinger X z7 s hz9) (by decide)) rfl rfl (Nat.le_of_ble_eq_true rfl) ?_
                obtain ⟨z10, hz10, hr⟩ := mBind hr
                refine mV_ldO f10_tune_102 (by decide) kk_147 hz10 ?_
                have hr := Option.some.inj hr; subst hr
                refine mV_drop (L' := [.ref 119, mX0]) (mSub_k (mSub_x mSub_n)) ?_
                exact keyz8
              · rw [if_pos h9] at hr
                refine mV_push f10_tune_90 ?_
                refine mV_goto f10_tune_91 ?_
                have hr := Option.some.inj hr; subst hr
                refine mV_drop (L' := [.ref 119, mX0]) (mSub_k (mSub_x mSub_n)) ?_
                exact keyz8
            · rw [if_neg h8] at hr
              refine mV_aload f10_tune_72 rfl ?_
              refine mV_iload f10_tune_73 rfl ?_
              refine mV_push f10_tune_74 ?_
              refine mV_isub f10_tune_76 ?_
              obtain ⟨z11, hz11, hr⟩ := mBind hr
              refine mV_cV f10_tune_77 tg_m10_fingerOf mCls10 (by decide) kk_119 (mC_deep (c10_fingerOf X z7 s (x0 - 10) hz11) (by decide)) rfl rfl (Nat.le_of_ble_eq_true rfl) ?_
              refine mV_goto f10_tune_80 ?_
              have hr := Option.some.inj hr; subst hr
              refine mV_drop (L' := [.ref 119, mX0]) (mSub_k (mSub_x mSub_n)) ?_
              exact keyz8
          · rw [if_pos h7] at hr
            refine mV_push f10_tune_61 ?_
            have hr := Option.some.inj hr; subst hr
            exact mV_iret rfl rfl f10_tune_62 hQ
      · rw [if_pos h3] at hr
        refine mV_aload f10_tune_34 rfl ?_
        obtain ⟨z12, hz12, hr⟩ := mBind hr
        refine mV_cV f10_tune_35 tg_m10_rises mCls10 (by decide) kk_119 (mC_deep (c10_rises X (mW I 119 0 0) s hz12) (by decide)) rfl rfl (Nat.le_of_ble_eq_true rfl) ?_
        have hr := Option.some.inj hr; subst hr
        exact mV_iret rfl rfl f10_tune_38 hQ
    · rw [if_pos h2] at hr
      refine mV_aload f10_tune_14 rfl ?_
      refine mV_iload f10_tune_15 rfl ?_
      refine mV_push f10_tune_16 ?_
      obtain ⟨z13, hz13, hr⟩ := mBind hr
      have keyz13 : mV X m10_tune 3 0 0 25 [.ref 119, mX0] [.int z13, .ref 119] NN KK (mW I 119 0 0) (PP s) Q := by
        obtain ⟨z14, hz14, hr⟩ := mBind hr
        refine mV_cV f10_tune_25 tg_m10_twice mCls10 (by decide) kk_119 (mC_deep (c10_twice X (mW I 119 0 0) s z13 hz14) (by decide)) rfl rfl (Nat.le_of_ble_eq_true rfl) ?_
        have hr := Option.some.inj hr; subst hr
        exact mV_iret rfl rfl f10_tune_28 hQ
      clear hr
      have hr := hz13
      clear hz13
      refine mV_icmp_ne f10_tune_17 (fun h10 => ?_) (fun h10 => ?_)
      · rw [if_neg h10] at hr
        refine mV_push f10_tune_24 ?_
        have hr := Option.some.inj hr; subst hr
        refine mV_drop (L' := [.ref 119, mX0]) (mSub_k (mSub_x mSub_n)) ?_
        exact keyz13
      · rw [if_pos h10] at hr
        refine mV_push f10_tune_20 ?_
        refine mV_goto f10_tune_21 ?_
        have hr := Option.some.inj hr; subst hr
        refine mV_drop (L' := [.ref 119, mX0]) (mSub_k (mSub_x mSub_n)) ?_
        exact keyz13
theorem c10_tune (X : Nat × (Nat → Int32)) (I : mI) (s : Nat) (x0 : Int32) {res : Int32 × mI} (hr : r10_tune I x0 = some res) : mC X m10_tune 3 0 0 [.ref 119, .int x0] NN KK I (PP s) (mRet (some (.int res.1)) NN KK res.2 (PP s)) :=
  mC_of (L0 := [.ref 119, .int x0]) rfl (Nat.le_of_ble_eq_true rfl) (w10_tune X I s x0 _ hr (mRet_ok _ _ _ _ _))
def r10_isSweet (x0 : Int32) : Int32 := if (x0 : Int32) = (0 : Int32) then 1 else if (x0 : Int32) = (3 : Int32) then 1 else if (x0 : Int32) = (4 : Int32) then 1 else if ((r10_isIn x0 7 9) : Int32) = (0 : Int32) then 0 else 1
set_option maxHeartbeats 4000000 in
set_option maxRecDepth 100000 in
theorem w10_isSweet (X : Nat × (Nat → Int32)) (I : mI) (s : Nat) (x0 : Int32) (Q : mQ) {res : Int32} (hr : r10_isSweet x0 = res) (hQ : Q (some (.int res)) NN KK I (PP s)) : mV X m10_isSweet 1 0 0 0 [.ref 119, .int x0] [] NN KK I (PP s) Q := by
  unfold r10_isSweet at hr
  refine mV_iload f10_isSweet_0 rfl ?_
  refine mV_if_eq f10_isSweet_1 (fun h0 => ?_) (fun h0 => ?_)
  · rw [if_pos h0] at hr
    refine mV_push f10_isSweet_26 ?_
    refine mV_goto f10_isSweet_27 ?_
    subst hr
    exact mV_iret rfl rfl f10_isSweet_31 hQ
  · rw [if_neg h0] at hr
    refine mV_iload f10_isSweet_4 rfl ?_
    refine mV_push f10_isSweet_5 ?_
    refine mV_icmp_eq f10_isSweet_6 (fun h1 => ?_) (fun h1 => ?_)
    · rw [if_pos h1] at hr
      refine mV_push f10_isSweet_26 ?_
      refine mV_goto f10_isSweet_27 ?_
      subst hr
      exact mV_iret rfl rfl f10_isSweet_31 hQ
    · rw [if_neg h1] at hr
      refine mV_iload f10_isSweet_9 rfl ?_
      refine mV_push f10_isSweet_10 ?_
      refine mV_icmp_eq f10_isSweet_11 (fun h2 => ?_) (fun h2 => ?_)
      · rw [if_pos h2] at hr
        refine mV_push f10_isSweet_26 ?_
        refine mV_goto f10_isSweet_27 ?_
        subst hr
        exact mV_iret rfl rfl f10_isSweet_31 hQ
      · rw [if_neg h2] at hr
        refine mV_aload f10_isSweet_14 rfl ?_
        refine mV_iload f10_isSweet_15 rfl ?_
        refine mV_push f10_isSweet_16 ?_
        refine mV_push f10_isSweet_18 ?_
        refine mV_cV f10_isSweet_20 tg_m10_isIn mCls10 (by decide) kk_119 (mC_deep (c10_isIn X I s x0 7 9 rfl) (by decide)) rfl rfl (Nat.le_of_ble_eq_true rfl) ?_
        refine mV_if_eq f10_isSweet_23 (fun h3 => ?_) (fun h3 => ?_)
        · rw [if_pos h3] at hr
          refine mV_push f10_isSweet_30 ?_
          subst hr
          exact mV_iret rfl rfl f10_isSweet_31 hQ
        · rw [if_neg h3] at hr
          refine mV_push f10_isSweet_26 ?_
          refine mV_goto f10_isSweet_27 ?_
          subst hr
          exact mV_iret rfl rfl f10_isSweet_31 hQ
theorem c10_isSweet (X : Nat × (Nat → Int32)) (I : mI) (s : Nat) (x0 : Int32) {res : Int32} (hr : r10_isSweet x0 = res) : mC X m10_isSweet 1 0 0 [.ref 119, .int x0] NN KK I (PP s) (mRet (some (.int res)) NN KK I (PP s)) :=
  mC_of (L0 := [.ref 119, .int x0]) rfl (Nat.le_of_ble_eq_true rfl) (w10_isSweet X I s x0 _ hr (mRet_ok _ _ _ _ _))
def l10_canon_45 (I : mI) (k1 : Int32) (k2 : Int32) (k3 : Int32) : Nat → Int32 → Int32 → Option (Int32)
  | 0, _, _ => none
  | f + 1, y4, y5 => if (I 119 48 : Int32) ≤ (y5 : Int32) then some y4 else (if (k3 : Int32) = (0 : Int32) then some (y4 + 1) else (mLd I 146 16 y5).bind fun z1 => (mLd I 146 16 (y5 - k1)).bind fun z2 => if ((r10_isSweet (mRm (r10_apart z1 (z2 + k2)) 12)) : Int32) = (0 : Int32) then some y4 else some (y4 + 1) : Option (Int32)).bind fun z0 => l10_canon_45 I k1 k2 k3 f z0 (y5 + 1)
def r10_canon (I : mI) (x0 : Int32) (x1 : Int32) (x2 : Int32) : Option (Int32 × mI) := if ((r10_isIn x0 1 15) : Int32) = (0 : Int32) then some ((-1), (mW I 119 0 0)) else if ((r10_isIn x1 0 12) : Int32) = (0 : Int32) then some ((-1), (mW I 119 0 0)) else if ((r10_isIn x2 0 1) : Int32) = (0 : Int32) then some ((-1), (mW I 119 0 0)) else (l10_canon_45 (mW I 119 0 0) x0 x1 x2 FU 0 x0).bind fun z0 => some (z0, (mW I 119 0 0))
set_option maxHeartbeats 4000000 in
set_option maxRecDepth 100000 in
theorem t10_canon_45 (X : Nat × (Nat → Int32)) (Q : mQ) (s : Nat) (I : mI) (k1 : Int32) (k2 : Int32) (k3 : Int32) : ∀ (f : Nat) (y4 : Int32) (y5 : Int32) (z : Int32), l10_canon_45 I k1 k2 k3 f y4 y5 = some z → mV X m10_canon 2 0 0 102 [.ref 119, .int k1, .int k2, .int k3, .int z, mX0] [] NN KK I (PP s) Q → mV X m10_canon 2 0 0 45 [.ref 119, .int k1, .int k2, .int k3, .int y4, .int y5] [] NN KK I (PP s) Q := by
  intro f
  induction f with
  | zero => intro y4 y5 z hr hk; cases hr
  | succ f ih =>
    intro y4 y5 z hr hk
    unfold l10_canon_45 at hr
    refine mV_iload f10_canon_45 rfl ?_
    refine mV_aload f10_canon_47 rfl ?_
    refine mV_gI (I 119 48) f10_canon_48 (by decide) kk_119 rfl rfl ?_
    refine mV_icmp_ge f10_canon_51 (fun h0 => ?_) (fun h0 => ?_)
    · rw [if_pos h0] at hr
      have hr := Option.some.inj hr; subst hr
      refine mV_drop (L' := [.ref 119, .int k1, .int k2, .int k3, .int y4, mX0]) (mSub_k (mSub_k (mSub_k (mSub_k (mSub_k (mSub_x mSub_n)))))) ?_
      exact hk
    · rw [if_neg h0] at hr
      refine mV_iload f10_canon_54 rfl ?_
      obtain ⟨z0, hz0, hr⟩ := mBind hr
      have keyz0 : mV X m10_canon 2 0 0 96 [.ref 119, .int k1, .int k2, .int k3, .int z0, .int y5] [] NN KK I (PP s) Q := by
        refine mV_iinc (y := (y5 + 1)) (L' := [.ref 119, .int k1, .int k2, .int k3, .int z0, .int (y5 + 1)]) f10_canon_96 rfl rfl (by decide) rfl rfl ?_
        refine mV_goto f10_canon_99 ?_
        exact ih z0 (y5 + 1) _ hr hk
      clear hr
      have hr := hz0
      clear hz0
      refine mV_if_eq f10_canon_55 (fun h1 => ?_) (fun h1 => ?_)
      · rw [if_pos h1] at hr
        refine mV_iload f10_canon_90 rfl ?_
        refine mV_push f10_canon_92 ?_
        refine mV_iadd f10_canon_93 ?_
        refine mV_istore (L' := [.ref 119, .int k1, .int k2, .int k3, .int (y4 + 1), .int y5]) f10_canon_94 (by decide) rfl rfl ?_
        have hr := Option.some.inj hr; subst hr
        exact keyz0
      · rw [if_neg h1] at hr
        refine mV_aload f10_canon_58 rfl ?_
        refine mV_aload f10_canon_59 rfl ?_
        refine mV_aload f10_canon_60 rfl ?_
        refine mV_getP f10_canon_61 (by decide) kk_119 rfl (pp_119_49 _) ?_
        refine mV_iload f10_canon_64 rfl ?_
        obtain ⟨z1, hz1, hr⟩ := mBind hr
        refine mV_ldO f10_canon_66 (by decide) kk_146 hz1 ?_
        refine mV_aload f10_canon_67 rfl ?_
        refine mV_getP f10_canon_68 (by decide) kk_119 rfl (pp_119_49 _) ?_
        refine mV_iload f10_canon_71 rfl ?_
        refine mV_iload f10_canon_73 rfl ?_
        refine mV_isub f10_canon_74 ?_
        obtain ⟨z2, hz2, hr⟩ := mBind hr
        refine mV_ldO f10_canon_75 (by decide) kk_146 hz2 ?_
        refine mV_iload f10_canon_76 rfl ?_
        refine mV_iadd f10_canon_77 ?_
        refine mV_cV f10_canon_78 tg_m10_apart mCls10 (by decide) kk_119 (mC_deep (c10_apart X I s z1 (z2 + k2) rfl) (by decide)) rfl rfl (Nat.le_of_ble_eq_true rfl) ?_
        refine mV_push f10_canon_81 ?_
        refine mV_remC f10_canon_83 (by decide) ?_
        refine mV_cV f10_canon_84 tg_m10_isSweet mCls10 (by decide) kk_119 (mC_deep (c10_isSweet X I s (mRm (r10_apart z1 (z2 + k2)) 12) rfl) (by decide)) rfl rfl (Nat.le_of_ble_eq_true rfl) ?_
        refine mV_if_eq f10_canon_87 (fun h2 => ?_) (fun h2 => ?_)
        · rw [if_pos h2] at hr
          have hr := Option.some.inj hr; subst hr
          exact keyz0
        · rw [if_neg h2] at hr
          refine mV_iload f10_canon_90 rfl ?_
          refine mV_push f10_canon_92 ?_
          refine mV_iadd f10_canon_93 ?_
          refine mV_istore (L' := [.ref 119, .int k1, .int k2, .int k3, .int (y4 + 1), .int y5]) f10_canon_94 (by decide) rfl rfl ?_
          have hr := Option.some.inj hr; subst hr
          exact keyz0
set_option maxHeartbeats 4000000 in
set_option maxRecDepth 100000 in
theorem w10_canon (X : Nat × (Nat → Int32)) (I : mI) (s : Nat) (x0 : Int32) (x1 : Int32) (x2 : Int32) (Q : mQ) {res : Int32 × mI} (hr : r10_canon I x0 x1 x2 = some res) (hQ : Q (some (.int res.1)) NN KK res.2 (PP s)) : mV X m10_canon 2 0 0 0 [.ref 119, .int x0, .int x1, .int x2, mX0, mX0] [] NN KK I (PP s) Q := by
  unfold r10_canon at hr
  refine mV_aload f10_canon_0 rfl ?_
  refine mV_push f10_canon_1 ?_
  refine mV_putI f10_canon_2 (by decide) kk_119 rfl rfl ?_
  refine mV_aload f10_canon_5 rfl ?_
  refine mV_iload f10_canon_6 rfl ?_
  refine mV_push f10_canon_7 ?_
  refine mV_push f10_canon_8 ?_
  refine mV_cV f10_canon_10 tg_m10_isIn mCls10 (by decide) kk_119 (mC_deep (c10_isIn X (mW I 119 0 0) s x0 1 15 rfl) (by decide)) rfl rfl (Nat.le_of_ble_eq_true rfl) ?_
  refine mV_if_eq f10_canon_13 (fun h0 => ?_) (fun h0 => ?_)
  · rw [if_pos h0] at hr
    refine mV_push f10_canon_37 ?_
    have hr := Option.some.inj hr; subst hr
    exact mV_iret rfl rfl f10_canon_38 hQ
  · rw [if_neg h0] at hr
    refine mV_aload f10_canon_16 rfl ?_
    refine mV_iload f10_canon_17 rfl ?_
    refine mV_push f10_canon_18 ?_
    refine mV_push f10_canon_19 ?_
    refine mV_cV f10_canon_21 tg_m10_isIn mCls10 (by decide) kk_119 (mC_deep (c10_isIn X (mW I 119 0 0) s x1 0 12 rfl) (by decide)) rfl rfl (Nat.le_of_ble_eq_true rfl) ?_
    refine mV_if_eq f10_canon_24 (fun h1 => ?_) (fun h1 => ?_)
    · rw [if_pos h1] at hr
      refine mV_push f10_canon_37 ?_
      have hr := Option.some.inj hr; subst hr
      exact mV_iret rfl rfl f10_canon_38 hQ
    · rw [if_neg h1] at hr
      refine mV_aload f10_canon_27 rfl ?_
      refine mV_iload f10_canon_28 rfl ?_
      refine mV_push f10_canon_29 ?_
      refine mV_push f10_canon_30 ?_
      refine mV_cV f10_canon_31 tg_m10_isIn mCls10 (by decide) kk_119 (mC_deep (c10_isIn X (mW I 119 0 0) s x2 0 1 rfl) (by decide)) rfl rfl (Nat.le_of_ble_eq_true rfl) ?_
      refine mV_if_ne f10_canon_34 (fun h2 => ?_) (fun h2 => ?_)
      · rw [if_neg h2] at hr
        refine mV_push f10_canon_39 ?_
        refine mV_istore (L' := [.ref 119, .int x0, .int x1, .int x2, .int 0, mX0]) f10_canon_40 (by decide) rfl rfl ?_
        refine mV_iload f10_canon_42 rfl ?_
        refine mV_istore (L' := [.ref 119, .int x0, .int x1, .int x2, .int 0, .int x0]) f10_canon_43 (by decide) rfl rfl ?_
        obtain ⟨z0, hz0, hr⟩ := mBind hr
        refine t10_canon_45 X Q s (mW I 119 0 0) x0 x1 x2 FU 0 x0 _ hz0 ?_
        refine mV_iload f10_canon_102 rfl ?_
        have hr := Option.some.inj hr; subst hr
        exact mV_iret rfl rfl f10_canon_104 hQ
      · rw [if_pos h2] at hr
        refine mV_push f10_canon_37 ?_
        have hr := Option.some.inj hr; subst hr
        exact mV_iret rfl rfl f10_canon_38 hQ
theorem c10_canon (X : Nat × (Nat → Int32)) (I : mI) (s : Nat) (x0 : Int32) (x1 : Int32) (x2 : Int32) {res : Int32 × mI} (hr : r10_canon I x0 x1 x2 = some res) : mC X m10_canon 2 0 0 [.ref 119, .int x0, .int x1, .int x2] NN KK I (PP s) (mRet (some (.int res.1)) NN KK res.2 (PP s)) :=
  mC_of (L0 := [.ref 119, .int x0, .int x1, .int x2, mX0, mX0]) rfl (Nat.le_of_ble_eq_true rfl) (w10_canon X I s x0 x1 x2 _ hr (mRet_ok _ _ _ _ _))

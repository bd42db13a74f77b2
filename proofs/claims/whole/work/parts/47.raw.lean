def r10_doClash (I : mI) (x0 : Int32) (x1 : Int32) : Option (Int32) := (mLd I 150 9 x0).bind fun z0 => (mLd I 150 9 x1).bind fun z1 => (mLd I 151 9 x1).bind fun z2 => if ((z1 + z2) : Int32) ≤ (z0 : Int32) then some 0 else (mLd I 150 9 x1).bind fun z3 => (mLd I 150 9 x0).bind fun z4 => (mLd I 151 9 x0).bind fun z5 => if (z3 : Int32) < ((z4 + z5) : Int32) then (mLd I 152 9 x0).bind fun z6 => (mLd I 152 9 x1).bind fun z7 => (if ((r10_isIn (mRm (r10_apart z6 z7) 12) 1 2) : Int32) = (0 : Int32) then if ((r10_isIn (mRm (r10_apart z6 z7) 12) 10 11) : Int32) = (0 : Int32) then some 0 else some 1 else some 1 : Option (Int32)).bind fun z8 => some (z8 &&& 1) else some 0
set_option maxHeartbeats 4000000 in
set_option maxRecDepth 100000 in
theorem w10_doClash (X : Nat × (Nat → Int32)) (I : mI) (s : Nat) (x0 : Int32) (x1 : Int32) (Q : mQ) {res : Int32} (hr : r10_doClash I x0 x1 = some res) (hQ : Q (some (.int res)) NN KK I (PP s)) : mV X m10_doClash 1 0 0 0 [.ref 119, .int x0, .int x1, mX0] [] NN KK I (PP s) Q := by
  unfold r10_doClash at hr
  refine mV_aload f10_doClash_0 rfl ?_
  refine mV_getP f10_doClash_1 (by decide) kk_119 rfl (pp_119_54 _) ?_
  refine mV_iload f10_doClash_4 rfl ?_
  obtain ⟨z0, hz0, hr⟩ := mBind hr
  refine mV_ldO f10_doClash_5 (by decide) kk_150 hz0 ?_
  refine mV_aload f10_doClash_6 rfl ?_
  refine mV_getP f10_doClash_7 (by decide) kk_119 rfl (pp_119_54 _) ?_
  refine mV_iload f10_doClash_10 rfl ?_
  obtain ⟨z1, hz1, hr⟩ := mBind hr
  refine mV_ldO f10_doClash_11 (by decide) kk_150 hz1 ?_
  refine mV_aload f10_doClash_12 rfl ?_
  refine mV_getP f10_doClash_13 (by decide) kk_119 rfl (pp_119_55 _) ?_
  refine mV_iload f10_doClash_16 rfl ?_
  obtain ⟨z2, hz2, hr⟩ := mBind hr
  refine mV_ldO f10_doClash_17 (by decide) kk_151 hz2 ?_
  refine mV_iadd f10_doClash_18 ?_
  refine mV_icmp_ge f10_doClash_19 (fun h0 => ?_) (fun h0 => ?_)
  · rw [if_pos h0] at hr
    refine mV_push f10_doClash_44 ?_
    have hr := Option.some.inj hr; subst hr
    exact mV_iret rfl rfl f10_doClash_45 hQ
  · rw [if_neg h0] at hr
    refine mV_aload f10_doClash_22 rfl ?_
    refine mV_getP f10_doClash_23 (by decide) kk_119 rfl (pp_119_54 _) ?_
    refine mV_iload f10_doClash_26 rfl ?_
    obtain ⟨z3, hz3, hr⟩ := mBind hr
    refine mV_ldO f10_doClash_27 (by decide) kk_150 hz3 ?_
    refine mV_aload f10_doClash_28 rfl ?_
    refine mV_getP f10_doClash_29 (by decide) kk_119 rfl (pp_119_54 _) ?_
    refine mV_iload f10_doClash_32 rfl ?_
    obtain ⟨z4, hz4, hr⟩ := mBind hr
    refine mV_ldO f10_doClash_33 (by decide) kk_150 hz4 ?_
    refine mV_aload f10_doClash_34 rfl ?_
    refine mV_getP f10_doClash_35 (by decide) kk_119 rfl (pp_119_55 _) ?_
    refine mV_iload f10_doClash_38 rfl ?_
    obtain ⟨z5, hz5, hr⟩ := mBind hr
    refine mV_ldO f10_doClash_39 (by decide) kk_151 hz5 ?_
    refine mV_iadd f10_doClash_40 ?_
    refine mV_icmp_lt f10_doClash_41 (fun h1 => ?_) (fun h1 => ?_)
    · rw [if_pos h1] at hr
      refine mV_aload f10_doClash_46 rfl ?_
      refine mV_aload f10_doClash_47 rfl ?_
      refine mV_getP f10_doClash_48 (by decide) kk_119 rfl (pp_119_56 _) ?_
      refine mV_iload f10_doClash_51 rfl ?_
      obtain ⟨z6, hz6, hr⟩ := mBind hr
      refine mV_ldO f10_doClash_52 (by decide) kk_152 hz6 ?_
      refine mV_aload f10_doClash_53 rfl ?_
      refine mV_getP f10_doClash_54 (by decide) kk_119 rfl (pp_119_56 _) ?_
      refine mV_iload f10_doClash_57 rfl ?_
      obtain ⟨z7, hz7, hr⟩ := mBind hr
      refine mV_ldO f10_doClash_58 (by decide) kk_152 hz7 ?_
      refine mV_cV f10_doClash_59 tg_m10_apart mCls10 (by decide) kk_119 (mC_deep (c10_apart X I s z6 z7 rfl) (by decide)) rfl rfl (Nat.le_of_ble_eq_true rfl) ?_
      refine mV_push f10_doClash_62 ?_
      refine mV_remC f10_doClash_64 (by decide) ?_
      refine mV_istore (L' := [.ref 119, .int x0, .int x1, .int (mRm (r10_apart z6 z7) 12)]) f10_doClash_65 (by decide) rfl rfl ?_
      refine mV_aload f10_doClash_66 rfl ?_
      refine mV_iload f10_doClash_67 rfl ?_
      refine mV_push f10_doClash_68 ?_
      refine mV_push f10_doClash_69 ?_
      refine mV_cV f10_doClash_70 tg_m10_isIn mCls10 (by decide) kk_119 (mC_deep (c10_isIn X I s (mRm (r10_apart z6 z7) 12) 1 2 rfl) (by decide)) rfl rfl (Nat.le_of_ble_eq_true rfl) ?_
      obtain ⟨z8, hz8, hr⟩ := mBind hr
      have keyz8 : mV X m10_doClash 1 0 0 93 [.ref 119, mX0, mX0, mX0] [.int z8] NN KK I (PP s) Q := by
        have hr := Option.some.inj hr; subst hr
        exact mV_zret rfl f10_doClash_93 hQ
      clear hr
      have hr := hz8
      clear hz8
      refine mV_if_ne f10_doClash_73 (fun h2 => ?_) (fun h2 => ?_)
      · rw [if_neg h2] at hr
        refine mV_push f10_doClash_88 ?_
        refine mV_goto f10_doClash_89 ?_
        have hr := Option.some.inj hr; subst hr
        refine mV_drop (L' := [.ref 119, mX0, mX0, mX0]) (mSub_k (mSub_x (mSub_x (mSub_x mSub_n)))) ?_
        exact keyz8
      · rw [if_pos h2] at hr
        refine mV_aload f10_doClash_76 rfl ?_
        refine mV_iload f10_doClash_77 rfl ?_
        refine mV_push f10_doClash_78 ?_
        refine mV_push f10_doClash_80 ?_
        refine mV_cV f10_doClash_82 tg_m10_isIn mCls10 (by decide) kk_119 (mC_deep (c10_isIn X I s (mRm (r10_apart z6 z7) 12) 10 11 rfl) (by decide)) rfl rfl (Nat.le_of_ble_eq_true rfl) ?_
        refine mV_if_eq f10_doClash_85 (fun h3 => ?_) (fun h3 => ?_)
        · rw [if_pos h3] at hr
          refine mV_push f10_doClash_92 ?_
          have hr := Option.some.inj hr; subst hr
          refine mV_drop (L' := [.ref 119, mX0, mX0, mX0]) (mSub_k (mSub_x (mSub_x (mSub_x mSub_n)))) ?_
          exact keyz8
        · rw [if_neg h3] at hr
          refine mV_push f10_doClash_88 ?_
          refine mV_goto f10_doClash_89 ?_
          have hr := Option.some.inj hr; subst hr
          refine mV_drop (L' := [.ref 119, mX0, mX0, mX0]) (mSub_k (mSub_x (mSub_x (mSub_x mSub_n)))) ?_
          exact keyz8
    · rw [if_neg h1] at hr
      refine mV_push f10_doClash_44 ?_
      have hr := Option.some.inj hr; subst hr
      exact mV_iret rfl rfl f10_doClash_45 hQ
theorem c10_doClash (X : Nat × (Nat → Int32)) (I : mI) (s : Nat) (x0 : Int32) (x1 : Int32) {res : Int32} (hr : r10_doClash I x0 x1 = some res) : mC X m10_doClash 1 0 0 [.ref 119, .int x0, .int x1] NN KK I (PP s) (mRet (some (.int res)) NN KK I (PP s)) :=
  mC_of (L0 := [.ref 119, .int x0, .int x1, mX0]) rfl (Nat.le_of_ble_eq_true rfl) (w10_doClash X I s x0 x1 _ hr (mRet_ok _ _ _ _ _))
def l10_mud_75 (I : mI) : Nat → Int32 → Int32 → Option (Int32)
  | 0, _, _ => none
  | f + 1, y2, y3 => if (89 : Int32) ≤ (y3 : Int32) then some y2 else (r10_soundsAt I y3).bind fun z0 => (r10_soundsAt I y2).bind fun z1 => (if (z0 : Int32) ≤ (z1 : Int32) then some y2 else some y3 : Option (Int32)).bind fun z2 => l10_mud_75 I f z2 (y3 + 1)
def l10_mud_37 (I : mI) (k3 : Int32) : Nat → Int32 → Int32 → Option (Int32)
  | 0, _, _ => none
  | f + 1, y2, y4 => if (k3 : Int32) ≤ (y4 : Int32) then some y2 else (r10_doClash I k3 y4).bind fun z0 => (if (z0 : Int32) = (0 : Int32) then some y2 else some (y2 + 1) : Option (Int32)).bind fun z1 => l10_mud_37 I k3 f z1 (y4 + 1)
def l10_mud_26 (I : mI) : Nat → Int32 → Int32 → Option (Int32)
  | 0, _, _ => none
  | f + 1, y2, y3 => if (I 119 53 : Int32) ≤ (y3 : Int32) then some y2 else (l10_mud_37 I y3 FU y2 0).bind fun z0 => l10_mud_26 I f z0 (y3 + 1)
def r10_mud (I : mI) (x0 : Int32) : Option (Int32 × mI) := if ((r10_isIn x0 0 2) : Int32) = (0 : Int32) then some ((-1), (mW I 119 0 0)) else if (x0 : Int32) = (2 : Int32) then (l10_mud_26 (mW I 119 0 0) FU 0 0).bind fun z3 => some (z3, (mW I 119 0 0)) else (l10_mud_75 (mW I 119 0 0) FU 0 1).bind fun z0 => (if (x0 : Int32) = (0 : Int32) then (r10_soundsAt (mW I 119 0 0) z0).bind fun z2 => some z2 else some z0 : Option (Int32)).bind fun z1 => some (z1, (mW I 119 0 0))
set_option maxHeartbeats 4000000 in
set_option maxRecDepth 100000 in
theorem t10_mud_75 (X : Nat × (Nat → Int32)) (Q : mQ) (s : Nat) (I : mI) (k1 : Int32) : ∀ (f : Nat) (y2 : Int32) (y3 : Int32) (z : Int32), l10_mud_75 I f y2 y3 = some z → mV X m10_mud 2 0 0 102 [.ref 119, .int k1, .int z, mX0, mX0] [] NN KK I (PP s) Q → mV X m10_mud 2 0 0 75 [.ref 119, .int k1, .int y2, .int y3, mX0] [] NN KK I (PP s) Q := by
  intro f
  induction f with
  | zero => intro y2 y3 z hr hk; cases hr
  | succ f ih =>
    intro y2 y3 z hr hk
    unfold l10_mud_75 at hr
    refine mV_iload f10_mud_75 rfl ?_
    refine mV_push f10_mud_76 ?_
    refine mV_icmp_ge f10_mud_78 (fun h0 => ?_) (fun h0 => ?_)
    · rw [if_pos h0] at hr
      have hr := Option.some.inj hr; subst hr
      refine mV_drop (L' := [.ref 119, .int k1, .int y2, mX0, mX0]) (mSub_k (mSub_k (mSub_k (mSub_x (mSub_x mSub_n))))) ?_
      exact hk
    · rw [if_neg h0] at hr
      refine mV_aload f10_mud_81 rfl ?_
      refine mV_iload f10_mud_82 rfl ?_
      obtain ⟨z0, hz0, hr⟩ := mBind hr
      refine mV_cV f10_mud_83 tg_m10_soundsAt mCls10 (by decide) kk_119 (mC_deep (c10_soundsAt X I s y3 hz0) (by decide)) rfl rfl (Nat.le_of_ble_eq_true rfl) ?_
      refine mV_aload f10_mud_86 rfl ?_
      refine mV_iload f10_mud_87 rfl ?_
      obtain ⟨z1, hz1, hr⟩ := mBind hr
      refine mV_cV f10_mud_88 tg_m10_soundsAt mCls10 (by decide) kk_119 (mC_deep (c10_soundsAt X I s y2 hz1) (by decide)) rfl rfl (Nat.le_of_ble_eq_true rfl) ?_
      obtain ⟨z2, hz2, hr⟩ := mBind hr
      have keyz2 : mV X m10_mud 2 0 0 96 [.ref 119, .int k1, .int z2, .int y3, mX0] [] NN KK I (PP s) Q := by
        refine mV_iinc (y := (y3 + 1)) (L' := [.ref 119, .int k1, .int z2, .int (y3 + 1), mX0]) f10_mud_96 rfl rfl (by decide) rfl rfl ?_
        refine mV_goto f10_mud_99 ?_
        exact ih z2 (y3 + 1) _ hr hk
      clear hr
      have hr := hz2
      clear hz2
      refine mV_icmp_le f10_mud_91 (fun h1 => ?_) (fun h1 => ?_)
      · rw [if_pos h1] at hr
        have hr := Option.some.inj hr; subst hr
        exact keyz2
      · rw [if_neg h1] at hr
        refine mV_iload f10_mud_94 rfl ?_
        refine mV_istore (L' := [.ref 119, .int k1, .int y3, .int y3, mX0]) f10_mud_95 (by decide) rfl rfl ?_
        have hr := Option.some.inj hr; subst hr
        exact keyz2
set_option maxHeartbeats 4000000 in
set_option maxRecDepth 100000 in
theorem t10_mud_37 (X : Nat × (Nat → Int32)) (Q : mQ) (s : Nat) (I : mI) (k3 : Int32) : ∀ (f : Nat) (y2 : Int32) (y4 : Int32) (z : Int32), l10_mud_37 I k3 f y2 y4 = some z → mV X m10_mud 2 0 0 63 [.ref 119, mX0, .int z, .int k3, mX0] [] NN KK I (PP s) Q → mV X m10_mud 2 0 0 37 [.ref 119, mX0, .int y2, .int k3, .int y4] [] NN KK I (PP s) Q := by
  intro f
  induction f with
  | zero => intro y2 y4 z hr hk; cases hr
  | succ f ih =>
    intro y2 y4 z hr hk
    unfold l10_mud_37 at hr
    refine mV_iload f10_mud_37 rfl ?_
    refine mV_iload f10_mud_39 rfl ?_
    refine mV_icmp_ge f10_mud_40 (fun h0 => ?_) (fun h0 => ?_)
    · rw [if_pos h0] at hr
      have hr := Option.some.inj hr; subst hr
      refine mV_drop (L' := [.ref 119, mX0, .int y2, .int k3, mX0]) (mSub_k (mSub_x (mSub_k (mSub_k (mSub_x mSub_n))))) ?_
      exact hk
    · rw [if_neg h0] at hr
      refine mV_aload f10_mud_43 rfl ?_
      refine mV_iload f10_mud_44 rfl ?_
      refine mV_iload f10_mud_45 rfl ?_
      obtain ⟨z0, hz0, hr⟩ := mBind hr
      refine mV_cV f10_mud_47 tg_m10_doClash mCls10 (by decide) kk_119 (mC_deep (c10_doClash X I s k3 y4 hz0) (by decide)) rfl rfl (Nat.le_of_ble_eq_true rfl) ?_
      obtain ⟨z1, hz1, hr⟩ := mBind hr
      have keyz1 : mV X m10_mud 2 0 0 57 [.ref 119, mX0, .int z1, .int k3, .int y4] [] NN KK I (PP s) Q := by
        refine mV_iinc (y := (y4 + 1)) (L' := [.ref 119, mX0, .int z1, .int k3, .int (y4 + 1)]) f10_mud_57 rfl rfl (by decide) rfl rfl ?_
        refine mV_goto f10_mud_60 ?_
        exact ih z1 (y4 + 1) _ hr hk
      clear hr
      have hr := hz1
      clear hz1
      refine mV_if_eq f10_mud_50 (fun h1 => ?_) (fun h1 => ?_)
      · rw [if_pos h1] at hr
        have hr := Option.some.inj hr; subst hr
        exact keyz1
      · rw [if_neg h1] at hr
        refine mV_iload f10_mud_53 rfl ?_
        refine mV_push f10_mud_54 ?_
        refine mV_iadd f10_mud_55 ?_
        refine mV_istore (L' := [.ref 119, mX0, .int (y2 + 1), .int k3, .int y4]) f10_mud_56 (by decide) rfl rfl ?_
        have hr := Option.some.inj hr; subst hr
        exact keyz1
set_option maxHeartbeats 4000000 in
set_option maxRecDepth 100000 in
theorem t10_mud_26 (X : Nat × (Nat → Int32)) (Q : mQ) (s : Nat) (I : mI) : ∀ (f : Nat) (y2 : Int32) (y3 : Int32) (z : Int32), l10_mud_26 I f y2 y3 = some z → mV X m10_mud 2 0 0 69 [.ref 119, mX0, .int z, mX0, mX0] [] NN KK I (PP s) Q → mV X m10_mud 2 0 0 26 [.ref 119, mX0, .int y2, .int y3, mX0] [] NN KK I (PP s) Q := by
  intro f
  induction f with
  | zero => intro y2 y3 z hr hk; cases hr
  | succ f ih =>
    intro y2 y3 z hr hk
    unfold l10_mud_26 at hr
    refine mV_iload f10_mud_26 rfl ?_
    refine mV_aload f10_mud_27 rfl ?_
    refine mV_gI (I 119 53) f10_mud_28 (by decide) kk_119 rfl rfl ?_
    refine mV_icmp_ge f10_mud_31 (fun h0 => ?_) (fun h0 => ?_)
    · rw [if_pos h0] at hr
      have hr := Option.some.inj hr; subst hr
      refine mV_drop (L' := [.ref 119, mX0, .int y2, mX0, mX0]) (mSub_k (mSub_x (mSub_k (mSub_x (mSub_x mSub_n))))) ?_
      exact hk
    · rw [if_neg h0] at hr
      refine mV_push f10_mud_34 ?_
      refine mV_istore (L' := [.ref 119, mX0, .int y2, .int y3, .int 0]) f10_mud_35 (by decide) rfl rfl ?_
      obtain ⟨z0, hz0, hr⟩ := mBind hr
      refine t10_mud_37 X Q s I y3 FU y2 0 _ hz0 ?_
      refine mV_iinc (y := (y3 + 1)) (L' := [.ref 119, mX0, .int z0, .int (y3 + 1), mX0]) f10_mud_63 rfl rfl (by decide) rfl rfl ?_
      refine mV_goto f10_mud_66 ?_
      exact ih z0 (y3 + 1) _ hr hk
set_option maxHeartbeats 4000000 in
set_option maxRecDepth 100000 in
theorem w10_mud (X : Nat × (Nat → Int32)) (I : mI) (s : Nat) (x0 : Int32) (Q : mQ) {res : Int32 × mI} (hr : r10_mud I x0 = some res) (hQ : Q (some (.int res.1)) NN KK res.2 (PP s)) : mV X m10_mud 2 0 0 0 [.ref 119, .int x0, mX0, mX0, mX0] [] NN KK I (PP s) Q := by
  unfold r10_mud at hr
  refine mV_aload f10_mud_0 rfl ?_
  refine mV_push f10_mud_1 ?_
  refine mV_putI f10_mud_2 (by decide) kk_119 rfl rfl ?_
  refine mV_aload f10_mud_5 rfl ?_
  refine mV_iload f10_mud_6 rfl ?_
  refine mV_push f10_mud_7 ?_
  refine mV_push f10_mud_8 ?_
  refine mV_cV f10_mud_9 tg_m10_isIn mCls10 (by decide) kk_119 (mC_deep (c10_isIn X (mW I 119 0 0) s x0 0 2 rfl) (by decide)) rfl rfl (Nat.le_of_ble_eq_true rfl) ?_
  refine mV_if_ne f10_mud_12 (fun h0 => ?_) (fun h0 => ?_)
  · rw [if_neg h0] at hr
    refine mV_iload f10_mud_17 rfl ?_
    refine mV_push f10_mud_18 ?_
    refine mV_icmp_ne f10_mud_19 (fun h1 => ?_) (fun h1 => ?_)
    · rw [if_neg h1] at hr
      refine mV_push f10_mud_71 ?_
      refine mV_istore (L' := [.ref 119, .int x0, .int 0, mX0, mX0]) f10_mud_72 (by decide) rfl rfl ?_
      refine mV_push f10_mud_73 ?_
      refine mV_istore (L' := [.ref 119, .int x0, .int 0, .int 1, mX0]) f10_mud_74 (by decide) rfl rfl ?_
      obtain ⟨z0, hz0, hr⟩ := mBind hr
      refine t10_mud_75 X Q s (mW I 119 0 0) x0 FU 0 1 _ hz0 ?_
      refine mV_iload f10_mud_102 rfl ?_
      obtain ⟨z1, hz1, hr⟩ := mBind hr
      have keyz1 : mV X m10_mud 2 0 0 115 [.ref 119, mX0, mX0, mX0, mX0] [.int z1] NN KK (mW I 119 0 0) (PP s) Q := by
        have hr := Option.some.inj hr; subst hr
        exact mV_iret rfl rfl f10_mud_115 hQ
      clear hr
      have hr := hz1
      clear hz1
      refine mV_if_ne f10_mud_103 (fun h2 => ?_) (fun h2 => ?_)
      · rw [if_neg h2] at hr
        refine mV_iload f10_mud_114 rfl ?_
        have hr := Option.some.inj hr; subst hr
        refine mV_drop (L' := [.ref 119, mX0, mX0, mX0, mX0]) (mSub_k (mSub_x (mSub_x (mSub_x (mSub_x mSub_n))))) ?_
        exact keyz1
      · rw [if_pos h2] at hr
        refine mV_aload f10_mud_106 rfl ?_
        refine mV_iload f10_mud_107 rfl ?_
        obtain ⟨z2, hz2, hr⟩ := mBind hr
        refine mV_cV f10_mud_108 tg_m10_soundsAt mCls10 (by decide) kk_119 (mC_deep (c10_soundsAt X (mW I 119 0 0) s z0 hz2) (by decide)) rfl rfl (Nat.le_of_ble_eq_true rfl) ?_
        refine mV_goto f10_mud_111 ?_
        have hr := Option.some.inj hr; subst hr
        refine mV_drop (L' := [.ref 119, mX0, mX0, mX0, mX0]) (mSub_k (mSub_x (mSub_x (mSub_x (mSub_x mSub_n))))) ?_
        exact keyz1
    · rw [if_pos h1] at hr
      refine mV_push f10_mud_22 ?_
      refine mV_istore (L' := [.ref 119, .int x0, .int 0, mX0, mX0]) f10_mud_23 (by decide) rfl rfl ?_
      refine mV_push f10_mud_24 ?_
      refine mV_istore (L' := [.ref 119, .int x0, .int 0, .int 0, mX0]) f10_mud_25 (by decide) rfl rfl ?_
      obtain ⟨z3, hz3, hr⟩ := mBind hr
      refine mV_drop (L' := [.ref 119, mX0, .int 0, .int 0, mX0]) (mSub_k (mSub_x (mSub_k (mSub_k (mSub_x mSub_n))))) ?_
      refine t10_mud_26 X Q s (mW I 119 0 0) FU 0 0 _ hz3 ?_
      refine mV_iload f10_mud_69 rfl ?_
      have hr := Option.some.inj hr; subst hr
      exact mV_iret rfl rfl f10_mud_70 hQ
  · rw [if_pos h0] at hr
    refine mV_push f10_mud_15 ?_
    have hr := Option.some.inj hr; subst hr
    exact mV_iret rfl rfl f10_mud_16 hQ
theorem c10_mud (X : Nat × (Nat → Int32)) (I : mI) (s : Nat) (x0 : Int32) {res : Int32 × mI} (hr : r10_mud I x0 = some res) : mC X m10_mud 2 0 0 [.ref 119, .int x0] NN KK I (PP s) (mRet (some (.int res.1)) NN KK res.2 (PP s)) :=
  mC_of (L0 := [.ref 119, .int x0, mX0, mX0, mX0]) rfl (Nat.le_of_ble_eq_true rfl) (w10_mud X I s x0 _ hr (mRet_ok _ _ _ _ _))
def l10_whose_57 (I : mI) (k6 : Int32) : Nat → Int32 → Int32 → Option (Int32)
  | 0, _, _ => none
  | f + 1, y7, y8 => if (I 119 6 : Int32) ≤ (y8 : Int32) then some y7 else (if ((r10_has k6 y8) : Int32) = (0 : Int32) then some y7 else (mLd I 120 47 (29 + y8)).bind fun z1 => some (y7 + z1) : Option (Int32)).bind fun z0 => l10_whose_57 I k6 f z0 (y8 + 1)
def l10_whose_40 (I : mI) (k1 : Int32) : Nat → Int32 → Int32 → Int32 → Int32 → Option (Int32 × Int32 × Int32)
  | 0, _, _, _, _ => none
  | f + 1, y3, y4, y5, y6 => if (((1 : Int32) <<< (I 119 6 &&& 31)) : Int32) ≤ (y6 : Int32) then some (y3, y4, y5) else (l10_whose_57 I y6 FU 0 0).bind fun z0 => (if (z0 : Int32) = (k1 : Int32) then (if (y3 : Int32) = (0 : Int32) then some y6 else some y4 : Option (Int32)).bind fun z2 => (if (y3 : Int32) = (0 : Int32) then some y6 else some (y5 &&& y6) : Option (Int32)).bind fun z3 => some ((y3 + 1), z2, z3) else some (y3, y4, y5) : Option (Int32 × Int32 × Int32)).bind fun z1 => l10_whose_40 I k1 f z1.1 z1.2.1 z1.2.2 (y6 + 1)
def r10_whose (I : mI) (x0 : Int32) (x1 : Int32) : Option (Int32 × mI) := if ((r10_isIn x0 1 999) : Int32) = (0 : Int32) then some ((-1), (mW I 119 0 0)) else if ((r10_isIn x1 0 2) : Int32) = (0 : Int32) then some ((-1), (mW I 119 0 0)) else (l10_whose_40 (mW I 119 0 0) x0 FU 0 (-1) 0 0).bind fun z0 => (if (x1 : Int32) = (0 : Int32) then some z0.1 else if (x1 : Int32) = (1 : Int32) then some z0.2.1 else some z0.2.2 : Option (Int32)).bind fun z1 => some (z1, (mW I 119 0 0))
set_option maxHeartbeats 4000000 in
set_option maxRecDepth 100000 in
theorem t10_whose_57 (X : Nat × (Nat → Int32)) (Q : mQ) (s : Nat) (I : mI) (k1 : Int32) (k2 : Int32) (k3 : Int32) (k4 : Int32) (k5 : Int32) (k6 : Int32) : ∀ (f : Nat) (y7 : Int32) (y8 : Int32) (z : Int32), l10_whose_57 I k6 f y7 y8 = some z → mV X m10_whose 1 0 0 98 [.ref 119, .int k1, .int k2, .int k3, .int k4, .int k5, .int k6, .int z, mX0] [] NN KK I (PP s) Q → mV X m10_whose 1 0 0 57 [.ref 119, .int k1, .int k2, .int k3, .int k4, .int k5, .int k6, .int y7, .int y8] [] NN KK I (PP s) Q := by
  intro f
  induction f with
  | zero => intro y7 y8 z hr hk; cases hr
  | succ f ih =>
    intro y7 y8 z hr hk
    unfold l10_whose_57 at hr
    refine mV_iload f10_whose_57 rfl ?_
    refine mV_aload f10_whose_59 rfl ?_
    refine mV_gI (I 119 6) f10_whose_60 (by decide) kk_119 rfl rfl ?_
    refine mV_icmp_ge f10_whose_63 (fun h0 => ?_) (fun h0 => ?_)
    · rw [if_pos h0] at hr
      have hr := Option.some.inj hr; subst hr
      refine mV_drop (L' := [.ref 119, .int k1, .int k2, .int k3, .int k4, .int k5, .int k6, .int y7, mX0]) (mSub_k (mSub_k (mSub_k (mSub_k (mSub_k (mSub_k (mSub_k (mSub_k (mSub_x mSub_n))))))))) ?_
      exact hk
    · rw [if_neg h0] at hr
      refine mV_aload f10_whose_66 rfl ?_
      refine mV_iload f10_whose_67 rfl ?_
      refine mV_iload f10_whose_69 rfl ?_
      refine mV_cV f10_whose_71 tg_m10_has mCls10 (by decide) kk_119 (mC_deep (c10_has X I s k6 y8 rfl) (by decide)) rfl rfl (Nat.le_of_ble_eq_true rfl) ?_
      obtain ⟨z0, hz0, hr⟩ := mBind hr
      have keyz0 : mV X m10_whose 1 0 0 92 [.ref 119, .int k1, .int k2, .int k3, .int k4, .int k5, .int k6, .int z0, .int y8] [] NN KK I (PP s) Q := by
        refine mV_iinc (y := (y8 + 1)) (L' := [.ref 119, .int k1, .int k2, .int k3, .int k4, .int k5, .int k6, .int z0, .int (y8 + 1)]) f10_whose_92 rfl rfl (by decide) rfl rfl ?_
        refine mV_goto f10_whose_95 ?_
        exact ih z0 (y8 + 1) _ hr hk
      clear hr
      have hr := hz0
      clear hz0
      refine mV_if_eq f10_whose_74 (fun h1 => ?_) (fun h1 => ?_)
      · rw [if_pos h1] at hr
        have hr := Option.some.inj hr; subst hr
        exact keyz0
      · rw [if_neg h1] at hr
        refine mV_iload f10_whose_77 rfl ?_
        refine mV_aload f10_whose_79 rfl ?_
        refine mV_getP f10_whose_80 (by decide) kk_119 rfl (pp_119_1 _) ?_
        refine mV_push f10_whose_83 ?_
        refine mV_iload f10_whose_85 rfl ?_
        refine mV_iadd f10_whose_87 ?_
        obtain ⟨z1, hz1, hr⟩ := mBind hr
        refine mV_ldO f10_whose_88 (by decide) kk_120 hz1 ?_
        refine mV_iadd f10_whose_89 ?_
        refine mV_istore (L' := [.ref 119, .int k1, .int k2, .int k3, .int k4, .int k5, .int k6, .int (y7 + z1), .int y8]) f10_whose_90 (by decide) rfl rfl ?_
        have hr := Option.some.inj hr; subst hr
        exact keyz0
set_option maxHeartbeats 4000000 in
set_option maxRecDepth 100000 in
theorem t10_whose_40 (X : Nat × (Nat → Int32)) (Q : mQ) (s : Nat) (I : mI) (k1 : Int32) (k2 : Int32) : ∀ (f : Nat) (y3 : Int32) (y4 : Int32) (y5 : Int32) (y6 : Int32) (z : Int32 × Int32 × Int32), l10_whose_40 I k1 f y3 y4 y5 y6 = some z → mV X m10_whose 1 0 0 141 [.ref 119, .int k1, .int k2, .int z.1, .int z.2.1, .int z.2.2, mX0, mX0, mX0] [] NN KK I (PP s) Q → mV X m10_whose 1 0 0 40 [.ref 119, .int k1, .int k2, .int y3, .int y4, .int y5, .int y6, mX0, mX0] [] NN KK I (PP s) Q := by
  intro f
  induction f with
  | zero => intro y3 y4 y5 y6 z hr hk; cases hr
  | succ f ih =>
    intro y3 y4 y5 y6 z hr hk
    unfold l10_whose_40 at hr
    refine mV_iload f10_whose_40 rfl ?_
    refine mV_push f10_whose_42 ?_
    refine mV_aload f10_whose_43 rfl ?_
    refine mV_gI (I 119 6) f10_whose_44 (by decide) kk_119 rfl rfl ?_
    refine mV_ishl f10_whose_47 ?_
    refine mV_icmp_ge f10_whose_48 (fun h0 => ?_) (fun h0 => ?_)
    · rw [if_pos h0] at hr
      have hr := Option.some.inj hr; subst hr
      refine mV_drop (L' := [.ref 119, .int k1, .int k2, .int y3, .int y4, .int y5, mX0, mX0, mX0]) (mSub_k (mSub_k (mSub_k (mSub_k (mSub_k (mSub_k (mSub_x (mSub_x (mSub_x mSub_n))))))))) ?_
      exact hk
    · rw [if_neg h0] at hr
      refine mV_push f10_whose_51 ?_
      refine mV_istore (L' := [.ref 119, .int k1, .int k2, .int y3, .int y4, .int y5, .int y6, .int 0, mX0]) f10_whose_52 (by decide) rfl rfl ?_
      refine mV_push f10_whose_54 ?_
      refine mV_istore (L' := [.ref 119, .int k1, .int k2, .int y3, .int y4, .int y5, .int y6, .int 0, .int 0]) f10_whose_55 (by decide) rfl rfl ?_
      obtain ⟨z0, hz0, hr⟩ := mBind hr
      refine t10_whose_57 X Q s I k1 k2 y3 y4 y5 y6 FU 0 0 _ hz0 ?_
      refine mV_iload f10_whose_98 rfl ?_
      refine mV_iload f10_whose_100 rfl ?_
      obtain ⟨z1, hz1, hr⟩ := mBind hr
      have keyz1 : mV X m10_whose 1 0 0 135 [.ref 119, .int k1, .int k2, .int z1.1, .int z1.2.1, .int z1.2.2, .int y6, mX0, mX0] [] NN KK I (PP s) Q := by
        refine mV_iinc (y := (y6 + 1)) (L' := [.ref 119, .int k1, .int k2, .int z1.1, .int z1.2.1, .int z1.2.2, .int (y6 + 1), mX0, mX0]) f10_whose_135 rfl rfl (by decide) rfl rfl ?_
        refine mV_goto f10_whose_138 ?_
        exact ih z1.1 z1.2.1 z1.2.2 (y6 + 1) _ hr hk
      clear hr
      have hr := hz1
      clear hz1
      refine mV_icmp_eq f10_whose_101 (fun h1 => ?_) (fun h1 => ?_)
      · rw [if_pos h1] at hr
        refine mV_iload f10_whose_107 rfl ?_
        obtain ⟨z2, hz2, hr⟩ := mBind hr
        have keyz2 : mV X m10_whose 1 0 0 115 [.ref 119, .int k1, .int k2, .int y3, .int z2, .int y5, .int y6, mX0, mX0] [] NN KK I (PP s) Q := by
          refine mV_iload f10_whose_115 rfl ?_
          obtain ⟨z3, hz3, hr⟩ := mBind hr
          have keyz3 : mV X m10_whose 1 0 0 129 [.ref 119, .int k1, .int k2, .int y3, .int z2, mX0, .int y6, mX0, mX0] [.int z3] NN KK I (PP s) Q := by
            refine mV_istore (L' := [.ref 119, .int k1, .int k2, .int y3, .int z2, .int z3, .int y6, mX0, mX0]) f10_whose_129 (by decide) rfl rfl ?_
            refine mV_iload f10_whose_131 rfl ?_
            refine mV_push f10_whose_132 ?_
            refine mV_iadd f10_whose_133 ?_
            refine mV_istore (L' := [.ref 119, .int k1, .int k2, .int (y3 + 1), .int z2, .int z3, .int y6, mX0, mX0]) f10_whose_134 (by decide) rfl rfl ?_
            have hr := Option.some.inj hr; subst hr
            exact keyz1
          clear hr
          have hr := hz3
          clear hz3
          refine mV_if_ne f10_whose_116 (fun h3 => ?_) (fun h3 => ?_)
          · rw [if_neg h3] at hr
            refine mV_iload f10_whose_124 rfl ?_
            refine mV_iload f10_whose_126 rfl ?_
            refine mV_iand f10_whose_128 ?_
            have hr := Option.some.inj hr; subst hr
            refine mV_drop (L' := [.ref 119, .int k1, .int k2, .int y3, .int z2, mX0, .int y6, mX0, mX0]) (mSub_k (mSub_k (mSub_k (mSub_k (mSub_k (mSub_x (mSub_k (mSub_x (mSub_x mSub_n))))))))) ?_
            exact keyz3
          · rw [if_pos h3] at hr
            refine mV_iload f10_whose_119 rfl ?_
            refine mV_goto f10_whose_121 ?_
            have hr := Option.some.inj hr; subst hr
            refine mV_drop (L' := [.ref 119, .int k1, .int k2, .int y3, .int z2, mX0, .int y6, mX0, mX0]) (mSub_k (mSub_k (mSub_k (mSub_k (mSub_k (mSub_x (mSub_k (mSub_x (mSub_x mSub_n))))))))) ?_
            exact keyz3
        clear hr
        have hr := hz2
        clear hz2
        refine mV_if_ne f10_whose_108 (fun h2 => ?_) (fun h2 => ?_)
        · rw [if_neg h2] at hr
          have hr := Option.some.inj hr; subst hr
          refine mV_drop (L' := [.ref 119, .int k1, .int k2, .int y3, .int y4, .int y5, .int y6, mX0, mX0]) (mSub_k (mSub_k (mSub_k (mSub_k (mSub_k (mSub_k (mSub_k (mSub_x (mSub_x mSub_n))))))))) ?_
          exact keyz2
        · rw [if_pos h2] at hr
          refine mV_iload f10_whose_111 rfl ?_
          refine mV_istore (L' := [.ref 119, .int k1, .int k2, .int y3, .int y6, .int y5, .int y6, .int z0, mX0]) f10_whose_113 (by decide) rfl rfl ?_
          have hr := Option.some.inj hr; subst hr
          refine mV_drop (L' := [.ref 119, .int k1, .int k2, .int y3, .int y6, .int y5, .int y6, mX0, mX0]) (mSub_k (mSub_k (mSub_k (mSub_k (mSub_k (mSub_k (mSub_k (mSub_x (mSub_x mSub_n))))))))) ?_
          exact keyz2
      · rw [if_neg h1] at hr
        refine mV_goto f10_whose_104 ?_
        have hr := Option.some.inj hr; subst hr
        refine mV_drop (L' := [.ref 119, .int k1, .int k2, .int y3, .int y4, .int y5, .int y6, mX0, mX0]) (mSub_k (mSub_k (mSub_k (mSub_k (mSub_k (mSub_k (mSub_k (mSub_x (mSub_x mSub_n))))))))) ?_
        exact keyz1
set_option maxHeartbeats 4000000 in
set_option maxRecDepth 100000 in
theorem w10_whose (X : Nat × (Nat → Int32)) (I : mI) (s : Nat) (x0 : Int32) (x1 : Int32) (Q : mQ) {res : Int32 × mI} (hr : r10_whose I x0 x1 = some res) (hQ : Q (some (.int res.1)) NN KK res.2 (PP s)) : mV X m10_whose 1 0 0 0 [.ref 119, .int x0, .int x1, mX0, mX0, mX0, mX0, mX0, mX0] [] NN KK I (PP s) Q := by
  unfold r10_whose at hr
  refine mV_aload f10_whose_0 rfl ?_
  refine mV_push f10_whose_1 ?_
  refine mV_putI f10_whose_2 (by decide) kk_119 rfl rfl ?_
  refine mV_aload f10_whose_5 rfl ?_
  refine mV_iload f10_whose_6 rfl ?_
  refine mV_push f10_whose_7 ?_
  refine mV_push f10_whose_8 ?_
  refine mV_cV f10_whose_11 tg_m10_isIn mCls10 (by decide) kk_119 (mC_deep (c10_isIn X (mW I 119 0 0) s x0 1 999 rfl) (by decide)) rfl rfl (Nat.le_of_ble_eq_true rfl) ?_
  refine mV_if_eq f10_whose_14 (fun h0 => ?_) (fun h0 => ?_)
  · rw [if_pos h0] at hr
    refine mV_push f10_whose_27 ?_
    have hr := Option.some.inj hr; subst hr
    exact mV_iret rfl rfl f10_whose_28 hQ
  · rw [if_neg h0] at hr
    refine mV_aload f10_whose_17 rfl ?_
    refine mV_iload f10_whose_18 rfl ?_
    refine mV_push f10_whose_19 ?_
    refine mV_push f10_whose_20 ?_
    refine mV_cV f10_whose_21 tg_m10_isIn mCls10 (by decide) kk_119 (mC_deep (c10_isIn X (mW I 119 0 0) s x1 0 2 rfl) (by decide)) rfl rfl (Nat.le_of_ble_eq_true rfl) ?_
    refine mV_if_ne f10_whose_24 (fun h1 => ?_) (fun h1 => ?_)
    · rw [if_neg h1] at hr
      refine mV_push f10_whose_29 ?_
      refine mV_istore (L' := [.ref 119, .int x0, .int x1, .int 0, mX0, mX0, mX0, mX0, mX0]) f10_whose_30 (by decide) rfl rfl ?_
      refine mV_push f10_whose_31 ?_
      refine mV_istore (L' := [.ref 119, .int x0, .int x1, .int 0, .int (-1), mX0, mX0, mX0, mX0]) f10_whose_32 (by decide) rfl rfl ?_
      refine mV_push f10_whose_34 ?_
      refine mV_istore (L' := [.ref 119, .int x0, .int x1, .int 0, .int (-1), .int 0, mX0, mX0, mX0]) f10_whose_35 (by decide) rfl rfl ?_
      refine mV_push f10_whose_37 ?_
      refine mV_istore (L' := [.ref 119, .int x0, .int x1, .int 0, .int (-1), .int 0, .int 0, mX0, mX0]) f10_whose_38 (by decide) rfl rfl ?_
      obtain ⟨z0, hz0, hr⟩ := mBind hr
      refine t10_whose_40 X Q s (mW I 119 0 0) x0 x1 FU 0 (-1) 0 0 _ hz0 ?_
      refine mV_iload f10_whose_141 rfl ?_
      obtain ⟨z1, hz1, hr⟩ := mBind hr
      have keyz1 : mV X m10_whose 1 0 0 161 [.ref 119, mX0, mX0, mX0, mX0, mX0, mX0, mX0, mX0] [.int z1] NN KK (mW I 119 0 0) (PP s) Q := by
        have hr := Option.some.inj hr; subst hr
        exact mV_iret rfl rfl f10_whose_161 hQ
      clear hr
      have hr := hz1
      clear hz1
      refine mV_if_ne f10_whose_142 (fun h2 => ?_) (fun h2 => ?_)
      · rw [if_neg h2] at hr
        refine mV_iload f10_whose_149 rfl ?_
        refine mV_push f10_whose_150 ?_
        refine mV_icmp_ne f10_whose_151 (fun h3 => ?_) (fun h3 => ?_)
        · rw [if_neg h3] at hr
          refine mV_iload f10_whose_159 rfl ?_
          have hr := Option.some.inj hr; subst hr
          refine mV_drop (L' := [.ref 119, mX0, mX0, mX0, mX0, mX0, mX0, mX0, mX0]) (mSub_k (mSub_x (mSub_x (mSub_x (mSub_x (mSub_x (mSub_x (mSub_x (mSub_x mSub_n))))))))) ?_
          exact keyz1
        · rw [if_pos h3] at hr
          refine mV_iload f10_whose_154 rfl ?_
          refine mV_goto f10_whose_156 ?_
          have hr := Option.some.inj hr; subst hr
          refine mV_drop (L' := [.ref 119, mX0, mX0, mX0, mX0, mX0, mX0, mX0, mX0]) (mSub_k (mSub_x (mSub_x (mSub_x (mSub_x (mSub_x (mSub_x (mSub_x (mSub_x mSub_n))))))))) ?_
          exact keyz1
      · rw [if_pos h2] at hr
        refine mV_iload f10_whose_145 rfl ?_
        refine mV_goto f10_whose_146 ?_
        have hr := Option.some.inj hr; subst hr
        refine mV_drop (L' := [.ref 119, mX0, mX0, mX0, mX0, mX0, mX0, mX0, mX0]) (mSub_k (mSub_x (mSub_x (mSub_x (mSub_x (mSub_x (mSub_x (mSub_x (mSub_x mSub_n))))))))) ?_
        exact keyz1
    · rw [if_pos h1] at hr
      refine mV_push f10_whose_27 ?_
      have hr := Option.some.inj hr; subst hr
      exact mV_iret rfl rfl f10_whose_28 hQ
theorem c10_whose (X : Nat × (Nat → Int32)) (I : mI) (s : Nat) (x0 : Int32) (x1 : Int32) {res : Int32 × mI} (hr : r10_whose I x0 x1 = some res) : mC X m10_whose 1 0 0 [.ref 119, .int x0, .int x1] NN KK I (PP s) (mRet (some (.int res.1)) NN KK res.2 (PP s)) :=
  mC_of (L0 := [.ref 119, .int x0, .int x1, mX0, mX0, mX0, mX0, mX0, mX0]) rfl (Nat.le_of_ble_eq_true rfl) (w10_whose X I s x0 x1 _ hr (mRet_ok _ _ _ _ _))
def l10_roomFor_4 (I : mI) (k1 : Int32) : Nat → Int32 → Int32 → Option (Int32)
  | 0, _, _ => none
  | f + 1, y2, y3 => if (I 119 7 : Int32) ≤ (y3 : Int32) then some y2 else (mLd I 126 6 y3).bind fun z0 => (mLd I 125 12 k1).bind fun z1 => (if (z0 : Int32) < (z1 : Int32) then some y2 else (mLd I 153 6 y3).bind fun z3 => some (y2 + z3) : Option (Int32)).bind fun z2 => l10_roomFor_4 I k1 f z2 (y3 + 1)
def r10_roomFor (I : mI) (x0 : Int32) : Option (Int32) := (l10_roomFor_4 I x0 FU 0 0).bind fun z0 => some z0
set_option maxHeartbeats 4000000 in
set_option maxRecDepth 100000 in
theorem t10_roomFor_4 (X : Nat × (Nat → Int32)) (Q : mQ) (s : Nat) (I : mI) (k1 : Int32) : ∀ (f : Nat) (y2 : Int32) (y3 : Int32) (z : Int32), l10_roomFor_4 I k1 f y2 y3 = some z → mV X m10_roomFor 0 0 0 42 [.ref 119, .int k1, .int z, mX0] [] NN KK I (PP s) Q → mV X m10_roomFor 0 0 0 4 [.ref 119, .int k1, .int y2, .int y3] [] NN KK I (PP s) Q := by
  intro f
  induction f with
  | zero => intro y2 y3 z hr hk; cases hr
  | succ f ih =>
    intro y2 y3 z hr hk
    unfold l10_roomFor_4 at hr
    refine mV_iload f10_roomFor_4 rfl ?_
    refine mV_aload f10_roomFor_5 rfl ?_
    refine mV_gI (I 119 7) f10_roomFor_6 (by decide) kk_119 rfl rfl ?_
    refine mV_icmp_ge f10_roomFor_9 (fun h0 => ?_) (fun h0 => ?_)
    · rw [if_pos h0] at hr
      have hr := Option.some.inj hr; subst hr
      refine mV_drop (L' := [.ref 119, .int k1, .int y2, mX0]) (mSub_k (mSub_k (mSub_k (mSub_x mSub_n)))) ?_
      exact hk
    · rw [if_neg h0] at hr
      refine mV_aload f10_roomFor_12 rfl ?_
      refine mV_getP f10_roomFor_13 (by decide) kk_119 rfl (pp_119_11 _) ?_
      refine mV_iload f10_roomFor_16 rfl ?_
      obtain ⟨z0, hz0, hr⟩ := mBind hr
      refine mV_ldO f10_roomFor_17 (by decide) kk_126 hz0 ?_
      refine mV_aload f10_roomFor_18 rfl ?_
      refine mV_getP f10_roomFor_19 (by decide) kk_119 rfl (pp_119_10 _) ?_
      refine mV_iload f10_roomFor_22 rfl ?_
      obtain ⟨z1, hz1, hr⟩ := mBind hr
      refine mV_ldO f10_roomFor_23 (by decide) kk_125 hz1 ?_
      obtain ⟨z2, hz2, hr⟩ := mBind hr
      have keyz2 : mV X m10_roomFor 0 0 0 36 [.ref 119, .int k1, .int z2, .int y3] [] NN KK I (PP s) Q := by
        refine mV_iinc (y := (y3 + 1)) (L' := [.ref 119, .int k1, .int z2, .int (y3 + 1)]) f10_roomFor_36 rfl rfl (by decide) rfl rfl ?_
        refine mV_goto f10_roomFor_39 ?_
        exact ih z2 (y3 + 1) _ hr hk
      clear hr
      have hr := hz2
      clear hz2
      refine mV_icmp_lt f10_roomFor_24 (fun h1 => ?_) (fun h1 => ?_)
      · rw [if_pos h1] at hr
        have hr := Option.some.inj hr; subst hr
        exact keyz2
      · rw [if_neg h1] at hr
        refine mV_iload f10_roomFor_27 rfl ?_
        refine mV_aload f10_roomFor_28 rfl ?_
        refine mV_getP f10_roomFor_29 (by decide) kk_119 rfl (pp_119_57 _) ?_
        refine mV_iload f10_roomFor_32 rfl ?_
        obtain ⟨z3, hz3, hr⟩ := mBind hr
        refine mV_ldO f10_roomFor_33 (by decide) kk_153 hz3 ?_
        refine mV_iadd f10_roomFor_34 ?_
        refine mV_istore (L' := [.ref 119, .int k1, .int (y2 + z3), .int y3]) f10_roomFor_35 (by decide) rfl rfl ?_
        have hr := Option.some.inj hr; subst hr
        exact keyz2
set_option maxHeartbeats 4000000 in
set_option maxRecDepth 100000 in
theorem w10_roomFor (X : Nat × (Nat → Int32)) (I : mI) (s : Nat) (x0 : Int32) (Q : mQ) {res : Int32} (hr : r10_roomFor I x0 = some res) (hQ : Q (some (.int res)) NN KK I (PP s)) : mV X m10_roomFor 0 0 0 0 [.ref 119, .int x0, mX0, mX0] [] NN KK I (PP s) Q := by
  unfold r10_roomFor at hr
  refine mV_push f10_roomFor_0 ?_
  refine mV_istore (L' := [.ref 119, .int x0, .int 0, mX0]) f10_roomFor_1 (by decide) rfl rfl ?_
  refine mV_push f10_roomFor_2 ?_
  refine mV_istore (L' := [.ref 119, .int x0, .int 0, .int 0]) f10_roomFor_3 (by decide) rfl rfl ?_
  obtain ⟨z0, hz0, hr⟩ := mBind hr
  refine t10_roomFor_4 X Q s I x0 FU 0 0 _ hz0 ?_
  refine mV_iload f10_roomFor_42 rfl ?_
  have hr := Option.some.inj hr; subst hr
  exact mV_iret rfl rfl f10_roomFor_43 hQ
theorem c10_roomFor (X : Nat × (Nat → Int32)) (I : mI) (s : Nat) (x0 : Int32) {res : Int32} (hr : r10_roomFor I x0 = some res) : mC X m10_roomFor 0 0 0 [.ref 119, .int x0] NN KK I (PP s) (mRet (some (.int res)) NN KK I (PP s)) :=
  mC_of (L0 := [.ref 119, .int x0, mX0, mX0]) rfl (Nat.le_of_ble_eq_true rfl) (w10_roomFor X I s x0 _ hr (mRet_ok _ _ _ _ _))
def l10_mostHad_12 (I : mI) (k3 : Int32) : Nat → Int32 → Int32 → Option (Int32)
  | 0, _, _ => none
  | f + 1, y2, y4 => if (I 119 6 : Int32) ≤ (y4 : Int32) then some y2 else (mLd I 125 12 y4).bind fun z0 => (if (z0 : Int32) = (k3 : Int32) then (r10_roomFor I y4).bind fun z2 => if (z2 : Int32) ≤ (y2 : Int32) then some y2 else some (y2 + 1) else some y2 : Option (Int32)).bind fun z1 => l10_mostHad_12 I k3 f z1 (y4 + 1)
def l10_mostHad_5 (I : mI) (k1 : Int32) : Nat → Int32 → Int32 → Option (Int32)
  | 0, _, _ => none
  | f + 1, y2, y3 => if (y3 : Int32) < (0 : Int32) then some y2 else (l10_mostHad_12 I y3 FU y2 k1).bind fun z0 => l10_mostHad_5 I k1 f z0 (y3 + (-1))
def r10_mostHad (I : mI) (x0 : Int32) : Option (Int32) := (l10_mostHad_5 I x0 FU 0 9).bind fun z0 => some z0
set_option maxHeartbeats 4000000 in
set_option maxRecDepth 100000 in
theorem t10_mostHad_12 (X : Nat × (Nat → Int32)) (Q : mQ) (s : Nat) (I : mI) (k1 : Int32) (k3 : Int32) : ∀ (f : Nat) (y2 : Int32) (y4 : Int32) (z : Int32), l10_mostHad_12 I k3 f y2 y4 = some z → mV X m10_mostHad 1 0 0 52 [.ref 119, .int k1, .int z, .int k3, mX0] [] NN KK I (PP s) Q → mV X m10_mostHad 1 0 0 12 [.ref 119, .int k1, .int y2, .int k3, .int y4] [] NN KK I (PP s) Q := by
  intro f
  induction f with
  | zero => intro y2 y4 z hr hk; cases hr
  | succ f ih =>
    intro y2 y4 z hr hk
    unfold l10_mostHad_12 at hr
    refine mV_iload f10_mostHad_12 rfl ?_
    refine mV_aload f10_mostHad_14 rfl ?_
    refine mV_gI (I 119 6) f10_mostHad_15 (by decide) kk_119 rfl rfl ?_
    refine mV_icmp_ge f10_mostHad_18 (fun h0 => ?_) (fun h0 => ?_)
    · rw [if_pos h0] at hr
      have hr := Option.some.inj hr; subst hr
      refine mV_drop (L' := [.ref 119, .int k1, .int y2, .int k3, mX0]) (mSub_k (mSub_k (mSub_k (mSub_k (mSub_x mSub_n))))) ?_
      exact hk
    · rw [if_neg h0] at hr
      refine mV_aload f10_mostHad_21 rfl ?_
      refine mV_getP f10_mostHad_22 (by decide) kk_119 rfl (pp_119_10 _) ?_
      refine mV_iload f10_mostHad_25 rfl ?_
      obtain ⟨z0, hz0, hr⟩ := mBind hr
      refine mV_ldO f10_mostHad_27 (by decide) kk_125 hz0 ?_
      refine mV_iload f10_mostHad_28 rfl ?_
      obtain ⟨z1, hz1, hr⟩ := mBind hr
      have keyz1 : mV X m10_mostHad 1 0 0 46 [.ref 119, .int k1, .int z1, .int k3, .int y4] [] NN KK I (PP s) Q := by
        refine mV_iinc (y := (y4 + 1)) (L' := [.ref 119, .int k1, .int z1, .int k3, .int (y4 + 1)]) f10_mostHad_46 rfl rfl (by decide) rfl rfl ?_
        refine mV_goto f10_mostHad_49 ?_
        exact ih z1 (y4 + 1) _ hr hk
      clear hr
      have hr := hz1
      clear hz1
      refine mV_icmp_ne f10_mostHad_29 (fun h1 => ?_) (fun h1 => ?_)
      · rw [if_neg h1] at hr
        have hr := Option.some.inj hr; subst hr
        exact keyz1
      · rw [if_pos h1] at hr
        refine mV_iload f10_mostHad_32 rfl ?_
        refine mV_aload f10_mostHad_33 rfl ?_
        refine mV_iload f10_mostHad_34 rfl ?_
        obtain ⟨z2, hz2, hr⟩ := mBind hr
        refine mV_cV f10_mostHad_36 tg_m10_roomFor mCls10 (by decide) kk_119 (mC_deep (c10_roomFor X I s y4 hz2) (by decide)) rfl rfl (Nat.le_of_ble_eq_true rfl) ?_
        refine mV_icmp_ge f10_mostHad_39 (fun h2 => ?_) (fun h2 => ?_)
        · rw [if_pos h2] at hr
          have hr := Option.some.inj hr; subst hr
          exact keyz1
        · rw [if_neg h2] at hr
          refine mV_iload f10_mostHad_42 rfl ?_
          refine mV_push f10_mostHad_43 ?_
          refine mV_iadd f10_mostHad_44 ?_
          refine mV_istore (L' := [.ref 119, .int k1, .int (y2 + 1), .int k3, .int y4]) f10_mostHad_45 (by decide) rfl rfl ?_
          have hr := Option.some.inj hr; subst hr
          exact keyz1
set_option maxHeartbeats 4000000 in
set_option maxRecDepth 100000 in
theorem t10_mostHad_5 (X : Nat × (Nat → Int32)) (Q : mQ) (s : Nat) (I : mI) (k1 : Int32) : ∀ (f : Nat) (y2 : Int32) (y3 : Int32) (z : Int32), l10_mostHad_5 I k1 f y2 y3 = some z → mV X m10_mostHad 1 0 0 58 [.ref 119, .int k1, .int z, mX0, mX0] [] NN KK I (PP s) Q → mV X m10_mostHad 1 0 0 5 [.ref 119, .int k1, .int y2, .int y3, mX0] [] NN KK I (PP s) Q := by
  intro f
  induction f with
  | zero => intro y2 y3 z hr hk; cases hr
  | succ f ih =>
    intro y2 y3 z hr hk
    unfold l10_mostHad_5 at hr
    refine mV_iload f10_mostHad_5 rfl ?_
    refine mV_if_lt f10_mostHad_6 (fun h0 => ?_) (fun h0 => ?_)
    · rw [if_pos h0] at hr
      have hr := Option.some.inj hr; subst hr
      refine mV_drop (L' := [.ref 119, .int k1, .int y2, mX0, mX0]) (mSub_k (mSub_k (mSub_k (mSub_x (mSub_x mSub_n))))) ?_
      exact hk
    · rw [if_neg h0] at hr
      refine mV_iload f10_mostHad_9 rfl ?_
      refine mV_istore (L' := [.ref 119, .int k1, .int y2, .int y3, .int k1]) f10_mostHad_10 (by decide) rfl rfl ?_
      obtain ⟨z0, hz0, hr⟩ := mBind hr
      refine t10_mostHad_12 X Q s I k1 y3 FU y2 k1 _ hz0 ?_
      refine mV_iinc (y := (y3 + (-1))) (L' := [.ref 119, .int k1, .int z0, .int (y3 + (-1)), mX0]) f10_mostHad_52 rfl rfl (by decide) rfl rfl ?_
      refine mV_goto f10_mostHad_55 ?_
      exact ih z0 (y3 + (-1)) _ hr hk
set_option maxHeartbeats 4000000 in
set_option maxRecDepth 100000 in
theorem w10_mostHad (X : Nat × (Nat → Int32)) (I : mI) (s : Nat) (x0 : Int32) (Q : mQ) {res : Int32} (hr : r10_mostHad I x0 = some res) (hQ : Q (some (.int res)) NN KK I (PP s)) : mV X m10_mostHad 1 0 0 0 [.ref 119, .int x0, mX0, mX0, mX0] [] NN KK I (PP s) Q := by
  unfold r10_mostHad at hr
  refine mV_push f10_mostHad_0 ?_
  refine mV_istore (L' := [.ref 119, .int x0, .int 0, mX0, mX0]) f10_mostHad_1 (by decide) rfl rfl ?_
  refine mV_push f10_mostHad_2 ?_
  refine mV_istore (L' := [.ref 119, .int x0, .int 0, .int 9, mX0]) f10_mostHad_4 (by decide) rfl rfl ?_
  obtain ⟨z0, hz0, hr⟩ := mBind hr
  refine t10_mostHad_5 X Q s I x0 FU 0 9 _ hz0 ?_
  refine mV_iload f10_mostHad_58 rfl ?_
  have hr := Option.some.inj hr; subst hr
  exact mV_iret rfl rfl f10_mostHad_59 hQ
theorem c10_mostHad (X : Nat × (Nat → Int32)) (I : mI) (s : Nat) (x0 : Int32) {res : Int32} (hr : r10_mostHad I x0 = some res) : mC X m10_mostHad 1 0 0 [.ref 119, .int x0] NN KK I (PP s) (mRet (some (.int res)) NN KK I (PP s)) :=
  mC_of (L0 := [.ref 119, .int x0, mX0, mX0, mX0]) rfl (Nat.le_of_ble_eq_true rfl) (w10_mostHad X I s x0 _ hr (mRet_ok _ _ _ _ _))
def l10_playerFor_2 (k1 : Int32) (k2 : Int32) : Nat → Int32 → mI → Option ((Int32 × mI) ⊕ (mI))
  | 0, _, _ => none
  | f + 1, y3, I => if (I 119 7 : Int32) ≤ (y3 : Int32) then some (.inr I) else (mLd I 126 6 y3).bind fun z0 => (mLd I 125 12 k1).bind fun z1 => if (z0 : Int32) < (z1 : Int32) then l10_playerFor_2 k1 k2 f (y3 + 1) I else (mLd I 153 6 y3).bind fun z2 => if (z2 : Int32) = (0 : Int32) then l10_playerFor_2 k1 k2 f (y3 + 1) I else (mLd I 153 6 y3).bind fun z3 => (mSto I 153 6 y3 (z3 - 1)).bind fun z4 => (r10_mostHad z4 (k1 + 1)).bind fun z5 => if (z5 : Int32) = ((k2 - 1) : Int32) then some (.inl (y3, z4)) else (mLd z4 153 6 y3).bind fun z6 => (mSto z4 153 6 y3 (z6 + 1)).bind fun z7 => l10_playerFor_2 k1 k2 f (y3 + 1) z7
def r10_playerFor (I : mI) (x0 : Int32) (x1 : Int32) : Option (Int32 × mI) := (l10_playerFor_2 x0 x1 FU 0 I).bind fun z0 => match z0 with | .inl rz0 => some rz0 | .inr wz0 => some ((-1), wz0)
set_option maxHeartbeats 4000000 in
set_option maxRecDepth 100000 in
theorem t10_playerFor_2 (X : Nat × (Nat → Int32)) (Q : mQ) (s : Nat) (k1 : Int32) (k2 : Int32) : ∀ (f : Nat) (y3 : Int32) (I : mI) (z : (Int32 × mI) ⊕ (mI)), l10_playerFor_2 k1 k2 f y3 I = some z → (∀ res, z = .inl res → Q (some (.int res.1)) NN KK res.2 (PP s)) → (∀ w, z = .inr w → mV X m10_playerFor 2 0 0 86 [.ref 119, .int k1, .int k2, mX0] [] NN KK w (PP s) Q) → mV X m10_playerFor 2 0 0 2 [.ref 119, .int k1, .int k2, .int y3] [] NN KK I (PP s) Q := by
  intro f
  induction f with
  | zero => intro y3 I z hr hret hk; cases hr
  | succ f ih =>
    intro y3 I z hr hret hk
    unfold l10_playerFor_2 at hr
    refine mV_iload f10_playerFor_2 rfl ?_
    refine mV_aload f10_playerFor_3 rfl ?_
    refine mV_gI (I 119 7) f10_playerFor_4 (by decide) kk_119 rfl rfl ?_
    refine mV_icmp_ge f10_playerFor_7 (fun h0 => ?_) (fun h0 => ?_)
    · rw [if_pos h0] at hr
      have hr := Option.some.inj hr; subst hr
      refine mV_drop (L' := [.ref 119, .int k1, .int k2, mX0]) (mSub_k (mSub_k (mSub_k (mSub_x mSub_n)))) ?_
      exact hk _ rfl
    · rw [if_neg h0] at hr
      refine mV_aload f10_playerFor_10 rfl ?_
      refine mV_getP f10_playerFor_11 (by decide) kk_119 rfl (pp_119_11 _) ?_
      refine mV_iload f10_playerFor_14 rfl ?_
      obtain ⟨z0, hz0, hr⟩ := mBind hr
      refine mV_ldO f10_playerFor_15 (by decide) kk_126 hz0 ?_
      refine mV_aload f10_playerFor_16 rfl ?_
      refine mV_getP f10_playerFor_17 (by decide) kk_119 rfl (pp_119_10 _) ?_
      refine mV_iload f10_playerFor_20 rfl ?_
      obtain ⟨z1, hz1, hr⟩ := mBind hr
      refine mV_ldO f10_playerFor_21 (by decide) kk_125 hz1 ?_
      refine mV_icmp_lt f10_playerFor_22 (fun h1 => ?_) (fun h1 => ?_)
      · rw [if_pos h1] at hr
        refine mV_iinc (y := (y3 + 1)) (L' := [.ref 119, .int k1, .int k2, .int (y3 + 1)]) f10_playerFor_80 rfl rfl (by decide) rfl rfl ?_
        refine mV_goto f10_playerFor_83 ?_
        exact ih (y3 + 1) I _ hr hret hk
      · rw [if_neg h1] at hr
        refine mV_aload f10_playerFor_25 rfl ?_
        refine mV_getP f10_playerFor_26 (by decide) kk_119 rfl (pp_119_57 _) ?_
        refine mV_iload f10_playerFor_29 rfl ?_
        obtain ⟨z2, hz2, hr⟩ := mBind hr
        refine mV_ldO f10_playerFor_30 (by decide) kk_153 hz2 ?_
        refine mV_if_ne f10_playerFor_31 (fun h2 => ?_) (fun h2 => ?_)
        · rw [if_neg h2] at hr
          refine mV_aload f10_playerFor_37 rfl ?_
          refine mV_getP f10_playerFor_38 (by decide) kk_119 rfl (pp_119_57 _) ?_
          refine mV_iload f10_playerFor_41 rfl ?_
          refine mV_aload f10_playerFor_42 rfl ?_
          refine mV_getP f10_playerFor_43 (by decide) kk_119 rfl (pp_119_57 _) ?_
          refine mV_iload f10_playerFor_46 rfl ?_
          obtain ⟨z3, hz3, hr⟩ := mBind hr
          refine mV_ldO f10_playerFor_47 (by decide) kk_153 hz3 ?_
          refine mV_push f10_playerFor_48 ?_
          refine mV_isub f10_playerFor_49 ?_
          obtain ⟨z4, hz4, hr⟩ := mBind hr
          refine mV_stO f10_playerFor_50 (by decide) kk_153 hz4 ?_
          refine mV_aload f10_playerFor_51 rfl ?_
          refine mV_iload f10_playerFor_52 rfl ?_
          refine mV_push f10_playerFor_53 ?_
          refine mV_iadd f10_playerFor_54 ?_
          obtain ⟨z5, hz5, hr⟩ := mBind hr
          refine mV_cV f10_playerFor_55 tg_m10_mostHad mCls10 (by decide) kk_119 (mC_deep (c10_mostHad X z4 s (k1 + 1) hz5) (by decide)) rfl rfl (Nat.le_of_ble_eq_true rfl) ?_
          refine mV_iload f10_playerFor_58 rfl ?_
          refine mV_push f10_playerFor_59 ?_
          refine mV_isub f10_playerFor_60 ?_
          refine mV_icmp_ne f10_playerFor_61 (fun h3 => ?_) (fun h3 => ?_)
          · rw [if_neg h3] at hr
            refine mV_aload f10_playerFor_66 rfl ?_
            refine mV_getP f10_playerFor_67 (by decide) kk_119 rfl (pp_119_57 _) ?_
            refine mV_iload f10_playerFor_70 rfl ?_
            refine mV_aload f10_playerFor_71 rfl ?_
            refine mV_getP f10_playerFor_72 (by decide) kk_119 rfl (pp_119_57 _) ?_
            refine mV_iload f10_playerFor_75 rfl ?_
            obtain ⟨z6, hz6, hr⟩ := mBind hr
            refine mV_ldO f10_playerFor_76 (by decide) kk_153 hz6 ?_
            refine mV_push f10_playerFor_77 ?_
            refine mV_iadd f10_playerFor_78 ?_
            obtain ⟨z7, hz7, hr⟩ := mBind hr
            refine mV_stO f10_playerFor_79 (by decide) kk_153 hz7 ?_
            refine mV_iinc (y := (y3 + 1)) (L' := [.ref 119, .int k1, .int k2, .int (y3 + 1)]) f10_playerFor_80 rfl rfl (by decide) rfl rfl ?_
            refine mV_goto f10_playerFor_83 ?_
            exact ih (y3 + 1) z7 _ hr hret hk
          · rw [if_pos h3] at hr
            refine mV_iload f10_playerFor_64 rfl ?_
            have hr := Option.some.inj hr; subst hr; have hQ := hret _ rfl
            exact mV_iret rfl rfl f10_playerFor_65 hQ
        · rw [if_pos h2] at hr
          refine mV_goto f10_playerFor_34 ?_
          refine mV_iinc (y := (y3 + 1)) (L' := [.ref 119, .int k1, .int k2, .int (y3 + 1)]) f10_playerFor_80 rfl rfl (by decide) rfl rfl ?_
          refine mV_goto f10_playerFor_83 ?_
          exact ih (y3 + 1) I _ hr hret hk
set_option maxHeartbeats 4000000 in
set_option maxRecDepth 100000 in
theorem w10_playerFor (X : Nat × (Nat → Int32)) (I : mI) (s : Nat) (x0 : Int32) (x1 : Int32) (Q : mQ) {res : Int32 × mI} (hr : r10_playerFor I x0 x1 = some res) (hQ : Q (some (.int res.1)) NN KK res.2 (PP s)) : mV X m10_playerFor 2 0 0 0 [.ref 119, .int x0, .int x1, mX0] [] NN KK I (PP s) Q := by
  unfold r10_playerFor at hr
  refine mV_push f10_playerFor_0 ?_
  refine mV_istore (L' := [.ref 119, .int x0, .int x1, .int 0]) f10_playerFor_1 (by decide) rfl rfl ?_
  obtain ⟨z0, hz0, hr⟩ := mBind hr
  refine t10_playerFor_2 X Q s x0 x1 FU 0 I _ hz0 (fun res ez0 => ?_) (fun wz0 ez0 => ?_)
  · rw [ez0] at hr; have hr := Option.some.inj hr; subst hr; exact hQ
  rw [ez0] at hr
  dsimp only at hr
  refine mV_push f10_playerFor_86 ?_
  have hr := Option.some.inj hr; subst hr
  exact mV_iret rfl rfl f10_playerFor_87 hQ
theorem c10_playerFor (X : Nat × (Nat → Int32)) (I : mI) (s : Nat) (x0 : Int32) (x1 : Int32) {res : Int32 × mI} (hr : r10_playerFor I x0 x1 = some res) : mC X m10_playerFor 2 0 0 [.ref 119, .int x0, .int x1] NN KK I (PP s) (mRet (some (.int res.1)) NN KK res.2 (PP s)) :=
  mC_of (L0 := [.ref 119, .int x0, .int x1, mX0]) rfl (Nat.le_of_ble_eq_true rfl) (w10_playerFor X I s x0 x1 _ hr (mRet_ok _ _ _ _ _))
def l10_have_41 (k1 : Int32) : Nat → Int32 → mI → Option (mI)
  | 0, _, _ => none
  | f + 1, y3, I => if (6 : Int32) ≤ (y3 : Int32) then some I else (mSto I 153 6 y3 k1).bind fun z0 => l10_have_41 k1 f (y3 + 1) z0
def l10_have_78 (k2 : Int32) : Nat → Int32 → Int32 → Int32 → mI → Option (Int32 × mI)
  | 0, _, _, _, _ => none
  | f + 1, y3, y4, y5, I => if ((k2 - 10) : Int32) < (y5 : Int32) then some (y4, I) else (r10_playerFor I y5 y3).bind fun z0 => (if (z0.1 : Int32) = ((-1) : Int32) then some y3 else some (y3 - 1) : Option (Int32)).bind fun z1 => l10_have_78 k2 f z1 z0.1 (y5 + 1) z0.2
def r10_have (I : mI) (x0 : Int32) (x1 : Int32) : Option (Int32 × mI) := if ((r10_isIn x0 1 12) : Int32) = (0 : Int32) then some ((-1), (mW I 119 0 0)) else if (x1 : Int32) = (0 : Int32) then (l10_have_41 x0 FU 0 (mW I 119 0 0)).bind fun z0 => (r10_mostHad z0 0).bind fun z1 => if (x1 : Int32) = (0 : Int32) then some (z1, z0) else (l10_have_78 x1 FU z1 (-1) 0 z0).bind fun z2 => some (z2.1, z2.2) else if ((r10_isIn x1 10 (9 + I 119 6)) : Int32) = (0 : Int32) then some ((-1), (mW I 119 0 0)) else (l10_have_41 x0 FU 0 (mW I 119 0 0)).bind fun z3 => (r10_mostHad z3 0).bind fun z4 => if (x1 : Int32) = (0 : Int32) then some (z4, z3) else (l10_have_78 x1 FU z4 (-1) 0 z3).bind fun z5 => some (z5.1, z5.2)
set_option maxHeartbeats 4000000 in
set_option maxRecDepth 100000 in
theorem t10_have_41 (X : Nat × (Nat → Int32)) (Q : mQ) (s : Nat) (k1 : Int32) (k2 : Int32) : ∀ (f : Nat) (y3 : Int32) (I : mI) (z : mI), l10_have_41 k1 f y3 I = some z → mV X m10_have 3 0 0 60 [.ref 119, .int k1, .int k2, mX0, mX0, mX0] [] NN KK z (PP s) Q → mV X m10_have 3 0 0 41 [.ref 119, .int k1, .int k2, .int y3, mX0, mX0] [] NN KK I (PP s) Q := by
  intro f
  induction f with
  | zero => intro y3 I z hr hk; cases hr
  | succ f ih =>
    intro y3 I z hr hk
    unfold l10_have_41 at hr
    refine mV_iload f10_have_41 rfl ?_
    refine mV_push f10_have_42 ?_
    refine mV_icmp_ge f10_have_44 (fun h0 => ?_) (fun h0 => ?_)
    · rw [if_pos h0] at hr
      have hr := Option.some.inj hr; subst hr
      refine mV_drop (L' := [.ref 119, .int k1, .int k2, mX0, mX0, mX0]) (mSub_k (mSub_k (mSub_k (mSub_x (mSub_x (mSub_x mSub_n)))))) ?_
      exact hk
    · rw [if_neg h0] at hr
      refine mV_aload f10_have_47 rfl ?_
      refine mV_getP f10_have_48 (by decide) kk_119 rfl (pp_119_57 _) ?_
      refine mV_iload f10_have_51 rfl ?_
      refine mV_iload f10_have_52 rfl ?_
      obtain ⟨z0, hz0, hr⟩ := mBind hr
      refine mV_stO f10_have_53 (by decide) kk_153 hz0 ?_
      refine mV_iinc (y := (y3 + 1)) (L' := [.ref 119, .int k1, .int k2, .int (y3 + 1), mX0, mX0]) f10_have_54 rfl rfl (by decide) rfl rfl ?_
      refine mV_goto f10_have_57 ?_
      exact ih (y3 + 1) z0 _ hr hk
set_option maxHeartbeats 4000000 in
set_option maxRecDepth 100000 in
theorem t10_have_78 (X : Nat × (Nat → Int32)) (Q : mQ) (s : Nat) (k2 : Int32) : ∀ (f : Nat) (y3 : Int32) (y4 : Int32) (y5 : Int32) (I : mI) (z : Int32 × mI), l10_have_78 k2 f y3 y4 y5 I = some z → mV X m10_have 3 0 0 112 [.ref 119, mX0, .int k2, mX0, .int z.1, mX0] [] NN KK z.2 (PP s) Q → mV X m10_have 3 0 0 78 [.ref 119, mX0, .int k2, .int y3, .int y4, .int y5] [] NN KK I (PP s) Q := by
  intro f
  induction f with
  | zero => intro y3 y4 y5 I z hr hk; cases hr
  | succ f ih =>
    intro y3 y4 y5 I z hr hk
    unfold l10_have_78 at hr
    refine mV_iload f10_have_78 rfl ?_
    refine mV_iload f10_have_80 rfl ?_
    refine mV_push f10_have_81 ?_
    refine mV_isub f10_have_83 ?_
    refine mV_icmp_gt f10_have_84 (fun h0 => ?_) (fun h0 => ?_)
    · rw [if_pos h0] at hr
      have hr := Option.some.inj hr; subst hr
      refine mV_drop (L' := [.ref 119, mX0, .int k2, mX0, .int y4, mX0]) (mSub_k (mSub_x (mSub_k (mSub_x (mSub_k (mSub_x mSub_n)))))) ?_
      exact hk
    · rw [if_neg h0] at hr
      refine mV_aload f10_have_87 rfl ?_
      refine mV_iload f10_have_88 rfl ?_
      refine mV_iload f10_have_90 rfl ?_
      obtain ⟨z0, hz0, hr⟩ := mBind hr
      refine mV_cV f10_have_91 tg_m10_playerFor mCls10 (by decide) kk_119 (mC_deep (c10_playerFor X I s y5 y3 hz0) (by decide)) rfl rfl (Nat.le_of_ble_eq_true rfl) ?_
      refine mV_istore (L' := [.ref 119, mX0, .int k2, .int y3, .int z0.1, .int y5]) f10_have_94 (by decide) rfl rfl ?_
      refine mV_iload f10_have_96 rfl ?_
      refine mV_push f10_have_98 ?_
      obtain ⟨z1, hz1, hr⟩ := mBind hr
      have keyz1 : mV X m10_have 3 0 0 106 [.ref 119, mX0, .int k2, .int z1, .int z0.1, .int y5] [] NN KK z0.2 (PP s) Q := by
        refine mV_iinc (y := (y5 + 1)) (L' := [.ref 119, mX0, .int k2, .int z1, .int z0.1, .int (y5 + 1)]) f10_have_106 rfl rfl (by decide) rfl rfl ?_
        refine mV_goto f10_have_109 ?_
        exact ih z1 z0.1 (y5 + 1) z0.2 _ hr hk
      clear hr
      have hr := hz1
      clear hz1
      refine mV_icmp_eq f10_have_99 (fun h1 => ?_) (fun h1 => ?_)
      · rw [if_pos h1] at hr
        have hr := Option.some.inj hr; subst hr
        exact keyz1
      · rw [if_neg h1] at hr
        refine mV_iload f10_have_102 rfl ?_
        refine mV_push f10_have_103 ?_
        refine mV_isub f10_have_104 ?_
        refine mV_istore (L' := [.ref 119, mX0, .int k2, .int (y3 - 1), .int z0.1, .int y5]) f10_have_105 (by decide) rfl rfl ?_
        have hr := Option.some.inj hr; subst hr
        exact keyz1
set_option maxHeartbeats 4000000 in
set_option maxRecDepth 100000 in
theorem w10_have (X : Nat × (Nat → Int32)) (I : mI) (s : Nat) (x0 : Int32) (x1 : Int32) (Q : mQ) {res : Int32 × mI} (hr : r10_have I x0 x1 = some res) (hQ : Q (some (.int res.1)) NN KK res.2 (PP s)) : mV X m10_have 3 0 0 0 [.ref 119, .int x0, .int x1, mX0, mX0, mX0] [] NN KK I (PP s) Q := by
  unfold r10_have at hr
  refine mV_aload f10_have_0 rfl ?_
  refine mV_push f10_have_1 ?_
  refine mV_putI f10_have_2 (by decide) kk_119 rfl rfl ?_
  refine mV_aload f10_have_5 rfl ?_
  refine mV_iload f10_have_6 rfl ?_
  refine mV_push f10_have_7 ?_
  refine mV_push f10_have_8 ?_
  refine mV_cV f10_have_10 tg_m10_isIn mCls10 (by decide) kk_119 (mC_deep (c10_isIn X (mW I 119 0 0) s x0 1 12 rfl) (by decide)) rfl rfl (Nat.le_of_ble_eq_true rfl) ?_
  refine mV_if_eq f10_have_13 (fun h0 => ?_) (fun h0 => ?_)
  · rw [if_pos h0] at hr
    refine mV_push f10_have_37 ?_
    have hr := Option.some.inj hr; subst hr
    exact mV_iret rfl rfl f10_have_38 hQ
  · rw [if_neg h0] at hr
    refine mV_iload f10_have_16 rfl ?_
    refine mV_if_eq f10_have_17 (fun h1 => ?_) (fun h1 => ?_)
    · rw [if_pos h1] at hr
      refine mV_push f10_have_39 ?_
      refine mV_istore (L' := [.ref 119, .int x0, .int x1, .int 0, mX0, mX0]) f10_have_40 (by decide) rfl rfl ?_
      obtain ⟨z0, hz0, hr⟩ := mBind hr
      refine t10_have_41 X Q s x0 x1 FU 0 (mW I 119 0 0) _ hz0 ?_
      refine mV_aload f10_have_60 rfl ?_
      refine mV_push f10_have_61 ?_
      obtain ⟨z1, hz1, hr⟩ := mBind hr
      refine mV_cV f10_have_62 tg_m10_mostHad mCls10 (by decide) kk_119 (mC_deep (c10_mostHad X z0 s 0 hz1) (by decide)) rfl rfl (Nat.le_of_ble_eq_true rfl) ?_
      refine mV_istore (L' := [.ref 119, .int x0, .int x1, .int z1, mX0, mX0]) f10_have_65 (by decide) rfl rfl ?_
      refine mV_iload f10_have_66 rfl ?_
      refine mV_if_ne f10_have_67 (fun h2 => ?_) (fun h2 => ?_)
      · rw [if_neg h2] at hr
        refine mV_push f10_have_72 ?_
        refine mV_istore (L' := [.ref 119, .int x0, .int x1, .int z1, .int (-1), mX0]) f10_have_73 (by decide) rfl rfl ?_
        refine mV_push f10_have_75 ?_
        refine mV_istore (L' := [.ref 119, .int x0, .int x1, .int z1, .int (-1), .int 0]) f10_have_76 (by decide) rfl rfl ?_
        obtain ⟨z2, hz2, hr⟩ := mBind hr
        refine mV_drop (L' := [.ref 119, mX0, .int x1, .int z1, .int (-1), .int 0]) (mSub_k (mSub_x (mSub_k (mSub_k (mSub_k (mSub_k mSub_n)))))) ?_
        refine t10_have_78 X Q s x1 FU z1 (-1) 0 z0 _ hz2 ?_
        refine mV_iload f10_have_112 rfl ?_
        have hr := Option.some.inj hr; subst hr
        exact mV_iret rfl rfl f10_have_114 hQ
      · rw [if_pos h2] at hr
        refine mV_iload f10_have_70 rfl ?_
        have hr := Option.some.inj hr; subst hr
        exact mV_iret rfl rfl f10_have_71 hQ
    · rw [if_neg h1] at hr
      refine mV_aload f10_have_20 rfl ?_
      refine mV_iload f10_have_21 rfl ?_
      refine mV_push f10_have_22 ?_
      refine mV_push f10_have_24 ?_
      refine mV_aload f10_have_26 rfl ?_
      refine mV_gI (I 119 6) f10_have_27 (by decide) kk_119 rfl rfl ?_
      refine mV_iadd f10_have_30 ?_
      refine mV_cV f10_have_31 tg_m10_isIn mCls10 (by decide) kk_119 (mC_deep (c10_isIn X (mW I 119 0 0) s x1 10 (9 + I 119 6) rfl) (by decide)) rfl rfl (Nat.le_of_ble_eq_true rfl) ?_
      refine mV_if_ne f10_have_34 (fun h3 => ?_) (fun h3 => ?_)
      · rw [if_neg h3] at hr
        refine mV_push f10_have_39 ?_
        refine mV_istore (L' := [.ref 119, .int x0, .int x1, .int 0, mX0, mX0]) f10_have_40 (by decide) rfl rfl ?_
        obtain ⟨z3, hz3, hr⟩ := mBind hr
        refine t10_have_41 X Q s x0 x1 FU 0 (mW I 119 0 0) _ hz3 ?_
        refine mV_aload f10_have_60 rfl ?_
        refine mV_push f10_have_61 ?_
        obtain ⟨z4, hz4, hr⟩ := mBind hr
        refine mV_cV f10_have_62 tg_m10_mostHad mCls10 (by decide) kk_119 (mC_deep (c10_mostHad X z3 s 0 hz4) (by decide)) rfl rfl (Nat.le_of_ble_eq_true rfl) ?_
        refine mV_istore (L' := [.ref 119, .int x0, .int x1, .int z4, mX0, mX0]) f10_have_65 (by decide) rfl rfl ?_
        refine mV_iload f10_have_66 rfl ?_
        refine mV_if_ne f10_have_67 (fun h4 => ?_) (fun h4 => ?_)
        · rw [if_neg h4] at hr
          refine mV_push f10_have_72 ?_
          refine mV_istore (L' := [.ref 119, .int x0, .int x1, .int z4, .int (-1), mX0]) f10_have_73 (by decide) rfl rfl ?_
          refine mV_push f10_have_75 ?_
          refine mV_istore (L' := [.ref 119, .int x0, .int x1, .int z4, .int (-1), .int 0]) f10_have_76 (by decide) rfl rfl ?_
          obtain ⟨z5, hz5, hr⟩ := mBind hr
          refine mV_drop (L' := [.ref 119, mX0, .int x1, .int z4, .int (-1), .int 0]) (mSub_k (mSub_x (mSub_k (mSub_k (mSub_k (mSub_k mSub_n)))))) ?_
          refine t10_have_78 X Q s x1 FU z4 (-1) 0 z3 _ hz5 ?_
          refine mV_iload f10_have_112 rfl ?_
          have hr := Option.some.inj hr; subst hr
          exact mV_iret rfl rfl f10_have_114 hQ
        · rw [if_pos h4] at hr
          refine mV_iload f10_have_70 rfl ?_
          have hr := Option.some.inj hr; subst hr
          exact mV_iret rfl rfl f10_have_71 hQ
      · rw [if_pos h3] at hr
        refine mV_push f10_have_37 ?_
        have hr := Option.some.inj hr; subst hr
        exact mV_iret rfl rfl f10_have_38 hQ
theorem c10_have (X : Nat × (Nat → Int32)) (I : mI) (s : Nat) (x0 : Int32) (x1 : Int32) {res : Int32 × mI} (hr : r10_have I x0 x1 = some res) : mC X m10_have 3 0 0 [.ref 119, .int x0, .int x1] NN KK I (PP s) (mRet (some (.int res.1)) NN KK res.2 (PP s)) :=
  mC_of (L0 := [.ref 119, .int x0, .int x1, mX0, mX0, mX0]) rfl (Nat.le_of_ble_eq_true rfl) (w10_have X I s x0 x1 _ hr (mRet_ok _ _ _ _ _))
def l10_groupOf_15 (I : mI) : Nat → Int32 → Int32 → Option (Int32)
  | 0, _, _ => none
  | f + 1, y2, y4 => if (I 119 6 : Int32) ≤ (y4 : Int32) then some y2 else (if ((r10_has y2 y4) : Int32) = (0 : Int32) then some y2 else (mLd I 141 24 y4).bind fun z1 => some (y2 ||| z1) : Option (Int32)).bind fun z0 => l10_groupOf_15 I f z0 (y4 + 1)
def l10_groupOf_6 (I : mI) : Nat → Int32 → Int32 → Option (Int32)
  | 0, _, _ => none
  | f + 1, y2, y3 => if (12 : Int32) ≤ (y3 : Int32) then some y2 else (l10_groupOf_15 I FU y2 0).bind fun z0 => l10_groupOf_6 I f z0 (y3 + 1)
def r10_groupOf (I : mI) (x0 : Int32) : Option (Int32) := (l10_groupOf_6 I FU ((1 : Int32) <<< (x0 &&& 31)) 0).bind fun z0 => some z0
set_option maxHeartbeats 4000000 in
set_option maxRecDepth 100000 in
theorem t10_groupOf_15 (X : Nat × (Nat → Int32)) (Q : mQ) (s : Nat) (I : mI) (k3 : Int32) : ∀ (f : Nat) (y2 : Int32) (y4 : Int32) (z : Int32), l10_groupOf_15 I f y2 y4 = some z → mV X m10_groupOf 1 0 0 50 [.ref 119, mX0, .int z, .int k3, mX0] [] NN KK I (PP s) Q → mV X m10_groupOf 1 0 0 15 [.ref 119, mX0, .int y2, .int k3, .int y4] [] NN KK I (PP s) Q := by
  intro f
  induction f with
  | zero => intro y2 y4 z hr hk; cases hr
  | succ f ih =>
    intro y2 y4 z hr hk
    unfold l10_groupOf_15 at hr
    refine mV_iload f10_groupOf_15 rfl ?_
    refine mV_aload f10_groupOf_17 rfl ?_
    refine mV_gI (I 119 6) f10_groupOf_18 (by decide) kk_119 rfl rfl ?_
    refine mV_icmp_ge f10_groupOf_21 (fun h0 => ?_) (fun h0 => ?_)
    · rw [if_pos h0] at hr
      have hr := Option.some.inj hr; subst hr
      refine mV_drop (L' := [.ref 119, mX0, .int y2, .int k3, mX0]) (mSub_k (mSub_x (mSub_k (mSub_k (mSub_x mSub_n))))) ?_
      exact hk
    · rw [if_neg h0] at hr
      refine mV_aload f10_groupOf_24 rfl ?_
      refine mV_iload f10_groupOf_25 rfl ?_
      refine mV_iload f10_groupOf_26 rfl ?_
      refine mV_cV f10_groupOf_28 tg_m10_has mCls10 (by decide) kk_119 (mC_deep (c10_has X I s y2 y4 rfl) (by decide)) rfl rfl (Nat.le_of_ble_eq_true rfl) ?_
      obtain ⟨z0, hz0, hr⟩ := mBind hr
      have keyz0 : mV X m10_groupOf 1 0 0 44 [.ref 119, mX0, .int z0, .int k3, .int y4] [] NN KK I (PP s) Q := by
        refine mV_iinc (y := (y4 + 1)) (L' := [.ref 119, mX0, .int z0, .int k3, .int (y4 + 1)]) f10_groupOf_44 rfl rfl (by decide) rfl rfl ?_
        refine mV_goto f10_groupOf_47 ?_
        exact ih z0 (y4 + 1) _ hr hk
      clear hr
      have hr := hz0
      clear hz0
      refine mV_if_eq f10_groupOf_31 (fun h1 => ?_) (fun h1 => ?_)
      · rw [if_pos h1] at hr
        have hr := Option.some.inj hr; subst hr
        exact keyz0
      · rw [if_neg h1] at hr
        refine mV_iload f10_groupOf_34 rfl ?_
        refine mV_aload f10_groupOf_35 rfl ?_
        refine mV_getP f10_groupOf_36 (by decide) kk_119 rfl (pp_119_42 _) ?_
        refine mV_iload f10_groupOf_39 rfl ?_
        obtain ⟨z1, hz1, hr⟩ := mBind hr
        refine mV_ldO f10_groupOf_41 (by decide) kk_141 hz1 ?_
        refine mV_ior f10_groupOf_42 ?_
        refine mV_istore (L' := [.ref 119, mX0, .int (y2 ||| z1), .int k3, .int y4]) f10_groupOf_43 (by decide) rfl rfl ?_
        have hr := Option.some.inj hr; subst hr
        exact keyz0
set_option maxHeartbeats 4000000 in
set_option maxRecDepth 100000 in
theorem t10_groupOf_6 (X : Nat × (Nat → Int32)) (Q : mQ) (s : Nat) (I : mI) : ∀ (f : Nat) (y2 : Int32) (y3 : Int32) (z : Int32), l10_groupOf_6 I f y2 y3 = some z → mV X m10_groupOf 1 0 0 56 [.ref 119, mX0, .int z, mX0, mX0] [] NN KK I (PP s) Q → mV X m10_groupOf 1 0 0 6 [.ref 119, mX0, .int y2, .int y3, mX0] [] NN KK I (PP s) Q := by
  intro f
  induction f with
  | zero => intro y2 y3 z hr hk; cases hr
  | succ f ih =>
    intro y2 y3 z hr hk
    unfold l10_groupOf_6 at hr
    refine mV_iload f10_groupOf_6 rfl ?_
    refine mV_push f10_groupOf_7 ?_
    refine mV_icmp_ge f10_groupOf_9 (fun h0 => ?_) (fun h0 => ?_)
    · rw [if_pos h0] at hr
      have hr := Option.some.inj hr; subst hr
      refine mV_drop (L' := [.ref 119, mX0, .int y2, mX0, mX0]) (mSub_k (mSub_x (mSub_k (mSub_x (mSub_x mSub_n))))) ?_
      exact hk
    · rw [if_neg h0] at hr
      refine mV_push f10_groupOf_12 ?_
      refine mV_istore (L' := [.ref 119, mX0, .int y2, .int y3, .int 0]) f10_groupOf_13 (by decide) rfl rfl ?_
      obtain ⟨z0, hz0, hr⟩ := mBind hr
      refine t10_groupOf_15 X Q s I y3 FU y2 0 _ hz0 ?_
      refine mV_iinc (y := (y3 + 1)) (L' := [.ref 119, mX0, .int z0, .int (y3 + 1), mX0]) f10_groupOf_50 rfl rfl (by decide) rfl rfl ?_
      refine mV_goto f10_groupOf_53 ?_
      exact ih z0 (y3 + 1) _ hr hk
set_option maxHeartbeats 4000000 in
set_option maxRecDepth 100000 in
theorem w10_groupOf (X : Nat × (Nat → Int32)) (I : mI) (s : Nat) (x0 : Int32) (Q : mQ) {res : Int32} (hr : r10_groupOf I x0 = some res) (hQ : Q (some (.int res)) NN KK I (PP s)) : mV X m10_groupOf 1 0 0 0 [.ref 119, .int x0, mX0, mX0, mX0] [] NN KK I (PP s) Q := by
  unfold r10_groupOf at hr
  refine mV_push f10_groupOf_0 ?_
  refine mV_iload f10_groupOf_1 rfl ?_
  refine mV_ishl f10_groupOf_2 ?_
  refine mV_istore (L' := [.ref 119, .int x0, .int ((1 : Int32) <<< (x0 &&& 31)), mX0, mX0]) f10_groupOf_3 (by decide) rfl rfl ?_
  refine mV_push f10_groupOf_4 ?_
  refine mV_istore (L' := [.ref 119, .int x0, .int ((1 : Int32) <<< (x0 &&& 31)), .int 0, mX0]) f10_groupOf_5 (by decide) rfl rfl ?_
  obtain ⟨z0, hz0, hr⟩ := mBind hr
  refine mV_drop (L' := [.ref 119, mX0, .int ((1 : Int32) <<< (x0 &&& 31)), .int 0, mX0]) (mSub_k (mSub_x (mSub_k (mSub_k (mSub_x mSub_n))))) ?_
  refine t10_groupOf_6 X Q s I FU ((1 : Int32) <<< (x0 &&& 31)) 0 _ hz0 ?_
  refine mV_iload f10_groupOf_56 rfl ?_
  have hr := Option.some.inj hr; subst hr
  exact mV_iret rfl rfl f10_groupOf_57 hQ
theorem c10_groupOf (X : Nat × (Nat → Int32)) (I : mI) (s : Nat) (x0 : Int32) {res : Int32} (hr : r10_groupOf I x0 = some res) : mC X m10_groupOf 1 0 0 [.ref 119, .int x0] NN KK I (PP s) (mRet (some (.int res)) NN KK I (PP s)) :=
  mC_of (L0 := [.ref 119, .int x0, mX0, mX0, mX0]) rfl (Nat.le_of_ble_eq_true rfl) (w10_groupOf X I s x0 _ hr (mRet_ok _ _ _ _ _))
def l10_alike_35 (I : mI) : Nat → Int32 → Int32 → Int32 → Option (Int32)
  | 0, _, _, _ => none
  | f + 1, y2, y3, y4 => if (I 119 6 : Int32) ≤ (y4 : Int32) then some y2 else (if ((r10_has y3 y4) : Int32) = (0 : Int32) then some (y2 + 1) else some y2 : Option (Int32)).bind fun z0 => (r10_groupOf I y4).bind fun z1 => l10_alike_35 I f z0 (y3 ||| z1) (y4 + 1)
def r10_alike (I : mI) (x0 : Int32) : Option (Int32 × mI) := if (x0 : Int32) = ((-1) : Int32) then (l10_alike_35 (mW I 119 0 0) FU 0 0 0).bind fun z0 => some (z0, (mW I 119 0 0)) else (if ((r10_isPiece (mW I 119 0 0) x0) : Int32) = (0 : Int32) then some (-1) else (r10_groupOf (mW I 119 0 0) x0).bind fun z2 => some z2 : Option (Int32)).bind fun z1 => some (z1, (mW I 119 0 0))
set_option maxHeartbeats 4000000 in
set_option maxRecDepth 100000 in
theorem t10_alike_35 (X : Nat × (Nat → Int32)) (Q : mQ) (s : Nat) (I : mI) : ∀ (f : Nat) (y2 : Int32) (y3 : Int32) (y4 : Int32) (z : Int32), l10_alike_35 I f y2 y3 y4 = some z → mV X m10_alike 2 0 0 73 [.ref 119, mX0, .int z, mX0, mX0] [] NN KK I (PP s) Q → mV X m10_alike 2 0 0 35 [.ref 119, mX0, .int y2, .int y3, .int y4] [] NN KK I (PP s) Q := by
  intro f
  induction f with
  | zero => intro y2 y3 y4 z hr hk; cases hr
  | succ f ih =>
    intro y2 y3 y4 z hr hk
    unfold l10_alike_35 at hr
    refine mV_iload f10_alike_35 rfl ?_
    refine mV_aload f10_alike_37 rfl ?_
    refine mV_gI (I 119 6) f10_alike_38 (by decide) kk_119 rfl rfl ?_
    refine mV_icmp_ge f10_alike_41 (fun h0 => ?_) (fun h0 => ?_)
    · rw [if_pos h0] at hr
      have hr := Option.some.inj hr; subst hr
      refine mV_drop (L' := [.ref 119, mX0, .int y2, mX0, mX0]) (mSub_k (mSub_x (mSub_k (mSub_x (mSub_x mSub_n))))) ?_
      exact hk
    · rw [if_neg h0] at hr
      refine mV_aload f10_alike_44 rfl ?_
      refine mV_iload f10_alike_45 rfl ?_
      refine mV_iload f10_alike_46 rfl ?_
      refine mV_cV f10_alike_48 tg_m10_has mCls10 (by decide) kk_119 (mC_deep (c10_has X I s y3 y4 rfl) (by decide)) rfl rfl (Nat.le_of_ble_eq_true rfl) ?_
      obtain ⟨z0, hz0, hr⟩ := mBind hr
      have keyz0 : mV X m10_alike 2 0 0 58 [.ref 119, mX0, .int z0, .int y3, .int y4] [] NN KK I (PP s) Q := by
        refine mV_iload f10_alike_58 rfl ?_
        refine mV_aload f10_alike_59 rfl ?_
        refine mV_iload f10_alike_60 rfl ?_
        obtain ⟨z1, hz1, hr⟩ := mBind hr
        refine mV_cV f10_alike_62 tg_m10_groupOf mCls10 (by decide) kk_119 (mC_deep (c10_groupOf X I s y4 hz1) (by decide)) rfl rfl (Nat.le_of_ble_eq_true rfl) ?_
        refine mV_ior f10_alike_65 ?_
        refine mV_istore (L' := [.ref 119, mX0, .int z0, .int (y3 ||| z1), .int y4]) f10_alike_66 (by decide) rfl rfl ?_
        refine mV_iinc (y := (y4 + 1)) (L' := [.ref 119, mX0, .int z0, .int (y3 ||| z1), .int (y4 + 1)]) f10_alike_67 rfl rfl (by decide) rfl rfl ?_
        refine mV_goto f10_alike_70 ?_
        exact ih z0 (y3 ||| z1) (y4 + 1) _ hr hk
      clear hr
      have hr := hz0
      clear hz0
      refine mV_if_ne f10_alike_51 (fun h1 => ?_) (fun h1 => ?_)
      · rw [if_neg h1] at hr
        have hr := Option.some.inj hr; subst hr
        exact keyz0
      · rw [if_pos h1] at hr
        refine mV_iload f10_alike_54 rfl ?_
        refine mV_push f10_alike_55 ?_
        refine mV_iadd f10_alike_56 ?_
        refine mV_istore (L' := [.ref 119, mX0, .int (y2 + 1), .int y3, .int y4]) f10_alike_57 (by decide) rfl rfl ?_
        have hr := Option.some.inj hr; subst hr
        exact keyz0
set_option maxHeartbeats 4000000 in
set_option maxRecDepth 100000 in
theorem w10_alike (X : Nat × (Nat → Int32)) (I : mI) (s : Nat) (x0 : Int32) (Q : mQ) {res : Int32 × mI} (hr : r10_alike I x0 = some res) (hQ : Q (some (.int res.1)) NN KK res.2 (PP s)) : mV X m10_alike 2 0 0 0 [.ref 119, .int x0, mX0, mX0, mX0] [] NN KK I (PP s) Q := by
  unfold r10_alike at hr
  refine mV_aload f10_alike_0 rfl ?_
  refine mV_push f10_alike_1 ?_
  refine mV_putI f10_alike_2 (by decide) kk_119 rfl rfl ?_
  refine mV_iload f10_alike_5 rfl ?_
  refine mV_push f10_alike_6 ?_
  refine mV_icmp_eq f10_alike_7 (fun h0 => ?_) (fun h0 => ?_)
  · rw [if_pos h0] at hr
    refine mV_push f10_alike_28 ?_
    refine mV_istore (L' := [.ref 119, .int x0, .int 0, mX0, mX0]) f10_alike_29 (by decide) rfl rfl ?_
    refine mV_push f10_alike_30 ?_
    refine mV_istore (L' := [.ref 119, .int x0, .int 0, .int 0, mX0]) f10_alike_31 (by decide) rfl rfl ?_
    refine mV_push f10_alike_32 ?_
    refine mV_istore (L' := [.ref 119, .int x0, .int 0, .int 0, .int 0]) f10_alike_33 (by decide) rfl rfl ?_
    obtain ⟨z0, hz0, hr⟩ := mBind hr
    refine mV_drop (L' := [.ref 119, mX0, .int 0, .int 0, .int 0]) (mSub_k (mSub_x (mSub_k (mSub_k (mSub_k mSub_n))))) ?_
    refine t10_alike_35 X Q s (mW I 119 0 0) FU 0 0 0 _ hz0 ?_
    refine mV_iload f10_alike_73 rfl ?_
    have hr := Option.some.inj hr; subst hr
    exact mV_iret rfl rfl f10_alike_74 hQ
  · rw [if_neg h0] at hr
    refine mV_aload f10_alike_10 rfl ?_
    refine mV_iload f10_alike_11 rfl ?_
    refine mV_cV f10_alike_12 tg_m10_isPiece mCls10 (by decide) kk_119 (mC_deep (c10_isPiece X (mW I 119 0 0) s x0 rfl) (by decide)) rfl rfl (Nat.le_of_ble_eq_true rfl) ?_
    obtain ⟨z1, hz1, hr⟩ := mBind hr
    have keyz1 : mV X m10_alike 2 0 0 27 [.ref 119, mX0, mX0, mX0, mX0] [.int z1] NN KK (mW I 119 0 0) (PP s) Q := by
      have hr := Option.some.inj hr; subst hr
      exact mV_iret rfl rfl f10_alike_27 hQ
    clear hr
    have hr := hz1
    clear hz1
    refine mV_if_eq f10_alike_15 (fun h1 => ?_) (fun h1 => ?_)
    · rw [if_pos h1] at hr
      refine mV_push f10_alike_26 ?_
      have hr := Option.some.inj hr; subst hr
      refine mV_drop (L' := [.ref 119, mX0, mX0, mX0, mX0]) (mSub_k (mSub_x (mSub_x (mSub_x (mSub_x mSub_n))))) ?_
      exact keyz1
    · rw [if_neg h1] at hr
      refine mV_aload f10_alike_18 rfl ?_
      refine mV_iload f10_alike_19 rfl ?_
      obtain ⟨z2, hz2, hr⟩ := mBind hr
      refine mV_cV f10_alike_20 tg_m10_groupOf mCls10 (by decide) kk_119 (mC_deep (c10_groupOf X (mW I 119 0 0) s x0 hz2) (by decide)) rfl rfl (Nat.le_of_ble_eq_true rfl) ?_
      refine mV_goto f10_alike_23 ?_
      have hr := Option.some.inj hr; subst hr
      refine mV_drop (L' := [.ref 119, mX0, mX0, mX0, mX0]) (mSub_k (mSub_x (mSub_x (mSub_x (mSub_x mSub_n))))) ?_
      exact keyz1
theorem c10_alike (X : Nat × (Nat → Int32)) (I : mI) (s : Nat) (x0 : Int32) {res : Int32 × mI} (hr : r10_alike I x0 = some res) : mC X m10_alike 2 0 0 [.ref 119, .int x0] NN KK I (PP s) (mRet (some (.int res.1)) NN KK res.2 (PP s)) :=
  mC_of (L0 := [.ref 119, .int x0, mX0, mX0, mX0]) rfl (Nat.le_of_ble_eq_true rfl) (w10_alike X I s x0 _ hr (mRet_ok _ _ _ _ _))
def l10_pages_57 (I : mI) (k1 : Int32) (k2 : Int32) (k3 : Int32) (k4 : Int32) : Nat → Int32 → Int32 → Option (Int32)
  | 0, _, _ => none
  | f + 1, y5, y6 => if (k1 : Int32) < (y6 : Int32) then some y5 else (mRemO y6 k2).bind fun z0 => (if (z0 : Int32) = (0 : Int32) then some 1 else some 0 : Option (Int32)).bind fun z1 => (mRemO y6 k3).bind fun z2 => (if (z2 : Int32) = (0 : Int32) then some 1 else some 0 : Option (Int32)).bind fun z3 => (if ((z1 + z3) : Int32) = ((1 - k4) : Int32) then some (y5 + 1) else some y5 : Option (Int32)).bind fun z4 => l10_pages_57 I k1 k2 k3 k4 f z4 (y6 + 1)
def r10_pages (I : mI) (x0 : Int32) (x1 : Int32) (x2 : Int32) (x3 : Int32) : Option (Int32 × mI) := if ((r10_isIn x0 1 60) : Int32) = (0 : Int32) then some ((-1), (mW I 119 0 0)) else if ((r10_isIn x1 1 9) : Int32) = (0 : Int32) then some ((-1), (mW I 119 0 0)) else if ((r10_isIn x2 1 9) : Int32) = (0 : Int32) then some ((-1), (mW I 119 0 0)) else if ((r10_isIn x3 0 1) : Int32) = (0 : Int32) then some ((-1), (mW I 119 0 0)) else (l10_pages_57 (mW I 119 0 0) x0 x1 x2 x3 FU 0 1).bind fun z0 => some (z0, (mW I 119 0 0))
set_option maxHeartbeats 4000000 in
set_option maxRecDepth 100000 in
theorem t10_pages_57 (X : Nat × (Nat → Int32)) (Q : mQ) (s : Nat) (I : mI) (k1 : Int32) (k2 : Int32) (k3 : Int32) (k4 : Int32) : ∀ (f : Nat) (y5 : Int32) (y6 : Int32) (z : Int32), l10_pages_57 I k1 k2 k3 k4 f y5 y6 = some z → mV X m10_pages 1 0 0 111 [.ref 119, .int k1, .int k2, .int k3, .int k4, .int z, mX0, mX0] [] NN KK I (PP s) Q → mV X m10_pages 1 0 0 57 [.ref 119, .int k1, .int k2, .int k3, .int k4, .int y5, .int y6, mX0] [] NN KK I (PP s) Q := by
  intro f
  induction f with
  | zero => intro y5 y6 z hr hk; cases hr
  | succ f ih =>
    intro y5 y6 z hr hk
    unfold l10_pages_57 at hr
    refine mV_iload f10_pages_57 rfl ?_
    refine mV_iload f10_pages_59 rfl ?_
    refine mV_icmp_gt f10_pages_60 (fun h0 => ?_) (fun h0 => ?_)
    · rw [if_pos h0] at hr
      have hr := Option.some.inj hr; subst hr
      refine mV_drop (L' := [.ref 119, .int k1, .int k2, .int k3, .int k4, .int y5, mX0, mX0]) (mSub_k (mSub_k (mSub_k (mSub_k (mSub_k (mSub_k (mSub_x (mSub_x mSub_n)))))))) ?_
      exact hk
    · rw [if_neg h0] at hr
      refine mV_iload f10_pages_63 rfl ?_
      refine mV_iload f10_pages_65 rfl ?_
      obtain ⟨z0, hz0, hr⟩ := mBind hr
      refine mV_remO f10_pages_66 hz0 ?_
      obtain ⟨z1, hz1, hr⟩ := mBind hr
      have keyz1 : mV X m10_pages 1 0 0 75 [.ref 119, .int k1, .int k2, .int k3, .int k4, .int y5, .int y6, mX0] [.int z1] NN KK I (PP s) Q := by
        refine mV_iload f10_pages_75 rfl ?_
        refine mV_iload f10_pages_77 rfl ?_
        obtain ⟨z2, hz2, hr⟩ := mBind hr
        refine mV_remO f10_pages_78 hz2 ?_
        obtain ⟨z3, hz3, hr⟩ := mBind hr
        have keyz3 : mV X m10_pages 1 0 0 87 [.ref 119, .int k1, .int k2, .int k3, .int k4, .int y5, .int y6, mX0] [.int z3, .int z1] NN KK I (PP s) Q := by
          refine mV_iadd f10_pages_87 ?_
          refine mV_istore (L' := [.ref 119, .int k1, .int k2, .int k3, .int k4, .int y5, .int y6, .int (z1 + z3)]) f10_pages_88 (by decide) rfl rfl ?_
          refine mV_iload f10_pages_90 rfl ?_
          refine mV_push f10_pages_92 ?_
          refine mV_iload f10_pages_93 rfl ?_
          refine mV_isub f10_pages_95 ?_
          obtain ⟨z4, hz4, hr⟩ := mBind hr
          have keyz4 : mV X m10_pages 1 0 0 105 [.ref 119, .int k1, .int k2, .int k3, .int k4, .int z4, .int y6, mX0] [] NN KK I (PP s) Q := by
            refine mV_iinc (y := (y6 + 1)) (L' := [.ref 119, .int k1, .int k2, .int k3, .int k4, .int z4, .int (y6 + 1), mX0]) f10_pages_105 rfl rfl (by decide) rfl rfl ?_
            refine mV_goto f10_pages_108 ?_
            exact ih z4 (y6 + 1) _ hr hk
          clear hr
          have hr := hz4
          clear hz4
          refine mV_icmp_ne f10_pages_96 (fun h3 => ?_) (fun h3 => ?_)
          · rw [if_neg h3] at hr
            have hr := Option.some.inj hr; subst hr
            refine mV_drop (L' := [.ref 119, .int k1, .int k2, .int k3, .int k4, .int y5, .int y6, mX0]) (mSub_k (mSub_k (mSub_k (mSub_k (mSub_k (mSub_k (mSub_k (mSub_x mSub_n)))))))) ?_
            exact keyz4
          · rw [if_pos h3] at hr
            refine mV_iload f10_pages_99 rfl ?_
            refine mV_push f10_pages_101 ?_
            refine mV_iadd f10_pages_102 ?_
            refine mV_istore (L' := [.ref 119, .int k1, .int k2, .int k3, .int k4, .int (y5 + 1), .int y6, .int (z1 + z3)]) f10_pages_103 (by decide) rfl rfl ?_
            have hr := Option.some.inj hr; subst hr
            refine mV_drop (L' := [.ref 119, .int k1, .int k2, .int k3, .int k4, .int (y5 + 1), .int y6, mX0]) (mSub_k (mSub_k (mSub_k (mSub_k (mSub_k (mSub_k (mSub_k (mSub_x mSub_n)))))))) ?_
            exact keyz4
        clear hr
        have hr := hz3
        clear hz3
        refine mV_if_ne f10_pages_79 (fun h2 => ?_) (fun h2 => ?_)
        · rw [if_neg h2] at hr
          refine mV_push f10_pages_86 ?_
          have hr := Option.some.inj hr; subst hr
          exact keyz3
        · rw [if_pos h2] at hr
          refine mV_push f10_pages_82 ?_
          refine mV_goto f10_pages_83 ?_
          have hr := Option.some.inj hr; subst hr
          exact keyz3
      clear hr
      have hr := hz1
      clear hz1
      refine mV_if_ne f10_pages_67 (fun h1 => ?_) (fun h1 => ?_)
      · rw [if_neg h1] at hr
        refine mV_push f10_pages_74 ?_
        have hr := Option.some.inj hr; subst hr
        exact keyz1
      · rw [if_pos h1] at hr
        refine mV_push f10_pages_70 ?_
        refine mV_goto f10_pages_71 ?_
        have hr := Option.some.inj hr; subst hr
        exact keyz1
set_option maxHeartbeats 4000000 in
set_option maxRecDepth 100000 in
theorem w10_pages (X : Nat × (Nat → Int32)) (I : mI) (s : Nat) (x0 : Int32) (x1 : Int32) (x2 : Int32) (x3 : Int32) (Q : mQ) {res : Int32 × mI} (hr : r10_pages I x0 x1 x2 x3 = some res) (hQ : Q (some (.int res.1)) NN KK res.2 (PP s)) : mV X m10_pages 1 0 0 0 [.ref 119, .int x0, .int x1, .int x2, .int x3, mX0, mX0, mX0] [] NN KK I (PP s) Q := by
  unfold r10_pages at hr
  refine mV_aload f10_pages_0 rfl ?_
  refine mV_push f10_pages_1 ?_
  refine mV_putI f10_pages_2 (by decide) kk_119 rfl rfl ?_
  refine mV_aload f10_pages_5 rfl ?_
  refine mV_iload f10_pages_6 rfl ?_
  refine mV_push f10_pages_7 ?_
  refine mV_push f10_pages_8 ?_
  refine mV_cV f10_pages_10 tg_m10_isIn mCls10 (by decide) kk_119 (mC_deep (c10_isIn X (mW I 119 0 0) s x0 1 60 rfl) (by decide)) rfl rfl (Nat.le_of_ble_eq_true rfl) ?_
  refine mV_if_eq f10_pages_13 (fun h0 => ?_) (fun h0 => ?_)
  · rw [if_pos h0] at hr
    refine mV_push f10_pages_49 ?_
    have hr := Option.some.inj hr; subst hr
    exact mV_iret rfl rfl f10_pages_50 hQ
  · rw [if_neg h0] at hr
    refine mV_aload f10_pages_16 rfl ?_
    refine mV_iload f10_pages_17 rfl ?_
    refine mV_push f10_pages_18 ?_
    refine mV_push f10_pages_19 ?_
    refine mV_cV f10_pages_21 tg_m10_isIn mCls10 (by decide) kk_119 (mC_deep (c10_isIn X (mW I 119 0 0) s x1 1 9 rfl) (by decide)) rfl rfl (Nat.le_of_ble_eq_true rfl) ?_
    refine mV_if_eq f10_pages_24 (fun h1 => ?_) (fun h1 => ?_)
    · rw [if_pos h1] at hr
      refine mV_push f10_pages_49 ?_
      have hr := Option.some.inj hr; subst hr
      exact mV_iret rfl rfl f10_pages_50 hQ
    · rw [if_neg h1] at hr
      refine mV_aload f10_pages_27 rfl ?_
      refine mV_iload f10_pages_28 rfl ?_
      refine mV_push f10_pages_29 ?_
      refine mV_push f10_pages_30 ?_
      refine mV_cV f10_pages_32 tg_m10_isIn mCls10 (by decide) kk_119 (mC_deep (c10_isIn X (mW I 119 0 0) s x2 1 9 rfl) (by decide)) rfl rfl (Nat.le_of_ble_eq_true rfl) ?_
      refine mV_if_eq f10_pages_35 (fun h2 => ?_) (fun h2 => ?_)
      · rw [if_pos h2] at hr
        refine mV_push f10_pages_49 ?_
        have hr := Option.some.inj hr; subst hr
        exact mV_iret rfl rfl f10_pages_50 hQ
      · rw [if_neg h2] at hr
        refine mV_aload f10_pages_38 rfl ?_
        refine mV_iload f10_pages_39 rfl ?_
        refine mV_push f10_pages_41 ?_
        refine mV_push f10_pages_42 ?_
        refine mV_cV f10_pages_43 tg_m10_isIn mCls10 (by decide) kk_119 (mC_deep (c10_isIn X (mW I 119 0 0) s x3 0 1 rfl) (by decide)) rfl rfl (Nat.le_of_ble_eq_true rfl) ?_
        refine mV_if_ne f10_pages_46 (fun h3 => ?_) (fun h3 => ?_)
        · rw [if_neg h3] at hr
          refine mV_push f10_pages_51 ?_
          refine mV_istore (L' := [.ref 119, .int x0, .int x1, .int x2, .int x3, .int 0, mX0, mX0]) f10_pages_52 (by decide) rfl rfl ?_
          refine mV_push f10_pages_54 ?_
          refine mV_istore (L' := [.ref 119, .int x0, .int x1, .int x2, .int x3, .int 0, .int 1, mX0]) f10_pages_55 (by decide) rfl rfl ?_
          obtain ⟨z0, hz0, hr⟩ := mBind hr
          refine t10_pages_57 X Q s (mW I 119 0 0) x0 x1 x2 x3 FU 0 1 _ hz0 ?_
          refine mV_iload f10_pages_111 rfl ?_
          have hr := Option.some.inj hr; subst hr
          exact mV_iret rfl rfl f10_pages_113 hQ
        · rw [if_pos h3] at hr
          refine mV_push f10_pages_49 ?_
          have hr := Option.some.inj hr; subst hr
          exact mV_iret rfl rfl f10_pages_50 hQ
theorem c10_pages (X : Nat × (Nat → Int32)) (I : mI) (s : Nat) (x0 : Int32) (x1 : Int32) (x2 : Int32) (x3 : Int32) {res : Int32 × mI} (hr : r10_pages I x0 x1 x2 x3 = some res) : mC X m10_pages 1 0 0 [.ref 119, .int x0, .int x1, .int x2, .int x3] NN KK I (PP s) (mRet (some (.int res.1)) NN KK res.2 (PP s)) :=
  mC_of (L0 := [.ref 119, .int x0, .int x1, .int x2, .int x3, mX0, mX0, mX0]) rfl (Nat.le_of_ble_eq_true rfl) (w10_pages X I s x0 x1 x2 x3 _ hr (mRet_ok _ _ _ _ _))
def l10_game_21 (I : mI) : Nat → Int32 → Int32 → Option (Int32)
  | 0, _, _ => none
  | f + 1, y2, y3 => if (8 : Int32) ≤ (y3 : Int32) then some y2 else (mLd I 120 47 (9 + y3)).bind fun z0 => l10_game_21 I f (y2 ^^^ (mRm z0 3)) (y3 + 1)
def l10_game_77 (I : mI) (k1 : Int32) (k3 : Int32) (k4 : Int32) (k5 : Int32) : Nat → Int32 → Option ((Int32 × mI) ⊕ (Unit))
  | 0, _ => none
  | f + 1, y6 => if ((r10_lesser k4 4) : Int32) < (y6 : Int32) then some (.inr ()) else if ((mRm (k4 - y6) 3) : Int32) = (k5 : Int32) then (if (k1 : Int32) = (0 : Int32) then some k3 else some y6 : Option (Int32)).bind fun z0 => some (.inl (z0, I)) else l10_game_77 I k1 k3 k4 k5 f (y6 + y6)
def l10_game_49 (I : mI) (k1 : Int32) (k2 : Int32) : Nat → Int32 → Option ((Int32 × mI) ⊕ (Unit))
  | 0, _ => none
  | f + 1, y3 => if (8 : Int32) ≤ (y3 : Int32) then some (.inr ()) else (mLd I 120 47 (9 + y3)).bind fun z0 => (l10_game_77 I k1 y3 z0 (k2 ^^^ (mRm z0 3)) FU 1).bind fun z1 => match z1 with | .inl rz1 => some (.inl rz1) | .inr wz1 => l10_game_49 I k1 k2 f (y3 + 1)
def r10_game (I : mI) (x0 : Int32) : Option (Int32 × mI) := if ((r10_isIn x0 0 1) : Int32) = (0 : Int32) then some ((-1), (mW I 119 0 0)) else (l10_game_21 (mW I 119 0 0) FU 0 0).bind fun z0 => (l10_game_49 (mW I 119 0 0) x0 z0 FU 0).bind fun z1 => match z1 with | .inl rz1 => some rz1 | .inr wz1 => some ((-1), (mW I 119 0 0))
set_option maxHeartbeats 4000000 in
set_option maxRecDepth 100000 in
theorem t10_game_21 (X : Nat × (Nat → Int32)) (Q : mQ) (s : Nat) (I : mI) (k1 : Int32) : ∀ (f : Nat) (y2 : Int32) (y3 : Int32) (z : Int32), l10_game_21 I f y2 y3 = some z → mV X m10_game 1 0 0 47 [.ref 119, .int k1, .int z, mX0, mX0, mX0, mX0] [] NN KK I (PP s) Q → mV X m10_game 1 0 0 21 [.ref 119, .int k1, .int y2, .int y3, mX0, mX0, mX0] [] NN KK I (PP s) Q := by
  intro f
  induction f with
  | zero => intro y2 y3 z hr hk; cases hr
  | succ f ih =>
    intro y2 y3 z hr hk
    unfold l10_game_21 at hr
    refine mV_iload f10_game_21 rfl ?_
    refine mV_push f10_game_22 ?_
    refine mV_icmp_ge f10_game_24 (fun h0 => ?_) (fun h0 => ?_)
    · rw [if_pos h0] at hr
      have hr := Option.some.inj hr; subst hr
      refine mV_drop (L' := [.ref 119, .int k1, .int y2, mX0, mX0, mX0, mX0]) (mSub_k (mSub_k (mSub_k (mSub_x (mSub_x (mSub_x (mSub_x mSub_n))))))) ?_
      exact hk
    · rw [if_neg h0] at hr
      refine mV_iload f10_game_27 rfl ?_
      refine mV_aload f10_game_28 rfl ?_
      refine mV_getP f10_game_29 (by decide) kk_119 rfl (pp_119_1 _) ?_
      refine mV_push f10_game_32 ?_
      refine mV_iload f10_game_34 rfl ?_
      refine mV_iadd f10_game_35 ?_
      obtain ⟨z0, hz0, hr⟩ := mBind hr
      refine mV_ldO f10_game_36 (by decide) kk_120 hz0 ?_
      refine mV_push f10_game_37 ?_
      refine mV_remC f10_game_38 (by decide) ?_
      refine mV_ixor f10_game_39 ?_
      refine mV_istore (L' := [.ref 119, .int k1, .int (y2 ^^^ (mRm z0 3)), .int y3, mX0, mX0, mX0]) f10_game_40 (by decide) rfl rfl ?_
      refine mV_iinc (y := (y3 + 1)) (L' := [.ref 119, .int k1, .int (y2 ^^^ (mRm z0 3)), .int (y3 + 1), mX0, mX0, mX0]) f10_game_41 rfl rfl (by decide) rfl rfl ?_
      refine mV_goto f10_game_44 ?_
      exact ih (y2 ^^^ (mRm z0 3)) (y3 + 1) _ hr hk
set_option maxHeartbeats 4000000 in
set_option maxRecDepth 100000 in
theorem t10_game_77 (X : Nat × (Nat → Int32)) (Q : mQ) (s : Nat) (I : mI) (k1 : Int32) (k2 : Int32) (k3 : Int32) (k4 : Int32) (k5 : Int32) : ∀ (f : Nat) (y6 : Int32) (z : (Int32 × mI) ⊕ (Unit)), l10_game_77 I k1 k3 k4 k5 f y6 = some z → (∀ res, z = .inl res → Q (some (.int res.1)) NN KK res.2 (PP s)) → (∀ w, z = .inr w → mV X m10_game 1 0 0 122 [.ref 119, .int k1, .int k2, .int k3, .int k4, .int k5, mX0] [] NN KK I (PP s) Q) → mV X m10_game 1 0 0 77 [.ref 119, .int k1, .int k2, .int k3, .int k4, .int k5, .int y6] [] NN KK I (PP s) Q := by
  intro f
  induction f with
  | zero => intro y6 z hr hret hk; cases hr
  | succ f ih =>
    intro y6 z hr hret hk
    unfold l10_game_77 at hr
    refine mV_iload f10_game_77 rfl ?_
    refine mV_aload f10_game_79 rfl ?_
    refine mV_iload f10_game_80 rfl ?_
    refine mV_push f10_game_82 ?_
    refine mV_cV f10_game_83 tg_m10_lesser mCls10 (by decide) kk_119 (mC_deep (c10_lesser X I s k4 4 rfl) (by decide)) rfl rfl (Nat.le_of_ble_eq_true rfl) ?_
    refine mV_icmp_gt f10_game_86 (fun h0 => ?_) (fun h0 => ?_)
    · rw [if_pos h0] at hr
      have hr := Option.some.inj hr; subst hr
      refine mV_drop (L' := [.ref 119, .int k1, .int k2, .int k3, .int k4, .int k5, mX0]) (mSub_k (mSub_k (mSub_k (mSub_k (mSub_k (mSub_k (mSub_x mSub_n))))))) ?_
      exact hk _ rfl
    · rw [if_neg h0] at hr
      refine mV_iload f10_game_89 rfl ?_
      refine mV_iload f10_game_91 rfl ?_
      refine mV_isub f10_game_93 ?_
      refine mV_push f10_game_94 ?_
      refine mV_remC f10_game_95 (by decide) ?_
      refine mV_iload f10_game_96 rfl ?_
      refine mV_icmp_ne f10_game_98 (fun h1 => ?_) (fun h1 => ?_)
      · rw [if_neg h1] at hr
        refine mV_iload f10_game_112 rfl ?_
        refine mV_iload f10_game_114 rfl ?_
        refine mV_iadd f10_game_116 ?_
        refine mV_istore (L' := [.ref 119, .int k1, .int k2, .int k3, .int k4, .int k5, .int (y6 + y6)]) f10_game_117 (by decide) rfl rfl ?_
        refine mV_goto f10_game_119 ?_
        exact ih (y6 + y6) _ hr hret hk
      · rw [if_pos h1] at hr
        refine mV_iload f10_game_101 rfl ?_
        obtain ⟨z0, hz0, hr⟩ := mBind hr
        have keyz0 : mV X m10_game 1 0 0 111 [.ref 119, mX0, mX0, mX0, mX0, mX0, mX0] [.int z0] NN KK I (PP s) Q := by
          have hr := Option.some.inj hr; subst hr; have hQ := hret _ rfl
          exact mV_iret rfl rfl f10_game_111 hQ
        clear hr
        have hr := hz0
        clear hz0
        refine mV_if_ne f10_game_102 (fun h2 => ?_) (fun h2 => ?_)
        · rw [if_neg h2] at hr
          refine mV_iload f10_game_109 rfl ?_
          have hr := Option.some.inj hr; subst hr
          refine mV_drop (L' := [.ref 119, mX0, mX0, mX0, mX0, mX0, mX0]) (mSub_k (mSub_x (mSub_x (mSub_x (mSub_x (mSub_x (mSub_x mSub_n))))))) ?_
          exact keyz0
        · rw [if_pos h2] at hr
          refine mV_iload f10_game_105 rfl ?_
          refine mV_goto f10_game_106 ?_
          have hr := Option.some.inj hr; subst hr
          refine mV_drop (L' := [.ref 119, mX0, mX0, mX0, mX0, mX0, mX0]) (mSub_k (mSub_x (mSub_x (mSub_x (mSub_x (mSub_x (mSub_x mSub_n))))))) ?_
          exact keyz0
set_option maxHeartbeats 4000000 in
set_option maxRecDepth 100000 in
theorem t10_game_49 (X : Nat × (Nat → Int32)) (Q : mQ) (s : Nat) (I : mI) (k1 : Int32) (k2 : Int32) : ∀ (f : Nat) (y3 : Int32) (z : (Int32 × mI) ⊕ (Unit)), l10_game_49 I k1 k2 f y3 = some z → (∀ res, z = .inl res → Q (some (.int res.1)) NN KK res.2 (PP s)) → (∀ w, z = .inr w → mV X m10_game 1 0 0 128 [.ref 119, .int k1, .int k2, mX0, mX0, mX0, mX0] [] NN KK I (PP s) Q) → mV X m10_game 1 0 0 49 [.ref 119, .int k1, .int k2, .int y3, mX0, mX0, mX0] [] NN KK I (PP s) Q := by
  intro f
  induction f with
  | zero => intro y3 z hr hret hk; cases hr
  | succ f ih =>
    intro y3 z hr hret hk
    unfold l10_game_49 at hr
    refine mV_iload f10_game_49 rfl ?_
    refine mV_push f10_game_50 ?_
    refine mV_icmp_ge f10_game_52 (fun h0 => ?_) (fun h0 => ?_)
    · rw [if_pos h0] at hr
      have hr := Option.some.inj hr; subst hr
      refine mV_drop (L' := [.ref 119, .int k1, .int k2, mX0, mX0, mX0, mX0]) (mSub_k (mSub_k (mSub_k (mSub_x (mSub_x (mSub_x (mSub_x mSub_n))))))) ?_
      exact hk _ rfl
    · rw [if_neg h0] at hr
      refine mV_aload f10_game_55 rfl ?_
      refine mV_getP f10_game_56 (by decide) kk_119 rfl (pp_119_1 _) ?_
      refine mV_push f10_game_59 ?_
      refine mV_iload f10_game_61 rfl ?_
      refine mV_iadd f10_game_62 ?_
      obtain ⟨z0, hz0, hr⟩ := mBind hr
      refine mV_ldO f10_game_63 (by decide) kk_120 hz0 ?_
      refine mV_istore (L' := [.ref 119, .int k1, .int k2, .int y3, .int z0, mX0, mX0]) f10_game_64 (by decide) rfl rfl ?_
      refine mV_iload f10_game_66 rfl ?_
      refine mV_iload f10_game_67 rfl ?_
      refine mV_push f10_game_69 ?_
      refine mV_remC f10_game_70 (by decide) ?_
      refine mV_ixor f10_game_71 ?_
      refine mV_istore (L' := [.ref 119, .int k1, .int k2, .int y3, .int z0, .int (k2 ^^^ (mRm z0 3)), mX0]) f10_game_72 (by decide) rfl rfl ?_
      refine mV_push f10_game_74 ?_
      refine mV_istore (L' := [.ref 119, .int k1, .int k2, .int y3, .int z0, .int (k2 ^^^ (mRm z0 3)), .int 1]) f10_game_75 (by decide) rfl rfl ?_
      obtain ⟨z1, hz1, hr⟩ := mBind hr
      refine t10_game_77 X Q s I k1 k2 y3 z0 (k2 ^^^ (mRm z0 3)) FU 1 _ hz1 (fun res ez1 => ?_) (fun wz1 ez1 => ?_)
      · rw [ez1] at hr; have hr := Option.some.inj hr; subst hr; exact hret _ rfl
      rw [ez1] at hr
      dsimp only at hr
      refine mV_iinc (y := (y3 + 1)) (L' := [.ref 119, .int k1, .int k2, .int (y3 + 1), .int z0, .int (k2 ^^^ (mRm z0 3)), mX0]) f10_game_122 rfl rfl (by decide) rfl rfl ?_
      refine mV_goto f10_game_125 ?_
      refine mV_drop (L' := [.ref 119, .int k1, .int k2, .int (y3 + 1), mX0, mX0, mX0]) (mSub_k (mSub_k (mSub_k (mSub_k (mSub_x (mSub_x (mSub_x mSub_n))))))) ?_
      exact ih (y3 + 1) _ hr hret hk
set_option maxHeartbeats 4000000 in
set_option maxRecDepth 100000 in
theorem w10_game (X : Nat × (Nat → Int32)) (I : mI) (s : Nat) (x0 : Int32) (Q : mQ) {res : Int32 × mI} (hr : r10_game I x0 = some res) (hQ : Q (some (.int res.1)) NN KK res.2 (PP s)) : mV X m10_game 1 0 0 0 [.ref 119, .int x0, mX0, mX0, mX0, mX0, mX0] [] NN KK I (PP s) Q := by
  unfold r10_game at hr
  refine mV_aload f10_game_0 rfl ?_
  refine mV_push f10_game_1 ?_
  refine mV_putI f10_game_2 (by decide) kk_119 rfl rfl ?_
  refine mV_aload f10_game_5 rfl ?_
  refine mV_iload f10_game_6 rfl ?_
  refine mV_push f10_game_7 ?_
  refine mV_push f10_game_8 ?_
  refine mV_cV f10_game_9 tg_m10_isIn mCls10 (by decide) kk_119 (mC_deep (c10_isIn X (mW I 119 0 0) s x0 0 1 rfl) (by decide)) rfl rfl (Nat.le_of_ble_eq_true rfl) ?_
  refine mV_if_ne f10_game_12 (fun h0 => ?_) (fun h0 => ?_)
  · rw [if_neg h0] at hr
    refine mV_push f10_game_17 ?_
    refine mV_istore (L' := [.ref 119, .int x0, .int 0, mX0, mX0, mX0, mX0]) f10_game_18 (by decide) rfl rfl ?_
    refine mV_push f10_game_19 ?_
    refine mV_istore (L' := [.ref 119, .int x0, .int 0, .int 0, mX0, mX0, mX0]) f10_game_20 (by decide) rfl rfl ?_
    obtain ⟨z0, hz0, hr⟩ := mBind hr
    refine t10_game_21 X Q s (mW I 119 0 0) x0 FU 0 0 _ hz0 ?_
    refine mV_push f10_game_47 ?_
    refine mV_istore (L' := [.ref 119, .int x0, .int z0, .int 0, mX0, mX0, mX0]) f10_game_48 (by decide) rfl rfl ?_
    obtain ⟨z1, hz1, hr⟩ := mBind hr
    refine t10_game_49 X Q s (mW I 119 0 0) x0 z0 FU 0 _ hz1 (fun res ez1 => ?_) (fun wz1 ez1 => ?_)
    · rw [ez1] at hr; have hr := Option.some.inj hr; subst hr; exact hQ
    rw [ez1] at hr
    dsimp only at hr
    refine mV_push f10_game_128 ?_
    have hr := Option.some.inj hr; subst hr
    exact mV_iret rfl rfl f10_game_129 hQ
  · rw [if_pos h0] at hr
    refine mV_push f10_game_15 ?_
    have hr := Option.some.inj hr; subst hr
    exact mV_iret rfl rfl f10_game_16 hQ
theorem c10_game (X : Nat × (Nat → Int32)) (I : mI) (s : Nat) (x0 : Int32) {res : Int32 × mI} (hr : r10_game I x0 = some res) : mC X m10_game 1 0 0 [.ref 119, .int x0] NN KK I (PP s) (mRet (some (.int res.1)) NN KK res.2 (PP s)) :=
  mC_of (L0 := [.ref 119, .int x0, mX0, mX0, mX0, mX0, mX0]) rfl (Nat.le_of_ble_eq_true rfl) (w10_game X I s x0 _ hr (mRet_ok _ _ _ _ _))
def r10_keeps (I : mI) (x0 : Int32) : Option (Int32 × mI) := if (I 119 58 : Int32) = (0 : Int32) then (mLd (mW I 119 60 (I 119 60 + 1)) 154 2300 ((I 119 60 + 1) - 1)).bind fun z1 => some (z1, (mW I 119 60 (I 119 60 + 1))) else (mSto (mW I 119 60 (I 119 60 + 1)) 154 2300 ((I 119 60 + 1) - 1) x0).bind fun z0 => some (x0, z0)
set_option maxHeartbeats 4000000 in
set_option maxRecDepth 100000 in
theorem w10_keeps (X : Nat × (Nat → Int32)) (I : mI) (s : Nat) (x0 : Int32) (Q : mQ) {res : Int32 × mI} (hr : r10_keeps I x0 = some res) (hQ : Q (some (.int res.1)) NN KK res.2 (PP s)) : mV X m10_keeps 0 0 0 0 [.ref 119, .int x0] [] NN KK I (PP s) Q := by
  unfold r10_keeps at hr
  refine mV_aload f10_keeps_0 rfl ?_
  refine mV_aload f10_keeps_1 rfl ?_
  refine mV_gI (I 119 60) f10_keeps_2 (by decide) kk_119 rfl rfl ?_
  refine mV_push f10_keeps_5 ?_
  refine mV_iadd f10_keeps_6 ?_
  refine mV_putI f10_keeps_7 (by decide) kk_119 rfl rfl ?_
  refine mV_aload f10_keeps_10 rfl ?_
  refine mV_gI (I 119 58) f10_keeps_11 (by decide) kk_119 rfl rfl ?_
  refine mV_if_ne f10_keeps_14 (fun h0 => ?_) (fun h0 => ?_)
  · rw [if_neg h0] at hr
    refine mV_aload f10_keeps_29 rfl ?_
    refine mV_getP f10_keeps_30 (by decide) kk_119 rfl (pp_119_61 _) ?_
    refine mV_aload f10_keeps_33 rfl ?_
    refine mV_gI (I 119 60 + 1) f10_keeps_34 (by decide) kk_119 rfl rfl ?_
    refine mV_push f10_keeps_37 ?_
    refine mV_isub f10_keeps_38 ?_
    refine mV_iload f10_keeps_39 rfl ?_
    obtain ⟨z0, hz0, hr⟩ := mBind hr
    refine mV_stO f10_keeps_40 (by decide) kk_154 hz0 ?_
    refine mV_iload f10_keeps_41 rfl ?_
    have hr := Option.some.inj hr; subst hr
    exact mV_iret rfl rfl f10_keeps_42 hQ
  · rw [if_pos h0] at hr
    refine mV_aload f10_keeps_17 rfl ?_
    refine mV_getP f10_keeps_18 (by decide) kk_119 rfl (pp_119_61 _) ?_
    refine mV_aload f10_keeps_21 rfl ?_
    refine mV_gI (I 119 60 + 1) f10_keeps_22 (by decide) kk_119 rfl rfl ?_
    refine mV_push f10_keeps_25 ?_
    refine mV_isub f10_keeps_26 ?_
    obtain ⟨z1, hz1, hr⟩ := mBind hr
    refine mV_ldO f10_keeps_27 (by decide) kk_154 hz1 ?_
    have hr := Option.some.inj hr; subst hr
    exact mV_iret rfl rfl f10_keeps_28 hQ
theorem c10_keeps (X : Nat × (Nat → Int32)) (I : mI) (s : Nat) (x0 : Int32) {res : Int32 × mI} (hr : r10_keeps I x0 = some res) : mC X m10_keeps 0 0 0 [.ref 119, .int x0] NN KK I (PP s) (mRet (some (.int res.1)) NN KK res.2 (PP s)) :=
  mC_of (L0 := [.ref 119, .int x0]) rfl (Nat.le_of_ble_eq_true rfl) (w10_keeps X I s x0 _ hr (mRet_ok _ _ _ _ _))

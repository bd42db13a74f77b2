def l10_keepsLaw_18 : Nat → Int32 → mI → Option (mI)
  | 0, _, _ => none
  | f + 1, y1, I => if (16 : Int32) ≤ (y1 : Int32) then some I else (mLd I 132 48 y1).bind fun z0 => (r10_keeps I z0).bind fun z1 => (mSto z1.2 132 48 y1 z1.1).bind fun z2 => (mLd z2 133 48 y1).bind fun z3 => (r10_keeps z2 z3).bind fun z4 => (mSto z4.2 133 48 y1 z4.1).bind fun z5 => (mLd z5 134 48 y1).bind fun z6 => (r10_keeps z5 z6).bind fun z7 => (mSto z7.2 134 48 y1 z7.1).bind fun z8 => (mLd z8 135 48 y1).bind fun z9 => (r10_keeps z8 z9).bind fun z10 => (mSto z10.2 135 48 y1 z10.1).bind fun z11 => l10_keepsLaw_18 f (y1 + 1) z11
def l10_keepsLaw_96 : Nat → Int32 → mI → Option (mI)
  | 0, _, _ => none
  | f + 1, y1, I => if (400 : Int32) ≤ (y1 : Int32) then some I else (mLd I 136 1200 y1).bind fun z0 => (r10_keeps I z0).bind fun z1 => (mSto z1.2 136 1200 y1 z1.1).bind fun z2 => (mLd z2 137 1200 y1).bind fun z3 => (r10_keeps z2 z3).bind fun z4 => (mSto z4.2 137 1200 y1 z4.1).bind fun z5 => l10_keepsLaw_96 f (y1 + 1) z5
def r10_keepsLaw (I : mI) : Option (mI) := (r10_keeps I (I 131 0)).bind fun z0 => (l10_keepsLaw_18 FU 0 (mW z0.2 131 0 z0.1)).bind fun z1 => (l10_keepsLaw_96 FU 0 z1).bind fun z2 => some z2
set_option maxHeartbeats 4000000 in
set_option maxRecDepth 100000 in
theorem t10_keepsLaw_18 (X : Nat × (Nat → Int32)) (Q : mQ) (s : Nat) : ∀ (f : Nat) (y1 : Int32) (I : mI) (z : mI), l10_keepsLaw_18 f y1 I = some z → mV X m10_keepsLaw 1 0 0 94 [.ref 119, mX0] [] NN KK z (PP s) Q → mV X m10_keepsLaw 1 0 0 18 [.ref 119, .int y1] [] NN KK I (PP s) Q := by
  intro f
  induction f with
  | zero => intro y1 I z hr hk; cases hr
  | succ f ih =>
    intro y1 I z hr hk
    unfold l10_keepsLaw_18 at hr
    refine mV_iload f10_keepsLaw_18 rfl ?_
    refine mV_push f10_keepsLaw_19 ?_
    refine mV_icmp_ge f10_keepsLaw_21 (fun h0 => ?_) (fun h0 => ?_)
    · rw [if_pos h0] at hr
      have hr := Option.some.inj hr; subst hr
      refine mV_drop (L' := [.ref 119, mX0]) (mSub_k (mSub_x mSub_n)) ?_
      exact hk
    · rw [if_neg h0] at hr
      refine mV_aload f10_keepsLaw_24 rfl ?_
      refine mV_getP f10_keepsLaw_25 (by decide) kk_119 rfl (pp_119_22 _) ?_
      refine mV_iload f10_keepsLaw_28 rfl ?_
      refine mV_aload f10_keepsLaw_29 rfl ?_
      refine mV_aload f10_keepsLaw_30 rfl ?_
      refine mV_getP f10_keepsLaw_31 (by decide) kk_119 rfl (pp_119_22 _) ?_
      refine mV_iload f10_keepsLaw_34 rfl ?_
      obtain ⟨z0, hz0, hr⟩ := mBind hr
      refine mV_ldO f10_keepsLaw_35 (by decide) kk_132 hz0 ?_
      obtain ⟨z1, hz1, hr⟩ := mBind hr
      refine mV_cV f10_keepsLaw_36 tg_m10_keeps mCls10 (by decide) kk_119 (mC_deep (c10_keeps X I s z0 hz1) (by decide)) rfl rfl (Nat.le_of_ble_eq_true rfl) ?_
      obtain ⟨z2, hz2, hr⟩ := mBind hr
      refine mV_stO f10_keepsLaw_39 (by decide) kk_132 hz2 ?_
      refine mV_aload f10_keepsLaw_40 rfl ?_
      refine mV_getP f10_keepsLaw_41 (by decide) kk_119 rfl (pp_119_23 _) ?_
      refine mV_iload f10_keepsLaw_44 rfl ?_
      refine mV_aload f10_keepsLaw_45 rfl ?_
      refine mV_aload f10_keepsLaw_46 rfl ?_
      refine mV_getP f10_keepsLaw_47 (by decide) kk_119 rfl (pp_119_23 _) ?_
      refine mV_iload f10_keepsLaw_50 rfl ?_
      obtain ⟨z3, hz3, hr⟩ := mBind hr
      refine mV_ldO f10_keepsLaw_51 (by decide) kk_133 hz3 ?_
      obtain ⟨z4, hz4, hr⟩ := mBind hr
      refine mV_cV f10_keepsLaw_52 tg_m10_keeps mCls10 (by decide) kk_119 (mC_deep (c10_keeps X z2 s z3 hz4) (by decide)) rfl rfl (Nat.le_of_ble_eq_true rfl) ?_
      obtain ⟨z5, hz5, hr⟩ := mBind hr
      refine mV_stO f10_keepsLaw_55 (by decide) kk_133 hz5 ?_
      refine mV_aload f10_keepsLaw_56 rfl ?_
      refine mV_getP f10_keepsLaw_57 (by decide) kk_119 rfl (pp_119_24 _) ?_
      refine mV_iload f10_keepsLaw_60 rfl ?_
      refine mV_aload f10_keepsLaw_61 rfl ?_
      refine mV_aload f10_keepsLaw_62 rfl ?_
      refine mV_getP f10_keepsLaw_63 (by decide) kk_119 rfl (pp_119_24 _) ?_
      refine mV_iload f10_keepsLaw_66 rfl ?_
      obtain ⟨z6, hz6, hr⟩ := mBind hr
      refine mV_ldO f10_keepsLaw_67 (by decide) kk_134 hz6 ?_
      obtain ⟨z7, hz7, hr⟩ := mBind hr
      refine mV_cV f10_keepsLaw_68 tg_m10_keeps mCls10 (by decide) kk_119 (mC_deep (c10_keeps X z5 s z6 hz7) (by decide)) rfl rfl (Nat.le_of_ble_eq_true rfl) ?_
      obtain ⟨z8, hz8, hr⟩ := mBind hr
      refine mV_stO f10_keepsLaw_71 (by decide) kk_134 hz8 ?_
      refine mV_aload f10_keepsLaw_72 rfl ?_
      refine mV_getP f10_keepsLaw_73 (by decide) kk_119 rfl (pp_119_25 _) ?_
      refine mV_iload f10_keepsLaw_76 rfl ?_
      refine mV_aload f10_keepsLaw_77 rfl ?_
      refine mV_aload f10_keepsLaw_78 rfl ?_
      refine mV_getP f10_keepsLaw_79 (by decide) kk_119 rfl (pp_119_25 _) ?_
      refine mV_iload f10_keepsLaw_82 rfl ?_
      obtain ⟨z9, hz9, hr⟩ := mBind hr
      refine mV_ldO f10_keepsLaw_83 (by decide) kk_135 hz9 ?_
      obtain ⟨z10, hz10, hr⟩ := mBind hr
      refine mV_cV f10_keepsLaw_84 tg_m10_keeps mCls10 (by decide) kk_119 (mC_deep (c10_keeps X z8 s z9 hz10) (by decide)) rfl rfl (Nat.le_of_ble_eq_true rfl) ?_
      obtain ⟨z11, hz11, hr⟩ := mBind hr
      refine mV_stO f10_keepsLaw_87 (by decide) kk_135 hz11 ?_
      refine mV_iinc (y := (y1 + 1)) (L' := [.ref 119, .int (y1 + 1)]) f10_keepsLaw_88 rfl rfl (by decide) rfl rfl ?_
      refine mV_goto f10_keepsLaw_91 ?_
      exact ih (y1 + 1) z11 _ hr hk
set_option maxHeartbeats 4000000 in
set_option maxRecDepth 100000 in
theorem t10_keepsLaw_96 (X : Nat × (Nat → Int32)) (Q : mQ) (s : Nat) : ∀ (f : Nat) (y1 : Int32) (I : mI) (z : mI), l10_keepsLaw_96 f y1 I = some z → mV X m10_keepsLaw 1 0 0 141 [.ref 119, mX0] [] NN KK z (PP s) Q → mV X m10_keepsLaw 1 0 0 96 [.ref 119, .int y1] [] NN KK I (PP s) Q := by
  intro f
  induction f with
  | zero => intro y1 I z hr hk; cases hr
  | succ f ih =>
    intro y1 I z hr hk
    unfold l10_keepsLaw_96 at hr
    refine mV_iload f10_keepsLaw_96 rfl ?_
    refine mV_push f10_keepsLaw_97 ?_
    refine mV_icmp_ge f10_keepsLaw_100 (fun h0 => ?_) (fun h0 => ?_)
    · rw [if_pos h0] at hr
      have hr := Option.some.inj hr; subst hr
      refine mV_drop (L' := [.ref 119, mX0]) (mSub_k (mSub_x mSub_n)) ?_
      exact hk
    · rw [if_neg h0] at hr
      refine mV_aload f10_keepsLaw_103 rfl ?_
      refine mV_getP f10_keepsLaw_104 (by decide) kk_119 rfl (pp_119_26 _) ?_
      refine mV_iload f10_keepsLaw_107 rfl ?_
      refine mV_aload f10_keepsLaw_108 rfl ?_
      refine mV_aload f10_keepsLaw_109 rfl ?_
      refine mV_getP f10_keepsLaw_110 (by decide) kk_119 rfl (pp_119_26 _) ?_
      refine mV_iload f10_keepsLaw_113 rfl ?_
      obtain ⟨z0, hz0, hr⟩ := mBind hr
      refine mV_ldO f10_keepsLaw_114 (by decide) kk_136 hz0 ?_
      obtain ⟨z1, hz1, hr⟩ := mBind hr
      refine mV_cV f10_keepsLaw_115 tg_m10_keeps mCls10 (by decide) kk_119 (mC_deep (c10_keeps X I s z0 hz1) (by decide)) rfl rfl (Nat.le_of_ble_eq_true rfl) ?_
      obtain ⟨z2, hz2, hr⟩ := mBind hr
      refine mV_stO f10_keepsLaw_118 (by decide) kk_136 hz2 ?_
      refine mV_aload f10_keepsLaw_119 rfl ?_
      refine mV_getP f10_keepsLaw_120 (by decide) kk_119 rfl (pp_119_27 _) ?_
      refine mV_iload f10_keepsLaw_123 rfl ?_
      refine mV_aload f10_keepsLaw_124 rfl ?_
      refine mV_aload f10_keepsLaw_125 rfl ?_
      refine mV_getP f10_keepsLaw_126 (by decide) kk_119 rfl (pp_119_27 _) ?_
      refine mV_iload f10_keepsLaw_129 rfl ?_
      obtain ⟨z3, hz3, hr⟩ := mBind hr
      refine mV_ldO f10_keepsLaw_130 (by decide) kk_137 hz3 ?_
      obtain ⟨z4, hz4, hr⟩ := mBind hr
      refine mV_cV f10_keepsLaw_131 tg_m10_keeps mCls10 (by decide) kk_119 (mC_deep (c10_keeps X z2 s z3 hz4) (by decide)) rfl rfl (Nat.le_of_ble_eq_true rfl) ?_
      obtain ⟨z5, hz5, hr⟩ := mBind hr
      refine mV_stO f10_keepsLaw_134 (by decide) kk_137 hz5 ?_
      refine mV_iinc (y := (y1 + 1)) (L' := [.ref 119, .int (y1 + 1)]) f10_keepsLaw_135 rfl rfl (by decide) rfl rfl ?_
      refine mV_goto f10_keepsLaw_138 ?_
      exact ih (y1 + 1) z5 _ hr hk
set_option maxHeartbeats 4000000 in
set_option maxRecDepth 100000 in
theorem w10_keepsLaw (X : Nat × (Nat → Int32)) (I : mI) (s : Nat) (Q : mQ) {res : mI} (hr : r10_keepsLaw I = some res) (hQ : Q none NN KK res (PP s)) : mV X m10_keepsLaw 1 0 0 0 [.ref 119, mX0] [] NN KK I (PP s) Q := by
  unfold r10_keepsLaw at hr
  refine mV_aload f10_keepsLaw_0 rfl ?_
  refine mV_getP f10_keepsLaw_1 (by decide) kk_119 rfl (pp_119_21 _) ?_
  refine mV_push f10_keepsLaw_4 ?_
  refine mV_aload f10_keepsLaw_5 rfl ?_
  refine mV_aload f10_keepsLaw_6 rfl ?_
  refine mV_getP f10_keepsLaw_7 (by decide) kk_119 rfl (pp_119_21 _) ?_
  refine mV_push f10_keepsLaw_10 ?_
  refine mV_ld (I 131 0) 0 f10_keepsLaw_11 (by decide) kk_131 (by decide) rfl ?_
  obtain ⟨z0, hz0, hr⟩ := mBind hr
  refine mV_cV f10_keepsLaw_12 tg_m10_keeps mCls10 (by decide) kk_119 (mC_deep (c10_keeps X I s (I 131 0) hz0) (by decide)) rfl rfl (Nat.le_of_ble_eq_true rfl) ?_
  refine mV_sto 0 f10_keepsLaw_15 (by decide) kk_131 (by decide) ?_
  refine mV_push f10_keepsLaw_16 ?_
  refine mV_istore (L' := [.ref 119, .int 0]) f10_keepsLaw_17 (by decide) rfl rfl ?_
  obtain ⟨z1, hz1, hr⟩ := mBind hr
  refine t10_keepsLaw_18 X Q s FU 0 (mW z0.2 131 0 z0.1) _ hz1 ?_
  refine mV_push f10_keepsLaw_94 ?_
  refine mV_istore (L' := [.ref 119, .int 0]) f10_keepsLaw_95 (by decide) rfl rfl ?_
  obtain ⟨z2, hz2, hr⟩ := mBind hr
  refine t10_keepsLaw_96 X Q s FU 0 z1 _ hz2 ?_
  have hr := Option.some.inj hr; subst hr
  exact mV_vret rfl f10_keepsLaw_141 hQ
theorem c10_keepsLaw (X : Nat × (Nat → Int32)) (I : mI) (s : Nat) {res : mI} (hr : r10_keepsLaw I = some res) : mC X m10_keepsLaw 1 0 0 [.ref 119] NN KK I (PP s) (mRet none NN KK res (PP s)) :=
  mC_of (L0 := [.ref 119, mX0]) rfl (Nat.le_of_ble_eq_true rfl) (w10_keepsLaw X I s _ hr (mRet_ok _ _ _ _ _))
def r10_keepsMany (I : mI) : Option (mI) := (r10_keeps I (I 119 6)).bind fun z0 => (r10_keeps (mW z0.2 119 6 z0.1) (z0.2 119 7)).bind fun z1 => (r10_keeps (mW z1.2 119 7 z1.1) (z1.2 119 37)).bind fun z2 => (r10_keeps (mW z2.2 119 37 z2.1) (z2.2 119 39)).bind fun z3 => (r10_keeps (mW z3.2 119 39 z3.1) (z3.2 119 41)).bind fun z4 => (r10_keeps (mW z4.2 119 41 z4.1) (z4.2 119 48)).bind fun z5 => (r10_keeps (mW z5.2 119 48 z5.1) (z5.2 119 53)).bind fun z6 => some (mW z6.2 119 53 z6.1)
set_option maxHeartbeats 4000000 in
set_option maxRecDepth 100000 in
theorem w10_keepsMany (X : Nat × (Nat → Int32)) (I : mI) (s : Nat) (Q : mQ) {res : mI} (hr : r10_keepsMany I = some res) (hQ : Q none NN KK res (PP s)) : mV X m10_keepsMany 1 0 0 0 [.ref 119] [] NN KK I (PP s) Q := by
  unfold r10_keepsMany at hr
  refine mV_aload f10_keepsMany_0 rfl ?_
  refine mV_aload f10_keepsMany_1 rfl ?_
  refine mV_aload f10_keepsMany_2 rfl ?_
  refine mV_gI (I 119 6) f10_keepsMany_3 (by decide) kk_119 rfl rfl ?_
  obtain ⟨z0, hz0, hr⟩ := mBind hr
  refine mV_cV f10_keepsMany_6 tg_m10_keeps mCls10 (by decide) kk_119 (mC_deep (c10_keeps X I s (I 119 6) hz0) (by decide)) rfl rfl (Nat.le_of_ble_eq_true rfl) ?_
  refine mV_putI f10_keepsMany_9 (by decide) kk_119 rfl rfl ?_
  refine mV_aload f10_keepsMany_12 rfl ?_
  refine mV_aload f10_keepsMany_13 rfl ?_
  refine mV_aload f10_keepsMany_14 rfl ?_
  refine mV_gI (z0.2 119 7) f10_keepsMany_15 (by decide) kk_119 rfl rfl ?_
  obtain ⟨z1, hz1, hr⟩ := mBind hr
  refine mV_cV f10_keepsMany_18 tg_m10_keeps mCls10 (by decide) kk_119 (mC_deep (c10_keeps X (mW z0.2 119 6 z0.1) s (z0.2 119 7) hz1) (by decide)) rfl rfl (Nat.le_of_ble_eq_true rfl) ?_
  refine mV_putI f10_keepsMany_21 (by decide) kk_119 rfl rfl ?_
  refine mV_aload f10_keepsMany_24 rfl ?_
  refine mV_aload f10_keepsMany_25 rfl ?_
  refine mV_aload f10_keepsMany_26 rfl ?_
  refine mV_gI (z1.2 119 37) f10_keepsMany_27 (by decide) kk_119 rfl rfl ?_
  obtain ⟨z2, hz2, hr⟩ := mBind hr
  refine mV_cV f10_keepsMany_30 tg_m10_keeps mCls10 (by decide) kk_119 (mC_deep (c10_keeps X (mW z1.2 119 7 z1.1) s (z1.2 119 37) hz2) (by decide)) rfl rfl (Nat.le_of_ble_eq_true rfl) ?_
  refine mV_putI f10_keepsMany_33 (by decide) kk_119 rfl rfl ?_
  refine mV_aload f10_keepsMany_36 rfl ?_
  refine mV_aload f10_keepsMany_37 rfl ?_
  refine mV_aload f10_keepsMany_38 rfl ?_
  refine mV_gI (z2.2 119 39) f10_keepsMany_39 (by decide) kk_119 rfl rfl ?_
  obtain ⟨z3, hz3, hr⟩ := mBind hr
  refine mV_cV f10_keepsMany_42 tg_m10_keeps mCls10 (by decide) kk_119 (mC_deep (c10_keeps X (mW z2.2 119 37 z2.1) s (z2.2 119 39) hz3) (by decide)) rfl rfl (Nat.le_of_ble_eq_true rfl) ?_
  refine mV_putI f10_keepsMany_45 (by decide) kk_119 rfl rfl ?_
  refine mV_aload f10_keepsMany_48 rfl ?_
  refine mV_aload f10_keepsMany_49 rfl ?_
  refine mV_aload f10_keepsMany_50 rfl ?_
  refine mV_gI (z3.2 119 41) f10_keepsMany_51 (by decide) kk_119 rfl rfl ?_
  obtain ⟨z4, hz4, hr⟩ := mBind hr
  refine mV_cV f10_keepsMany_54 tg_m10_keeps mCls10 (by decide) kk_119 (mC_deep (c10_keeps X (mW z3.2 119 39 z3.1) s (z3.2 119 41) hz4) (by decide)) rfl rfl (Nat.le_of_ble_eq_true rfl) ?_
  refine mV_putI f10_keepsMany_57 (by decide) kk_119 rfl rfl ?_
  refine mV_aload f10_keepsMany_60 rfl ?_
  refine mV_aload f10_keepsMany_61 rfl ?_
  refine mV_aload f10_keepsMany_62 rfl ?_
  refine mV_gI (z4.2 119 48) f10_keepsMany_63 (by decide) kk_119 rfl rfl ?_
  obtain ⟨z5, hz5, hr⟩ := mBind hr
  refine mV_cV f10_keepsMany_66 tg_m10_keeps mCls10 (by decide) kk_119 (mC_deep (c10_keeps X (mW z4.2 119 41 z4.1) s (z4.2 119 48) hz5) (by decide)) rfl rfl (Nat.le_of_ble_eq_true rfl) ?_
  refine mV_putI f10_keepsMany_69 (by decide) kk_119 rfl rfl ?_
  refine mV_aload f10_keepsMany_72 rfl ?_
  refine mV_aload f10_keepsMany_73 rfl ?_
  refine mV_aload f10_keepsMany_74 rfl ?_
  refine mV_gI (z5.2 119 53) f10_keepsMany_75 (by decide) kk_119 rfl rfl ?_
  obtain ⟨z6, hz6, hr⟩ := mBind hr
  refine mV_cV f10_keepsMany_78 tg_m10_keeps mCls10 (by decide) kk_119 (mC_deep (c10_keeps X (mW z5.2 119 48 z5.1) s (z5.2 119 53) hz6) (by decide)) rfl rfl (Nat.le_of_ble_eq_true rfl) ?_
  refine mV_putI f10_keepsMany_81 (by decide) kk_119 rfl rfl ?_
  have hr := Option.some.inj hr; subst hr
  exact mV_vret rfl f10_keepsMany_84 hQ
theorem c10_keepsMany (X : Nat × (Nat → Int32)) (I : mI) (s : Nat) {res : mI} (hr : r10_keepsMany I = some res) : mC X m10_keepsMany 1 0 0 [.ref 119] NN KK I (PP s) (mRet none NN KK res (PP s)) :=
  mC_of (L0 := [.ref 119]) rfl (Nat.le_of_ble_eq_true rfl) (w10_keepsMany X I s _ hr (mRet_ok _ _ _ _ _))
def l10_keepsTold_2 : Nat → Int32 → mI → Option (mI)
  | 0, _, _ => none
  | f + 1, y1, I => if (12 : Int32) ≤ (y1 : Int32) then some I else (mLd I 123 12 y1).bind fun z0 => (r10_keeps I z0).bind fun z1 => (mSto z1.2 123 12 y1 z1.1).bind fun z2 => (mLd z2 124 12 y1).bind fun z3 => (r10_keeps z2 z3).bind fun z4 => (mSto z4.2 124 12 y1 z4.1).bind fun z5 => (mLd z5 125 12 y1).bind fun z6 => (r10_keeps z5 z6).bind fun z7 => (mSto z7.2 125 12 y1 z7.1).bind fun z8 => (mLd z8 141 24 y1).bind fun z9 => (r10_keeps z8 z9).bind fun z10 => (mSto z10.2 141 24 y1 z10.1).bind fun z11 => l10_keepsTold_2 f (y1 + 1) z11
def l10_keepsTold_80 : Nat → Int32 → mI → Option (mI)
  | 0, _, _ => none
  | f + 1, y1, I => if (6 : Int32) ≤ (y1 : Int32) then some I else (mLd I 126 6 y1).bind fun z0 => (r10_keeps I z0).bind fun z1 => (mSto z1.2 126 6 y1 z1.1).bind fun z2 => (mLd z2 127 6 y1).bind fun z3 => (r10_keeps z2 z3).bind fun z4 => (mSto z4.2 127 6 y1 z4.1).bind fun z5 => l10_keepsTold_80 f (y1 + 1) z5
def l10_keepsTold_126 : Nat → Int32 → mI → Option (mI)
  | 0, _, _ => none
  | f + 1, y1, I => if (8 : Int32) ≤ (y1 : Int32) then some I else (mLd I 149 8 y1).bind fun z0 => (r10_keeps I z0).bind fun z1 => (mSto z1.2 149 8 y1 z1.1).bind fun z2 => l10_keepsTold_126 f (y1 + 1) z2
def l10_keepsTold_156 : Nat → Int32 → mI → Option (mI)
  | 0, _, _ => none
  | f + 1, y1, I => if (16 : Int32) ≤ (y1 : Int32) then some I else (mLd I 146 16 y1).bind fun z0 => (r10_keeps I z0).bind fun z1 => (mSto z1.2 146 16 y1 z1.1).bind fun z2 => l10_keepsTold_156 f (y1 + 1) z2
def l10_keepsTold_186 : Nat → Int32 → mI → Option (mI)
  | 0, _, _ => none
  | f + 1, y1, I => if (9 : Int32) ≤ (y1 : Int32) then some I else (mLd I 150 9 y1).bind fun z0 => (r10_keeps I z0).bind fun z1 => (mSto z1.2 150 9 y1 z1.1).bind fun z2 => (mLd z2 151 9 y1).bind fun z3 => (r10_keeps z2 z3).bind fun z4 => (mSto z4.2 151 9 y1 z4.1).bind fun z5 => (mLd z5 152 9 y1).bind fun z6 => (r10_keeps z5 z6).bind fun z7 => (mSto z7.2 152 9 y1 z7.1).bind fun z8 => l10_keepsTold_186 f (y1 + 1) z8
def l10_keepsTold_248 : Nat → Int32 → mI → Option (mI)
  | 0, _, _ => none
  | f + 1, y1, I => if (144 : Int32) ≤ (y1 : Int32) then some I else (mLd I 139 288 y1).bind fun z0 => (r10_keeps I z0).bind fun z1 => (mSto z1.2 139 288 y1 z1.1).bind fun z2 => l10_keepsTold_248 f (y1 + 1) z2
def l10_keepsTold_279 : Nat → Int32 → mI → Option (mI)
  | 0, _, _ => none
  | f + 1, y1, I => if (48 : Int32) ≤ (y1 : Int32) then some I else (mLd I 140 96 y1).bind fun z0 => (r10_keeps I z0).bind fun z1 => (mSto z1.2 140 96 y1 z1.1).bind fun z2 => l10_keepsTold_279 f (y1 + 1) z2
def r10_keepsTold (I : mI) : Option (mI) := (l10_keepsTold_2 FU 0 I).bind fun z0 => (l10_keepsTold_80 FU 0 z0).bind fun z1 => (l10_keepsTold_126 FU 0 z1).bind fun z2 => (l10_keepsTold_156 FU 0 z2).bind fun z3 => (l10_keepsTold_186 FU 0 z3).bind fun z4 => (l10_keepsTold_248 FU 0 z4).bind fun z5 => (l10_keepsTold_279 FU 0 z5).bind fun z6 => some z6
set_option maxHeartbeats 4000000 in
set_option maxRecDepth 100000 in
theorem t10_keepsTold_2 (X : Nat × (Nat → Int32)) (Q : mQ) (s : Nat) : ∀ (f : Nat) (y1 : Int32) (I : mI) (z : mI), l10_keepsTold_2 f y1 I = some z → mV X m10_keepsTold 1 0 0 78 [.ref 119, mX0] [] NN KK z (PP s) Q → mV X m10_keepsTold 1 0 0 2 [.ref 119, .int y1] [] NN KK I (PP s) Q := by
  intro f
  induction f with
  | zero => intro y1 I z hr hk; cases hr
  | succ f ih =>
    intro y1 I z hr hk
    unfold l10_keepsTold_2 at hr
    refine mV_iload f10_keepsTold_2 rfl ?_
    refine mV_push f10_keepsTold_3 ?_
    refine mV_icmp_ge f10_keepsTold_5 (fun h0 => ?_) (fun h0 => ?_)
    · rw [if_pos h0] at hr
      have hr := Option.some.inj hr; subst hr
      refine mV_drop (L' := [.ref 119, mX0]) (mSub_k (mSub_x mSub_n)) ?_
      exact hk
    · rw [if_neg h0] at hr
      refine mV_aload f10_keepsTold_8 rfl ?_
      refine mV_getP f10_keepsTold_9 (by decide) kk_119 rfl (pp_119_8 _) ?_
      refine mV_iload f10_keepsTold_12 rfl ?_
      refine mV_aload f10_keepsTold_13 rfl ?_
      refine mV_aload f10_keepsTold_14 rfl ?_
      refine mV_getP f10_keepsTold_15 (by decide) kk_119 rfl (pp_119_8 _) ?_
      refine mV_iload f10_keepsTold_18 rfl ?_
      obtain ⟨z0, hz0, hr⟩ := mBind hr
      refine mV_ldO f10_keepsTold_19 (by decide) kk_123 hz0 ?_
      obtain ⟨z1, hz1, hr⟩ := mBind hr
      refine mV_cV f10_keepsTold_20 tg_m10_keeps mCls10 (by decide) kk_119 (mC_deep (c10_keeps X I s z0 hz1) (by decide)) rfl rfl (Nat.le_of_ble_eq_true rfl) ?_
      obtain ⟨z2, hz2, hr⟩ := mBind hr
      refine mV_stO f10_keepsTold_23 (by decide) kk_123 hz2 ?_
      refine mV_aload f10_keepsTold_24 rfl ?_
      refine mV_getP f10_keepsTold_25 (by decide) kk_119 rfl (pp_119_9 _) ?_
      refine mV_iload f10_keepsTold_28 rfl ?_
      refine mV_aload f10_keepsTold_29 rfl ?_
      refine mV_aload f10_keepsTold_30 rfl ?_
      refine mV_getP f10_keepsTold_31 (by decide) kk_119 rfl (pp_119_9 _) ?_
      refine mV_iload f10_keepsTold_34 rfl ?_
      obtain ⟨z3, hz3, hr⟩ := mBind hr
      refine mV_ldO f10_keepsTold_35 (by decide) kk_124 hz3 ?_
      obtain ⟨z4, hz4, hr⟩ := mBind hr
      refine mV_cV f10_keepsTold_36 tg_m10_keeps mCls10 (by decide) kk_119 (mC_deep (c10_keeps X z2 s z3 hz4) (by decide)) rfl rfl (Nat.le_of_ble_eq_true rfl) ?_
      obtain ⟨z5, hz5, hr⟩ := mBind hr
      refine mV_stO f10_keepsTold_39 (by decide) kk_124 hz5 ?_
      refine mV_aload f10_keepsTold_40 rfl ?_
      refine mV_getP f10_keepsTold_41 (by decide) kk_119 rfl (pp_119_10 _) ?_
      refine mV_iload f10_keepsTold_44 rfl ?_
      refine mV_aload f10_keepsTold_45 rfl ?_
      refine mV_aload f10_keepsTold_46 rfl ?_
      refine mV_getP f10_keepsTold_47 (by decide) kk_119 rfl (pp_119_10 _) ?_
      refine mV_iload f10_keepsTold_50 rfl ?_
      obtain ⟨z6, hz6, hr⟩ := mBind hr
      refine mV_ldO f10_keepsTold_51 (by decide) kk_125 hz6 ?_
      obtain ⟨z7, hz7, hr⟩ := mBind hr
      refine mV_cV f10_keepsTold_52 tg_m10_keeps mCls10 (by decide) kk_119 (mC_deep (c10_keeps X z5 s z6 hz7) (by decide)) rfl rfl (Nat.le_of_ble_eq_true rfl) ?_
      obtain ⟨z8, hz8, hr⟩ := mBind hr
      refine mV_stO f10_keepsTold_55 (by decide) kk_125 hz8 ?_
      refine mV_aload f10_keepsTold_56 rfl ?_
      refine mV_getP f10_keepsTold_57 (by decide) kk_119 rfl (pp_119_42 _) ?_
      refine mV_iload f10_keepsTold_60 rfl ?_
      refine mV_aload f10_keepsTold_61 rfl ?_
      refine mV_aload f10_keepsTold_62 rfl ?_
      refine mV_getP f10_keepsTold_63 (by decide) kk_119 rfl (pp_119_42 _) ?_
      refine mV_iload f10_keepsTold_66 rfl ?_
      obtain ⟨z9, hz9, hr⟩ := mBind hr
      refine mV_ldO f10_keepsTold_67 (by decide) kk_141 hz9 ?_
      obtain ⟨z10, hz10, hr⟩ := mBind hr
      refine mV_cV f10_keepsTold_68 tg_m10_keeps mCls10 (by decide) kk_119 (mC_deep (c10_keeps X z8 s z9 hz10) (by decide)) rfl rfl (Nat.le_of_ble_eq_true rfl) ?_
      obtain ⟨z11, hz11, hr⟩ := mBind hr
      refine mV_stO f10_keepsTold_71 (by decide) kk_141 hz11 ?_
      refine mV_iinc (y := (y1 + 1)) (L' := [.ref 119, .int (y1 + 1)]) f10_keepsTold_72 rfl rfl (by decide) rfl rfl ?_
      refine mV_goto f10_keepsTold_75 ?_
      exact ih (y1 + 1) z11 _ hr hk
set_option maxHeartbeats 4000000 in
set_option maxRecDepth 100000 in
theorem t10_keepsTold_80 (X : Nat × (Nat → Int32)) (Q : mQ) (s : Nat) : ∀ (f : Nat) (y1 : Int32) (I : mI) (z : mI), l10_keepsTold_80 f y1 I = some z → mV X m10_keepsTold 1 0 0 124 [.ref 119, mX0] [] NN KK z (PP s) Q → mV X m10_keepsTold 1 0 0 80 [.ref 119, .int y1] [] NN KK I (PP s) Q := by
  intro f
  induction f with
  | zero => intro y1 I z hr hk; cases hr
  | succ f ih =>
    intro y1 I z hr hk
    unfold l10_keepsTold_80 at hr
    refine mV_iload f10_keepsTold_80 rfl ?_
    refine mV_push f10_keepsTold_81 ?_
    refine mV_icmp_ge f10_keepsTold_83 (fun h0 => ?_) (fun h0 => ?_)
    · rw [if_pos h0] at hr
      have hr := Option.some.inj hr; subst hr
      refine mV_drop (L' := [.ref 119, mX0]) (mSub_k (mSub_x mSub_n)) ?_
      exact hk
    · rw [if_neg h0] at hr
      refine mV_aload f10_keepsTold_86 rfl ?_
      refine mV_getP f10_keepsTold_87 (by decide) kk_119 rfl (pp_119_11 _) ?_
      refine mV_iload f10_keepsTold_90 rfl ?_
      refine mV_aload f10_keepsTold_91 rfl ?_
      refine mV_aload f10_keepsTold_92 rfl ?_
      refine mV_getP f10_keepsTold_93 (by decide) kk_119 rfl (pp_119_11 _) ?_
      refine mV_iload f10_keepsTold_96 rfl ?_
      obtain ⟨z0, hz0, hr⟩ := mBind hr
      refine mV_ldO f10_keepsTold_97 (by decide) kk_126 hz0 ?_
      obtain ⟨z1, hz1, hr⟩ := mBind hr
      refine mV_cV f10_keepsTold_98 tg_m10_keeps mCls10 (by decide) kk_119 (mC_deep (c10_keeps X I s z0 hz1) (by decide)) rfl rfl (Nat.le_of_ble_eq_true rfl) ?_
      obtain ⟨z2, hz2, hr⟩ := mBind hr
      refine mV_stO f10_keepsTold_101 (by decide) kk_126 hz2 ?_
      refine mV_aload f10_keepsTold_102 rfl ?_
      refine mV_getP f10_keepsTold_103 (by decide) kk_119 rfl (pp_119_12 _) ?_
      refine mV_iload f10_keepsTold_106 rfl ?_
      refine mV_aload f10_keepsTold_107 rfl ?_
      refine mV_aload f10_keepsTold_108 rfl ?_
      refine mV_getP f10_keepsTold_109 (by decide) kk_119 rfl (pp_119_12 _) ?_
      refine mV_iload f10_keepsTold_112 rfl ?_
      obtain ⟨z3, hz3, hr⟩ := mBind hr
      refine mV_ldO f10_keepsTold_113 (by decide) kk_127 hz3 ?_
      obtain ⟨z4, hz4, hr⟩ := mBind hr
      refine mV_cV f10_keepsTold_114 tg_m10_keeps mCls10 (by decide) kk_119 (mC_deep (c10_keeps X z2 s z3 hz4) (by decide)) rfl rfl (Nat.le_of_ble_eq_true rfl) ?_
      obtain ⟨z5, hz5, hr⟩ := mBind hr
      refine mV_stO f10_keepsTold_117 (by decide) kk_127 hz5 ?_
      refine mV_iinc (y := (y1 + 1)) (L' := [.ref 119, .int (y1 + 1)]) f10_keepsTold_118 rfl rfl (by decide) rfl rfl ?_
      refine mV_goto f10_keepsTold_121 ?_
      exact ih (y1 + 1) z5 _ hr hk
set_option maxHeartbeats 4000000 in
set_option maxRecDepth 100000 in
theorem t10_keepsTold_126 (X : Nat × (Nat → Int32)) (Q : mQ) (s : Nat) : ∀ (f : Nat) (y1 : Int32) (I : mI) (z : mI), l10_keepsTold_126 f y1 I = some z → mV X m10_keepsTold 1 0 0 154 [.ref 119, mX0] [] NN KK z (PP s) Q → mV X m10_keepsTold 1 0 0 126 [.ref 119, .int y1] [] NN KK I (PP s) Q := by
  intro f
  induction f with
  | zero => intro y1 I z hr hk; cases hr
  | succ f ih =>
    intro y1 I z hr hk
    unfold l10_keepsTold_126 at hr
    refine mV_iload f10_keepsTold_126 rfl ?_
    refine mV_push f10_keepsTold_127 ?_
    refine mV_icmp_ge f10_keepsTold_129 (fun h0 => ?_) (fun h0 => ?_)
    · rw [if_pos h0] at hr
      have hr := Option.some.inj hr; subst hr
      refine mV_drop (L' := [.ref 119, mX0]) (mSub_k (mSub_x mSub_n)) ?_
      exact hk
    · rw [if_neg h0] at hr
      refine mV_aload f10_keepsTold_132 rfl ?_
      refine mV_getP f10_keepsTold_133 (by decide) kk_119 rfl (pp_119_52 _) ?_
      refine mV_iload f10_keepsTold_136 rfl ?_
      refine mV_aload f10_keepsTold_137 rfl ?_
      refine mV_aload f10_keepsTold_138 rfl ?_
      refine mV_getP f10_keepsTold_139 (by decide) kk_119 rfl (pp_119_52 _) ?_
      refine mV_iload f10_keepsTold_142 rfl ?_
      obtain ⟨z0, hz0, hr⟩ := mBind hr
      refine mV_ldO f10_keepsTold_143 (by decide) kk_149 hz0 ?_
      obtain ⟨z1, hz1, hr⟩ := mBind hr
      refine mV_cV f10_keepsTold_144 tg_m10_keeps mCls10 (by decide) kk_119 (mC_deep (c10_keeps X I s z0 hz1) (by decide)) rfl rfl (Nat.le_of_ble_eq_true rfl) ?_
      obtain ⟨z2, hz2, hr⟩ := mBind hr
      refine mV_stO f10_keepsTold_147 (by decide) kk_149 hz2 ?_
      refine mV_iinc (y := (y1 + 1)) (L' := [.ref 119, .int (y1 + 1)]) f10_keepsTold_148 rfl rfl (by decide) rfl rfl ?_
      refine mV_goto f10_keepsTold_151 ?_
      exact ih (y1 + 1) z2 _ hr hk
set_option maxHeartbeats 4000000 in
set_option maxRecDepth 100000 in
theorem t10_keepsTold_156 (X : Nat × (Nat → Int32)) (Q : mQ) (s : Nat) : ∀ (f : Nat) (y1 : Int32) (I : mI) (z : mI), l10_keepsTold_156 f y1 I = some z → mV X m10_keepsTold 1 0 0 184 [.ref 119, mX0] [] NN KK z (PP s) Q → mV X m10_keepsTold 1 0 0 156 [.ref 119, .int y1] [] NN KK I (PP s) Q := by
  intro f
  induction f with
  | zero => intro y1 I z hr hk; cases hr
  | succ f ih =>
    intro y1 I z hr hk
    unfold l10_keepsTold_156 at hr
    refine mV_iload f10_keepsTold_156 rfl ?_
    refine mV_push f10_keepsTold_157 ?_
    refine mV_icmp_ge f10_keepsTold_159 (fun h0 => ?_) (fun h0 => ?_)
    · rw [if_pos h0] at hr
      have hr := Option.some.inj hr; subst hr
      refine mV_drop (L' := [.ref 119, mX0]) (mSub_k (mSub_x mSub_n)) ?_
      exact hk
    · rw [if_neg h0] at hr
      refine mV_aload f10_keepsTold_162 rfl ?_
      refine mV_getP f10_keepsTold_163 (by decide) kk_119 rfl (pp_119_49 _) ?_
      refine mV_iload f10_keepsTold_166 rfl ?_
      refine mV_aload f10_keepsTold_167 rfl ?_
      refine mV_aload f10_keepsTold_168 rfl ?_
      refine mV_getP f10_keepsTold_169 (by decide) kk_119 rfl (pp_119_49 _) ?_
      refine mV_iload f10_keepsTold_172 rfl ?_
      obtain ⟨z0, hz0, hr⟩ := mBind hr
      refine mV_ldO f10_keepsTold_173 (by decide) kk_146 hz0 ?_
      obtain ⟨z1, hz1, hr⟩ := mBind hr
      refine mV_cV f10_keepsTold_174 tg_m10_keeps mCls10 (by decide) kk_119 (mC_deep (c10_keeps X I s z0 hz1) (by decide)) rfl rfl (Nat.le_of_ble_eq_true rfl) ?_
      obtain ⟨z2, hz2, hr⟩ := mBind hr
      refine mV_stO f10_keepsTold_177 (by decide) kk_146 hz2 ?_
      refine mV_iinc (y := (y1 + 1)) (L' := [.ref 119, .int (y1 + 1)]) f10_keepsTold_178 rfl rfl (by decide) rfl rfl ?_
      refine mV_goto f10_keepsTold_181 ?_
      exact ih (y1 + 1) z2 _ hr hk
set_option maxHeartbeats 4000000 in
set_option maxRecDepth 100000 in
theorem t10_keepsTold_186 (X : Nat × (Nat → Int32)) (Q : mQ) (s : Nat) : ∀ (f : Nat) (y1 : Int32) (I : mI) (z : mI), l10_keepsTold_186 f y1 I = some z → mV X m10_keepsTold 1 0 0 246 [.ref 119, mX0] [] NN KK z (PP s) Q → mV X m10_keepsTold 1 0 0 186 [.ref 119, .int y1] [] NN KK I (PP s) Q := by
  intro f
  induction f with
  | zero => intro y1 I z hr hk; cases hr
  | succ f ih =>
    intro y1 I z hr hk
    unfold l10_keepsTold_186 at hr
    refine mV_iload f10_keepsTold_186 rfl ?_
    refine mV_push f10_keepsTold_187 ?_
    refine mV_icmp_ge f10_keepsTold_189 (fun h0 => ?_) (fun h0 => ?_)
    · rw [if_pos h0] at hr
      have hr := Option.some.inj hr; subst hr
      refine mV_drop (L' := [.ref 119, mX0]) (mSub_k (mSub_x mSub_n)) ?_
      exact hk
    · rw [if_neg h0] at hr
      refine mV_aload f10_keepsTold_192 rfl ?_
      refine mV_getP f10_keepsTold_193 (by decide) kk_119 rfl (pp_119_54 _) ?_
      refine mV_iload f10_keepsTold_196 rfl ?_
      refine mV_aload f10_keepsTold_197 rfl ?_
      refine mV_aload f10_keepsTold_198 rfl ?_
      refine mV_getP f10_keepsTold_199 (by decide) kk_119 rfl (pp_119_54 _) ?_
      refine mV_iload f10_keepsTold_202 rfl ?_
      obtain ⟨z0, hz0, hr⟩ := mBind hr
      refine mV_ldO f10_keepsTold_203 (by decide) kk_150 hz0 ?_
      obtain ⟨z1, hz1, hr⟩ := mBind hr
      refine mV_cV f10_keepsTold_204 tg_m10_keeps mCls10 (by decide) kk_119 (mC_deep (c10_keeps X I s z0 hz1) (by decide)) rfl rfl (Nat.le_of_ble_eq_true rfl) ?_
      obtain ⟨z2, hz2, hr⟩ := mBind hr
      refine mV_stO f10_keepsTold_207 (by decide) kk_150 hz2 ?_
      refine mV_aload f10_keepsTold_208 rfl ?_
      refine mV_getP f10_keepsTold_209 (by decide) kk_119 rfl (pp_119_55 _) ?_
      refine mV_iload f10_keepsTold_212 rfl ?_
      refine mV_aload f10_keepsTold_213 rfl ?_
      refine mV_aload f10_keepsTold_214 rfl ?_
      refine mV_getP f10_keepsTold_215 (by decide) kk_119 rfl (pp_119_55 _) ?_
      refine mV_iload f10_keepsTold_218 rfl ?_
      obtain ⟨z3, hz3, hr⟩ := mBind hr
      refine mV_ldO f10_keepsTold_219 (by decide) kk_151 hz3 ?_
      obtain ⟨z4, hz4, hr⟩ := mBind hr
      refine mV_cV f10_keepsTold_220 tg_m10_keeps mCls10 (by decide) kk_119 (mC_deep (c10_keeps X z2 s z3 hz4) (by decide)) rfl rfl (Nat.le_of_ble_eq_true rfl) ?_
      obtain ⟨z5, hz5, hr⟩ := mBind hr
      refine mV_stO f10_keepsTold_223 (by decide) kk_151 hz5 ?_
      refine mV_aload f10_keepsTold_224 rfl ?_
      refine mV_getP f10_keepsTold_225 (by decide) kk_119 rfl (pp_119_56 _) ?_
      refine mV_iload f10_keepsTold_228 rfl ?_
      refine mV_aload f10_keepsTold_229 rfl ?_
      refine mV_aload f10_keepsTold_230 rfl ?_
      refine mV_getP f10_keepsTold_231 (by decide) kk_119 rfl (pp_119_56 _) ?_
      refine mV_iload f10_keepsTold_234 rfl ?_
      obtain ⟨z6, hz6, hr⟩ := mBind hr
      refine mV_ldO f10_keepsTold_235 (by decide) kk_152 hz6 ?_
      obtain ⟨z7, hz7, hr⟩ := mBind hr
      refine mV_cV f10_keepsTold_236 tg_m10_keeps mCls10 (by decide) kk_119 (mC_deep (c10_keeps X z5 s z6 hz7) (by decide)) rfl rfl (Nat.le_of_ble_eq_true rfl) ?_
      obtain ⟨z8, hz8, hr⟩ := mBind hr
      refine mV_stO f10_keepsTold_239 (by decide) kk_152 hz8 ?_
      refine mV_iinc (y := (y1 + 1)) (L' := [.ref 119, .int (y1 + 1)]) f10_keepsTold_240 rfl rfl (by decide) rfl rfl ?_
      refine mV_goto f10_keepsTold_243 ?_
      exact ih (y1 + 1) z8 _ hr hk
set_option maxHeartbeats 4000000 in
set_option maxRecDepth 100000 in
theorem t10_keepsTold_248 (X : Nat × (Nat → Int32)) (Q : mQ) (s : Nat) : ∀ (f : Nat) (y1 : Int32) (I : mI) (z : mI), l10_keepsTold_248 f y1 I = some z → mV X m10_keepsTold 1 0 0 277 [.ref 119, mX0] [] NN KK z (PP s) Q → mV X m10_keepsTold 1 0 0 248 [.ref 119, .int y1] [] NN KK I (PP s) Q := by
  intro f
  induction f with
  | zero => intro y1 I z hr hk; cases hr
  | succ f ih =>
    intro y1 I z hr hk
    unfold l10_keepsTold_248 at hr
    refine mV_iload f10_keepsTold_248 rfl ?_
    refine mV_push f10_keepsTold_249 ?_
    refine mV_icmp_ge f10_keepsTold_252 (fun h0 => ?_) (fun h0 => ?_)
    · rw [if_pos h0] at hr
      have hr := Option.some.inj hr; subst hr
      refine mV_drop (L' := [.ref 119, mX0]) (mSub_k (mSub_x mSub_n)) ?_
      exact hk
    · rw [if_neg h0] at hr
      refine mV_aload f10_keepsTold_255 rfl ?_
      refine mV_getP f10_keepsTold_256 (by decide) kk_119 rfl (pp_119_38 _) ?_
      refine mV_iload f10_keepsTold_259 rfl ?_
      refine mV_aload f10_keepsTold_260 rfl ?_
      refine mV_aload f10_keepsTold_261 rfl ?_
      refine mV_getP f10_keepsTold_262 (by decide) kk_119 rfl (pp_119_38 _) ?_
      refine mV_iload f10_keepsTold_265 rfl ?_
      obtain ⟨z0, hz0, hr⟩ := mBind hr
      refine mV_ldO f10_keepsTold_266 (by decide) kk_139 hz0 ?_
      obtain ⟨z1, hz1, hr⟩ := mBind hr
      refine mV_cV f10_keepsTold_267 tg_m10_keeps mCls10 (by decide) kk_119 (mC_deep (c10_keeps X I s z0 hz1) (by decide)) rfl rfl (Nat.le_of_ble_eq_true rfl) ?_
      obtain ⟨z2, hz2, hr⟩ := mBind hr
      refine mV_stO f10_keepsTold_270 (by decide) kk_139 hz2 ?_
      refine mV_iinc (y := (y1 + 1)) (L' := [.ref 119, .int (y1 + 1)]) f10_keepsTold_271 rfl rfl (by decide) rfl rfl ?_
      refine mV_goto f10_keepsTold_274 ?_
      exact ih (y1 + 1) z2 _ hr hk
set_option maxHeartbeats 4000000 in
set_option maxRecDepth 100000 in
theorem t10_keepsTold_279 (X : Nat × (Nat → Int32)) (Q : mQ) (s : Nat) : ∀ (f : Nat) (y1 : Int32) (I : mI) (z : mI), l10_keepsTold_279 f y1 I = some z → mV X m10_keepsTold 1 0 0 307 [.ref 119, mX0] [] NN KK z (PP s) Q → mV X m10_keepsTold 1 0 0 279 [.ref 119, .int y1] [] NN KK I (PP s) Q := by
  intro f
  induction f with
  | zero => intro y1 I z hr hk; cases hr
  | succ f ih =>
    intro y1 I z hr hk
    unfold l10_keepsTold_279 at hr
    refine mV_iload f10_keepsTold_279 rfl ?_
    refine mV_push f10_keepsTold_280 ?_
    refine mV_icmp_ge f10_keepsTold_282 (fun h0 => ?_) (fun h0 => ?_)
    · rw [if_pos h0] at hr
      have hr := Option.some.inj hr; subst hr
      refine mV_drop (L' := [.ref 119, mX0]) (mSub_k (mSub_x mSub_n)) ?_
      exact hk
    · rw [if_neg h0] at hr
      refine mV_aload f10_keepsTold_285 rfl ?_
      refine mV_getP f10_keepsTold_286 (by decide) kk_119 rfl (pp_119_40 _) ?_
      refine mV_iload f10_keepsTold_289 rfl ?_
      refine mV_aload f10_keepsTold_290 rfl ?_
      refine mV_aload f10_keepsTold_291 rfl ?_
      refine mV_getP f10_keepsTold_292 (by decide) kk_119 rfl (pp_119_40 _) ?_
      refine mV_iload f10_keepsTold_295 rfl ?_
      obtain ⟨z0, hz0, hr⟩ := mBind hr
      refine mV_ldO f10_keepsTold_296 (by decide) kk_140 hz0 ?_
      obtain ⟨z1, hz1, hr⟩ := mBind hr
      refine mV_cV f10_keepsTold_297 tg_m10_keeps mCls10 (by decide) kk_119 (mC_deep (c10_keeps X I s z0 hz1) (by decide)) rfl rfl (Nat.le_of_ble_eq_true rfl) ?_
      obtain ⟨z2, hz2, hr⟩ := mBind hr
      refine mV_stO f10_keepsTold_300 (by decide) kk_140 hz2 ?_
      refine mV_iinc (y := (y1 + 1)) (L' := [.ref 119, .int (y1 + 1)]) f10_keepsTold_301 rfl rfl (by decide) rfl rfl ?_
      refine mV_goto f10_keepsTold_304 ?_
      exact ih (y1 + 1) z2 _ hr hk
set_option maxHeartbeats 4000000 in
set_option maxRecDepth 100000 in
theorem w10_keepsTold (X : Nat × (Nat → Int32)) (I : mI) (s : Nat) (Q : mQ) {res : mI} (hr : r10_keepsTold I = some res) (hQ : Q none NN KK res (PP s)) : mV X m10_keepsTold 1 0 0 0 [.ref 119, mX0] [] NN KK I (PP s) Q := by
  unfold r10_keepsTold at hr
  refine mV_push f10_keepsTold_0 ?_
  refine mV_istore (L' := [.ref 119, .int 0]) f10_keepsTold_1 (by decide) rfl rfl ?_
  obtain ⟨z0, hz0, hr⟩ := mBind hr
  refine t10_keepsTold_2 X Q s FU 0 I _ hz0 ?_
  refine mV_push f10_keepsTold_78 ?_
  refine mV_istore (L' := [.ref 119, .int 0]) f10_keepsTold_79 (by decide) rfl rfl ?_
  obtain ⟨z1, hz1, hr⟩ := mBind hr
  refine t10_keepsTold_80 X Q s FU 0 z0 _ hz1 ?_
  refine mV_push f10_keepsTold_124 ?_
  refine mV_istore (L' := [.ref 119, .int 0]) f10_keepsTold_125 (by decide) rfl rfl ?_
  obtain ⟨z2, hz2, hr⟩ := mBind hr
  refine t10_keepsTold_126 X Q s FU 0 z1 _ hz2 ?_
  refine mV_push f10_keepsTold_154 ?_
  refine mV_istore (L' := [.ref 119, .int 0]) f10_keepsTold_155 (by decide) rfl rfl ?_
  obtain ⟨z3, hz3, hr⟩ := mBind hr
  refine t10_keepsTold_156 X Q s FU 0 z2 _ hz3 ?_
  refine mV_push f10_keepsTold_184 ?_
  refine mV_istore (L' := [.ref 119, .int 0]) f10_keepsTold_185 (by decide) rfl rfl ?_
  obtain ⟨z4, hz4, hr⟩ := mBind hr
  refine t10_keepsTold_186 X Q s FU 0 z3 _ hz4 ?_
  refine mV_push f10_keepsTold_246 ?_
  refine mV_istore (L' := [.ref 119, .int 0]) f10_keepsTold_247 (by decide) rfl rfl ?_
  obtain ⟨z5, hz5, hr⟩ := mBind hr
  refine t10_keepsTold_248 X Q s FU 0 z4 _ hz5 ?_
  refine mV_push f10_keepsTold_277 ?_
  refine mV_istore (L' := [.ref 119, .int 0]) f10_keepsTold_278 (by decide) rfl rfl ?_
  obtain ⟨z6, hz6, hr⟩ := mBind hr
  refine t10_keepsTold_279 X Q s FU 0 z5 _ hz6 ?_
  have hr := Option.some.inj hr; subst hr
  exact mV_vret rfl f10_keepsTold_307 hQ
theorem c10_keepsTold (X : Nat × (Nat → Int32)) (I : mI) (s : Nat) {res : mI} (hr : r10_keepsTold I = some res) : mC X m10_keepsTold 1 0 0 [.ref 119] NN KK I (PP s) (mRet none NN KK res (PP s)) :=
  mC_of (L0 := [.ref 119, mX0]) rfl (Nat.le_of_ble_eq_true rfl) (w10_keepsTold X I s _ hr (mRet_ok _ _ _ _ _))
def l10_image_35 : Nat → Int32 → mI → Option (mI)
  | 0, _, _ => none
  | f + 1, y2, I => if (47 : Int32) ≤ (y2 : Int32) then some I else (mLd I 120 47 y2).bind fun z0 => (r10_keeps I z0).bind fun z1 => (mSto z1.2 120 47 y2 z1.1).bind fun z2 => l10_image_35 f (y2 + 1) z2
def l10_image_73 : Nat → Int32 → mI → Option (mI)
  | 0, _, _ => none
  | f + 1, y2, I => if (600 : Int32) ≤ (y2 : Int32) then some I else (mLd I 128 600 y2).bind fun z0 => (r10_keeps I z0).bind fun z1 => (mSto z1.2 128 600 y2 z1.1).bind fun z2 => l10_image_73 f (y2 + 1) z2
def r10_image (I : mI) (x0 : Int32) : Option (Int32 × mI) := if (x0 : Int32) = (0 : Int32) then if (I 119 59 : Int32) = (0 : Int32) then some (0, (mW I 119 0 0)) else (mBoO x0).bind fun z7 => (l10_image_35 FU 0 (mW (mW (mW (mW I 119 0 0) 119 58 x0) 119 59 1) 119 60 0)).bind fun z8 => (r10_keepsMany z8).bind fun z9 => (r10_keepsTold z9).bind fun z10 => (l10_image_73 FU 0 z10).bind fun z11 => (r10_keepsLaw z11).bind fun z12 => (if (x0 : Int32) = (0 : Int32) then some (mW z12 119 3 0) else some z12 : Option (mI)).bind fun z13 => some (1, z13) else (mBoO x0).bind fun z0 => (l10_image_35 FU 0 (mW (mW (mW (mW I 119 0 0) 119 58 x0) 119 59 1) 119 60 0)).bind fun z1 => (r10_keepsMany z1).bind fun z2 => (r10_keepsTold z2).bind fun z3 => (l10_image_73 FU 0 z3).bind fun z4 => (r10_keepsLaw z4).bind fun z5 => (if (x0 : Int32) = (0 : Int32) then some (mW z5 119 3 0) else some z5 : Option (mI)).bind fun z6 => some (1, z6)
set_option maxHeartbeats 4000000 in
set_option maxRecDepth 100000 in
theorem t10_image_35 (X : Nat × (Nat → Int32)) (Q : mQ) (s : Nat) (k1 : Int32) : ∀ (f : Nat) (y2 : Int32) (I : mI) (z : mI), l10_image_35 f y2 I = some z → mV X m10_image 2 0 0 63 [.ref 119, .int k1, mX0] [] NN KK z (PP s) Q → mV X m10_image 2 0 0 35 [.ref 119, .int k1, .int y2] [] NN KK I (PP s) Q := by
  intro f
  induction f with
  | zero => intro y2 I z hr hk; cases hr
  | succ f ih =>
    intro y2 I z hr hk
    unfold l10_image_35 at hr
    refine mV_iload f10_image_35 rfl ?_
    refine mV_push f10_image_36 ?_
    refine mV_icmp_ge f10_image_38 (fun h0 => ?_) (fun h0 => ?_)
    · rw [if_pos h0] at hr
      have hr := Option.some.inj hr; subst hr
      refine mV_drop (L' := [.ref 119, .int k1, mX0]) (mSub_k (mSub_k (mSub_x mSub_n))) ?_
      exact hk
    · rw [if_neg h0] at hr
      refine mV_aload f10_image_41 rfl ?_
      refine mV_getP f10_image_42 (by decide) kk_119 rfl (pp_119_1 _) ?_
      refine mV_iload f10_image_45 rfl ?_
      refine mV_aload f10_image_46 rfl ?_
      refine mV_aload f10_image_47 rfl ?_
      refine mV_getP f10_image_48 (by decide) kk_119 rfl (pp_119_1 _) ?_
      refine mV_iload f10_image_51 rfl ?_
      obtain ⟨z0, hz0, hr⟩ := mBind hr
      refine mV_ldO f10_image_52 (by decide) kk_120 hz0 ?_
      obtain ⟨z1, hz1, hr⟩ := mBind hr
      refine mV_cV f10_image_53 tg_m10_keeps mCls10 (by decide) kk_119 (mC_deep (c10_keeps X I s z0 hz1) (by decide)) rfl rfl (Nat.le_of_ble_eq_true rfl) ?_
      obtain ⟨z2, hz2, hr⟩ := mBind hr
      refine mV_stO f10_image_56 (by decide) kk_120 hz2 ?_
      refine mV_iinc (y := (y2 + 1)) (L' := [.ref 119, .int k1, .int (y2 + 1)]) f10_image_57 rfl rfl (by decide) rfl rfl ?_
      refine mV_goto f10_image_60 ?_
      exact ih (y2 + 1) z2 _ hr hk
set_option maxHeartbeats 4000000 in
set_option maxRecDepth 100000 in
theorem t10_image_73 (X : Nat × (Nat → Int32)) (Q : mQ) (s : Nat) (k1 : Int32) : ∀ (f : Nat) (y2 : Int32) (I : mI) (z : mI), l10_image_73 f y2 I = some z → mV X m10_image 2 0 0 102 [.ref 119, .int k1, mX0] [] NN KK z (PP s) Q → mV X m10_image 2 0 0 73 [.ref 119, .int k1, .int y2] [] NN KK I (PP s) Q := by
  intro f
  induction f with
  | zero => intro y2 I z hr hk; cases hr
  | succ f ih =>
    intro y2 I z hr hk
    unfold l10_image_73 at hr
    refine mV_iload f10_image_73 rfl ?_
    refine mV_push f10_image_74 ?_
    refine mV_icmp_ge f10_image_77 (fun h0 => ?_) (fun h0 => ?_)
    · rw [if_pos h0] at hr
      have hr := Option.some.inj hr; subst hr
      refine mV_drop (L' := [.ref 119, .int k1, mX0]) (mSub_k (mSub_k (mSub_x mSub_n))) ?_
      exact hk
    · rw [if_neg h0] at hr
      refine mV_aload f10_image_80 rfl ?_
      refine mV_getP f10_image_81 (by decide) kk_119 rfl (pp_119_13 _) ?_
      refine mV_iload f10_image_84 rfl ?_
      refine mV_aload f10_image_85 rfl ?_
      refine mV_aload f10_image_86 rfl ?_
      refine mV_getP f10_image_87 (by decide) kk_119 rfl (pp_119_13 _) ?_
      refine mV_iload f10_image_90 rfl ?_
      obtain ⟨z0, hz0, hr⟩ := mBind hr
      refine mV_ldO f10_image_91 (by decide) kk_128 hz0 ?_
      obtain ⟨z1, hz1, hr⟩ := mBind hr
      refine mV_cV f10_image_92 tg_m10_keeps mCls10 (by decide) kk_119 (mC_deep (c10_keeps X I s z0 hz1) (by decide)) rfl rfl (Nat.le_of_ble_eq_true rfl) ?_
      obtain ⟨z2, hz2, hr⟩ := mBind hr
      refine mV_stO f10_image_95 (by decide) kk_128 hz2 ?_
      refine mV_iinc (y := (y2 + 1)) (L' := [.ref 119, .int k1, .int (y2 + 1)]) f10_image_96 rfl rfl (by decide) rfl rfl ?_
      refine mV_goto f10_image_99 ?_
      exact ih (y2 + 1) z2 _ hr hk
set_option maxHeartbeats 4000000 in
set_option maxRecDepth 100000 in
theorem w10_image (X : Nat × (Nat → Int32)) (I : mI) (s : Nat) (x0 : Int32) (Q : mQ) {res : Int32 × mI} (hr : r10_image I x0 = some res) (hQ : Q (some (.int res.1)) NN KK res.2 (PP s)) : mV X m10_image 2 0 0 0 [.ref 119, .int x0, mX0] [] NN KK I (PP s) Q := by
  unfold r10_image at hr
  refine mV_aload f10_image_0 rfl ?_
  refine mV_push f10_image_1 ?_
  refine mV_putI f10_image_2 (by decide) kk_119 rfl rfl ?_
  refine mV_iload f10_image_5 rfl ?_
  refine mV_if_ne f10_image_6 (fun h0 => ?_) (fun h0 => ?_)
  · rw [if_neg h0] at hr
    refine mV_aload f10_image_18 rfl ?_
    refine mV_iload f10_image_19 rfl ?_
    obtain ⟨z0, hz0, hr⟩ := mBind hr
    refine mV_putB f10_image_20 (by decide) kk_119 rfl rfl hz0 ?_
    refine mV_aload f10_image_23 rfl ?_
    refine mV_push f10_image_24 ?_
    refine mV_putI f10_image_25 (by decide) kk_119 rfl rfl ?_
    refine mV_aload f10_image_28 rfl ?_
    refine mV_push f10_image_29 ?_
    refine mV_putI f10_image_30 (by decide) kk_119 rfl rfl ?_
    refine mV_push f10_image_33 ?_
    refine mV_istore (L' := [.ref 119, .int x0, .int 0]) f10_image_34 (by decide) rfl rfl ?_
    obtain ⟨z1, hz1, hr⟩ := mBind hr
    refine t10_image_35 X Q s x0 FU 0 (mW (mW (mW (mW I 119 0 0) 119 58 x0) 119 59 1) 119 60 0) _ hz1 ?_
    refine mV_aload f10_image_63 rfl ?_
    obtain ⟨z2, hz2, hr⟩ := mBind hr
    refine mV_cV f10_image_64 tg_m10_keepsMany mCls10 (by decide) kk_119 (mC_deep (c10_keepsMany X z1 s hz2) (by decide)) rfl rfl (Nat.le_of_ble_eq_true rfl) ?_
    refine mV_aload f10_image_67 rfl ?_
    obtain ⟨z3, hz3, hr⟩ := mBind hr
    refine mV_cV f10_image_68 tg_m10_keepsTold mCls10 (by decide) kk_119 (mC_deep (c10_keepsTold X z2 s hz3) (by decide)) rfl rfl (Nat.le_of_ble_eq_true rfl) ?_
    refine mV_push f10_image_71 ?_
    refine mV_istore (L' := [.ref 119, .int x0, .int 0]) f10_image_72 (by decide) rfl rfl ?_
    obtain ⟨z4, hz4, hr⟩ := mBind hr
    refine t10_image_73 X Q s x0 FU 0 z3 _ hz4 ?_
    refine mV_aload f10_image_102 rfl ?_
    obtain ⟨z5, hz5, hr⟩ := mBind hr
    refine mV_cV f10_image_103 tg_m10_keepsLaw mCls10 (by decide) kk_119 (mC_deep (c10_keepsLaw X z4 s hz5) (by decide)) rfl rfl (Nat.le_of_ble_eq_true rfl) ?_
    refine mV_iload f10_image_106 rfl ?_
    obtain ⟨z6, hz6, hr⟩ := mBind hr
    have keyz6 : mV X m10_image 2 0 0 115 [.ref 119, mX0, mX0] [] NN KK z6 (PP s) Q := by
      refine mV_push f10_image_115 ?_
      have hr := Option.some.inj hr; subst hr
      exact mV_iret rfl rfl f10_image_116 hQ
    clear hr
    have hr := hz6
    clear hz6
    refine mV_if_ne f10_image_107 (fun h1 => ?_) (fun h1 => ?_)
    · rw [if_neg h1] at hr
      have hr := Option.some.inj hr; subst hr
      refine mV_drop (L' := [.ref 119, mX0, mX0]) (mSub_k (mSub_x (mSub_x mSub_n))) ?_
      exact keyz6
    · rw [if_pos h1] at hr
      refine mV_aload f10_image_110 rfl ?_
      refine mV_push f10_image_111 ?_
      refine mV_putI f10_image_112 (by decide) kk_119 rfl rfl ?_
      have hr := Option.some.inj hr; subst hr
      refine mV_drop (L' := [.ref 119, mX0, mX0]) (mSub_k (mSub_x (mSub_x mSub_n))) ?_
      exact keyz6
  · rw [if_pos h0] at hr
    refine mV_aload f10_image_9 rfl ?_
    refine mV_gI (I 119 59) f10_image_10 (by decide) kk_119 rfl rfl ?_
    refine mV_if_ne f10_image_13 (fun h2 => ?_) (fun h2 => ?_)
    · rw [if_neg h2] at hr
      refine mV_aload f10_image_18 rfl ?_
      refine mV_iload f10_image_19 rfl ?_
      obtain ⟨z7, hz7, hr⟩ := mBind hr
      refine mV_putB f10_image_20 (by decide) kk_119 rfl rfl hz7 ?_
      refine mV_aload f10_image_23 rfl ?_
      refine mV_push f10_image_24 ?_
      refine mV_putI f10_image_25 (by decide) kk_119 rfl rfl ?_
      refine mV_aload f10_image_28 rfl ?_
      refine mV_push f10_image_29 ?_
      refine mV_putI f10_image_30 (by decide) kk_119 rfl rfl ?_
      refine mV_push f10_image_33 ?_
      refine mV_istore (L' := [.ref 119, .int x0, .int 0]) f10_image_34 (by decide) rfl rfl ?_
      obtain ⟨z8, hz8, hr⟩ := mBind hr
      refine t10_image_35 X Q s x0 FU 0 (mW (mW (mW (mW I 119 0 0) 119 58 x0) 119 59 1) 119 60 0) _ hz8 ?_
      refine mV_aload f10_image_63 rfl ?_
      obtain ⟨z9, hz9, hr⟩ := mBind hr
      refine mV_cV f10_image_64 tg_m10_keepsMany mCls10 (by decide) kk_119 (mC_deep (c10_keepsMany X z8 s hz9) (by decide)) rfl rfl (Nat.le_of_ble_eq_true rfl) ?_
      refine mV_aload f10_image_67 rfl ?_
      obtain ⟨z10, hz10, hr⟩ := mBind hr
      refine mV_cV f10_image_68 tg_m10_keepsTold mCls10 (by decide) kk_119 (mC_deep (c10_keepsTold X z9 s hz10) (by decide)) rfl rfl (Nat.le_of_ble_eq_true rfl) ?_
      refine mV_push f10_image_71 ?_
      refine mV_istore (L' := [.ref 119, .int x0, .int 0]) f10_image_72 (by decide) rfl rfl ?_
      obtain ⟨z11, hz11, hr⟩ := mBind hr
      refine t10_image_73 X Q s x0 FU 0 z10 _ hz11 ?_
      refine mV_aload f10_image_102 rfl ?_
      obtain ⟨z12, hz12, hr⟩ := mBind hr
      refine mV_cV f10_image_103 tg_m10_keepsLaw mCls10 (by decide) kk_119 (mC_deep (c10_keepsLaw X z11 s hz12) (by decide)) rfl rfl (Nat.le_of_ble_eq_true rfl) ?_
      refine mV_iload f10_image_106 rfl ?_
      obtain ⟨z13, hz13, hr⟩ := mBind hr
      have keyz13 : mV X m10_image 2 0 0 115 [.ref 119, mX0, mX0] [] NN KK z13 (PP s) Q := by
        refine mV_push f10_image_115 ?_
        have hr := Option.some.inj hr; subst hr
        exact mV_iret rfl rfl f10_image_116 hQ
      clear hr
      have hr := hz13
      clear hz13
      refine mV_if_ne f10_image_107 (fun h3 => ?_) (fun h3 => ?_)
      · rw [if_neg h3] at hr
        have hr := Option.some.inj hr; subst hr
        refine mV_drop (L' := [.ref 119, mX0, mX0]) (mSub_k (mSub_x (mSub_x mSub_n))) ?_
        exact keyz13
      · rw [if_pos h3] at hr
        refine mV_aload f10_image_110 rfl ?_
        refine mV_push f10_image_111 ?_
        refine mV_putI f10_image_112 (by decide) kk_119 rfl rfl ?_
        have hr := Option.some.inj hr; subst hr
        refine mV_drop (L' := [.ref 119, mX0, mX0]) (mSub_k (mSub_x (mSub_x mSub_n))) ?_
        exact keyz13
    · rw [if_pos h2] at hr
      refine mV_push f10_image_16 ?_
      have hr := Option.some.inj hr; subst hr
      exact mV_iret rfl rfl f10_image_17 hQ
theorem c10_image (X : Nat × (Nat → Int32)) (I : mI) (s : Nat) (x0 : Int32) {res : Int32 × mI} (hr : r10_image I x0 = some res) : mC X m10_image 2 0 0 [.ref 119, .int x0] NN KK I (PP s) (mRet (some (.int res.1)) NN KK res.2 (PP s)) :=
  mC_of (L0 := [.ref 119, .int x0, mX0]) rfl (Nat.le_of_ble_eq_true rfl) (w10_image X I s x0 _ hr (mRet_ok _ _ _ _ _))
def r10_look (I : mI) (x0 : Int32) : Option (Int32 × mI) := if (x0 : Int32) = (0 : Int32) then some (I 119 6, (mW I 119 0 0)) else if (x0 : Int32) = (1 : Int32) then some (I 119 7, (mW I 119 0 0)) else if (x0 : Int32) = (2 : Int32) then some (I 120 3, (mW I 119 0 0)) else if (x0 : Int32) = (3 : Int32) then some (I 120 4, (mW I 119 0 0)) else if (x0 : Int32) = (4 : Int32) then some ((r10_dry (mW I 119 0 0)), (mW I 119 0 0)) else if (x0 : Int32) = (5 : Int32) then some (I 120 6, (mW I 119 0 0)) else if (x0 : Int32) = (6 : Int32) then some (I 120 7, (mW I 119 0 0)) else if (x0 : Int32) = (7 : Int32) then some (I 120 8, (mW I 119 0 0)) else if (x0 : Int32) = (8 : Int32) then some (I 120 0, (mW I 119 0 0)) else if (x0 : Int32) = (9 : Int32) then some (I 120 2, (mW I 119 0 0)) else if (x0 : Int32) = (10 : Int32) then some (I 120 1, (mW I 119 0 0)) else if (x0 : Int32) = (11 : Int32) then some (I 131 0, (mW I 119 0 0)) else if (x0 : Int32) = (12 : Int32) then some (I 119 37, (mW I 119 0 0)) else if (x0 : Int32) = (13 : Int32) then some (I 119 39, (mW I 119 0 0)) else if (x0 : Int32) = (14 : Int32) then some (I 119 41, (mW I 119 0 0)) else (if (x0 : Int32) = (15 : Int32) then some (I 119 3) else some (-1) : Option (Int32)).bind fun z0 => some (z0, (mW I 119 0 0))
set_option maxHeartbeats 4000000 in
set_option maxRecDepth 100000 in
theorem w10_look (X : Nat × (Nat → Int32)) (I : mI) (s : Nat) (x0 : Int32) (Q : mQ) {res : Int32 × mI} (hr : r10_look I x0 = some res) (hQ : Q (some (.int res.1)) NN KK res.2 (PP s)) : mV X m10_look 1 0 0 0 [.ref 119, .int x0] [] NN KK I (PP s) Q := by
  unfold r10_look at hr
  refine mV_aload f10_look_0 rfl ?_
  refine mV_push f10_look_1 ?_
  refine mV_putI f10_look_2 (by decide) kk_119 rfl rfl ?_
  refine mV_iload f10_look_5 rfl ?_
  refine mV_if_ne f10_look_6 (fun h0 => ?_) (fun h0 => ?_)
  · rw [if_neg h0] at hr
    refine mV_iload f10_look_14 rfl ?_
    refine mV_push f10_look_15 ?_
    refine mV_icmp_ne f10_look_16 (fun h1 => ?_) (fun h1 => ?_)
    · rw [if_neg h1] at hr
      refine mV_iload f10_look_24 rfl ?_
      refine mV_push f10_look_25 ?_
      refine mV_icmp_ne f10_look_26 (fun h2 => ?_) (fun h2 => ?_)
      · rw [if_neg h2] at hr
        refine mV_iload f10_look_36 rfl ?_
        refine mV_push f10_look_37 ?_
        refine mV_icmp_ne f10_look_38 (fun h3 => ?_) (fun h3 => ?_)
        · rw [if_neg h3] at hr
          refine mV_iload f10_look_48 rfl ?_
          refine mV_push f10_look_49 ?_
          refine mV_icmp_ne f10_look_50 (fun h4 => ?_) (fun h4 => ?_)
          · rw [if_neg h4] at hr
            refine mV_iload f10_look_58 rfl ?_
            refine mV_push f10_look_59 ?_
            refine mV_icmp_ne f10_look_60 (fun h5 => ?_) (fun h5 => ?_)
            · rw [if_neg h5] at hr
              refine mV_iload f10_look_71 rfl ?_
              refine mV_push f10_look_72 ?_
              refine mV_icmp_ne f10_look_74 (fun h6 => ?_) (fun h6 => ?_)
              · rw [if_neg h6] at hr
                refine mV_iload f10_look_85 rfl ?_
                refine mV_push f10_look_86 ?_
                refine mV_icmp_ne f10_look_88 (fun h7 => ?_) (fun h7 => ?_)
                · rw [if_neg h7] at hr
                  refine mV_iload f10_look_99 rfl ?_
                  refine mV_push f10_look_100 ?_
                  refine mV_icmp_ne f10_look_102 (fun h8 => ?_) (fun h8 => ?_)
                  · rw [if_neg h8] at hr
                    refine mV_iload f10_look_112 rfl ?_
                    refine mV_push f10_look_113 ?_
                    refine mV_icmp_ne f10_look_115 (fun h9 => ?_) (fun h9 => ?_)
                    · rw [if_neg h9] at hr
                      refine mV_iload f10_look_125 rfl ?_
                      refine mV_push f10_look_126 ?_
                      refine mV_icmp_ne f10_look_128 (fun h10 => ?_) (fun h10 => ?_)
                      · rw [if_neg h10] at hr
                        refine mV_iload f10_look_138 rfl ?_
                        refine mV_push f10_look_139 ?_
                        refine mV_icmp_ne f10_look_141 (fun h11 => ?_) (fun h11 => ?_)
                        · rw [if_neg h11] at hr
                          refine mV_iload f10_look_151 rfl ?_
                          refine mV_push f10_look_152 ?_
                          refine mV_icmp_ne f10_look_154 (fun h12 => ?_) (fun h12 => ?_)
                          · rw [if_neg h12] at hr
                            refine mV_iload f10_look_162 rfl ?_
                            refine mV_push f10_look_163 ?_
                            refine mV_icmp_ne f10_look_165 (fun h13 => ?_) (fun h13 => ?_)
                            · rw [if_neg h13] at hr
                              refine mV_iload f10_look_173 rfl ?_
                              refine mV_push f10_look_174 ?_
                              refine mV_icmp_ne f10_look_176 (fun h14 => ?_) (fun h14 => ?_)
                              · rw [if_neg h14] at hr
                                refine mV_iload f10_look_184 rfl ?_
                                refine mV_push f10_look_185 ?_
                                obtain ⟨z0, hz0, hr⟩ := mBind hr
                                have keyz0 : mV X m10_look 1 0 0 198 [.ref 119, mX0] [.int z0] NN KK (mW I 119 0 0) (PP s) Q := by
                                  have hr := Option.some.inj hr; subst hr
                                  exact mV_iret rfl rfl f10_look_198 hQ
                                clear hr
                                have hr := hz0
                                clear hz0
                                refine mV_icmp_ne f10_look_187 (fun h15 => ?_) (fun h15 => ?_)
                                · rw [if_neg h15] at hr
                                  refine mV_push f10_look_197 ?_
                                  have hr := Option.some.inj hr; subst hr
                                  refine mV_drop (L' := [.ref 119, mX0]) (mSub_k (mSub_x mSub_n)) ?_
                                  exact keyz0
                                · rw [if_pos h15] at hr
                                  refine mV_aload f10_look_190 rfl ?_
                                  refine mV_gI (I 119 3) f10_look_191 (by decide) kk_119 rfl rfl ?_
                                  refine mV_goto f10_look_194 ?_
                                  have hr := Option.some.inj hr; subst hr
                                  refine mV_drop (L' := [.ref 119, mX0]) (mSub_k (mSub_x mSub_n)) ?_
                                  exact keyz0
                              · rw [if_pos h14] at hr
                                refine mV_aload f10_look_179 rfl ?_
                                refine mV_gI (I 119 41) f10_look_180 (by decide) kk_119 rfl rfl ?_
                                have hr := Option.some.inj hr; subst hr
                                exact mV_iret rfl rfl f10_look_183 hQ
                            · rw [if_pos h13] at hr
                              refine mV_aload f10_look_168 rfl ?_
                              refine mV_gI (I 119 39) f10_look_169 (by decide) kk_119 rfl rfl ?_
                              have hr := Option.some.inj hr; subst hr
                              exact mV_iret rfl rfl f10_look_172 hQ
                          · rw [if_pos h12] at hr
                            refine mV_aload f10_look_157 rfl ?_
                            refine mV_gI (I 119 37) f10_look_158 (by decide) kk_119 rfl rfl ?_
                            have hr := Option.some.inj hr; subst hr
                            exact mV_iret rfl rfl f10_look_161 hQ
                        · rw [if_pos h11] at hr
                          refine mV_aload f10_look_144 rfl ?_
                          refine mV_getP f10_look_145 (by decide) kk_119 rfl (pp_119_21 _) ?_
                          refine mV_push f10_look_148 ?_
                          refine mV_ld (I 131 0) 0 f10_look_149 (by decide) kk_131 (by decide) rfl ?_
                          have hr := Option.some.inj hr; subst hr
                          exact mV_iret rfl rfl f10_look_150 hQ
                      · rw [if_pos h10] at hr
                        refine mV_aload f10_look_131 rfl ?_
                        refine mV_getP f10_look_132 (by decide) kk_119 rfl (pp_119_1 _) ?_
                        refine mV_push f10_look_135 ?_
                        refine mV_ld (I 120 1) 1 f10_look_136 (by decide) kk_120 (by decide) rfl ?_
                        have hr := Option.some.inj hr; subst hr
                        exact mV_iret rfl rfl f10_look_137 hQ
                    · rw [if_pos h9] at hr
                      refine mV_aload f10_look_118 rfl ?_
                      refine mV_getP f10_look_119 (by decide) kk_119 rfl (pp_119_1 _) ?_
                      refine mV_push f10_look_122 ?_
                      refine mV_ld (I 120 2) 2 f10_look_123 (by decide) kk_120 (by decide) rfl ?_
                      have hr := Option.some.inj hr; subst hr
                      exact mV_iret rfl rfl f10_look_124 hQ
                  · rw [if_pos h8] at hr
                    refine mV_aload f10_look_105 rfl ?_
                    refine mV_getP f10_look_106 (by decide) kk_119 rfl (pp_119_1 _) ?_
                    refine mV_push f10_look_109 ?_
                    refine mV_ld (I 120 0) 0 f10_look_110 (by decide) kk_120 (by decide) rfl ?_
                    have hr := Option.some.inj hr; subst hr
                    exact mV_iret rfl rfl f10_look_111 hQ
                · rw [if_pos h7] at hr
                  refine mV_aload f10_look_91 rfl ?_
                  refine mV_getP f10_look_92 (by decide) kk_119 rfl (pp_119_1 _) ?_
                  refine mV_push f10_look_95 ?_
                  refine mV_ld (I 120 8) 8 f10_look_97 (by decide) kk_120 (by decide) rfl ?_
                  have hr := Option.some.inj hr; subst hr
                  exact mV_iret rfl rfl f10_look_98 hQ
              · rw [if_pos h6] at hr
                refine mV_aload f10_look_77 rfl ?_
                refine mV_getP f10_look_78 (by decide) kk_119 rfl (pp_119_1 _) ?_
                refine mV_push f10_look_81 ?_
                refine mV_ld (I 120 7) 7 f10_look_83 (by decide) kk_120 (by decide) rfl ?_
                have hr := Option.some.inj hr; subst hr
                exact mV_iret rfl rfl f10_look_84 hQ
            · rw [if_pos h5] at hr
              refine mV_aload f10_look_63 rfl ?_
              refine mV_getP f10_look_64 (by decide) kk_119 rfl (pp_119_1 _) ?_
              refine mV_push f10_look_67 ?_
              refine mV_ld (I 120 6) 6 f10_look_69 (by decide) kk_120 (by decide) rfl ?_
              have hr := Option.some.inj hr; subst hr
              exact mV_iret rfl rfl f10_look_70 hQ
          · rw [if_pos h4] at hr
            refine mV_aload f10_look_53 rfl ?_
            refine mV_cV f10_look_54 tg_m10_dry mCls10 (by decide) kk_119 (mC_deep (c10_dry X (mW I 119 0 0) s rfl) (by decide)) rfl rfl (Nat.le_of_ble_eq_true rfl) ?_
            have hr := Option.some.inj hr; subst hr
            exact mV_iret rfl rfl f10_look_57 hQ
        · rw [if_pos h3] at hr
          refine mV_aload f10_look_41 rfl ?_
          refine mV_getP f10_look_42 (by decide) kk_119 rfl (pp_119_1 _) ?_
          refine mV_push f10_look_45 ?_
          refine mV_ld (I 120 4) 4 f10_look_46 (by decide) kk_120 (by decide) rfl ?_
          have hr := Option.some.inj hr; subst hr
          exact mV_iret rfl rfl f10_look_47 hQ
      · rw [if_pos h2] at hr
        refine mV_aload f10_look_29 rfl ?_
        refine mV_getP f10_look_30 (by decide) kk_119 rfl (pp_119_1 _) ?_
        refine mV_push f10_look_33 ?_
        refine mV_ld (I 120 3) 3 f10_look_34 (by decide) kk_120 (by decide) rfl ?_
        have hr := Option.some.inj hr; subst hr
        exact mV_iret rfl rfl f10_look_35 hQ
    · rw [if_pos h1] at hr
      refine mV_aload f10_look_19 rfl ?_
      refine mV_gI (I 119 7) f10_look_20 (by decide) kk_119 rfl rfl ?_
      have hr := Option.some.inj hr; subst hr
      exact mV_iret rfl rfl f10_look_23 hQ
  · rw [if_pos h0] at hr
    refine mV_aload f10_look_9 rfl ?_
    refine mV_gI (I 119 6) f10_look_10 (by decide) kk_119 rfl rfl ?_
    have hr := Option.some.inj hr; subst hr
    exact mV_iret rfl rfl f10_look_13 hQ
theorem c10_look (X : Nat × (Nat → Int32)) (I : mI) (s : Nat) (x0 : Int32) {res : Int32 × mI} (hr : r10_look I x0 = some res) : mC X m10_look 1 0 0 [.ref 119, .int x0] NN KK I (PP s) (mRet (some (.int res.1)) NN KK res.2 (PP s)) :=
  mC_of (L0 := [.ref 119, .int x0]) rfl (Nat.le_of_ble_eq_true rfl) (w10_look X I s x0 _ hr (mRet_ok _ _ _ _ _))

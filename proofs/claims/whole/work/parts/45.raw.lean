def l10_goesToNextOrder_7 (I : mI) : Nat → Int32 → Option (Int32)
  | 0, _ => none
  | f + 1, y1 => if (y1 : Int32) < (0 : Int32) then some y1 else (mLd I 144 5 y1).bind fun z0 => (mLd I 144 5 (y1 + 1)).bind fun z1 => if (z0 : Int32) ≤ (z1 : Int32) then some y1 else l10_goesToNextOrder_7 I f (y1 - 1)
def l10_goesToNextOrder_48 (I : mI) (k1 : Int32) : Nat → Int32 → Option (Int32)
  | 0, _ => none
  | f + 1, y2 => (mLd I 144 5 y2).bind fun z0 => (mLd I 144 5 k1).bind fun z1 => if (z1 : Int32) ≤ (z0 : Int32) then some y2 else l10_goesToNextOrder_48 I k1 f (y2 - 1)
def l10_goesToNextOrder_109 : Nat → Int32 → Int32 → mI → Option (mI)
  | 0, _, _, _ => none
  | f + 1, y4, y5, I => if (y4 : Int32) ≤ (y5 : Int32) then some I else (mLd I 144 5 y5).bind fun z0 => (mLd I 144 5 y4).bind fun z1 => (mSto I 144 5 y5 z1).bind fun z2 => (mSto z2 144 5 y4 z0).bind fun z3 => l10_goesToNextOrder_109 f (y4 - 1) (y5 + 1) z3
def r10_goesToNextOrder (I : mI) : Option (Int32 × mI) := (l10_goesToNextOrder_7 I FU (I 119 45 - 2)).bind fun z0 => if (0 : Int32) ≤ (z0 : Int32) then (l10_goesToNextOrder_48 I z0 FU (I 119 45 - 1)).bind fun z1 => (mLd I 144 5 z0).bind fun z2 => (mLd I 144 5 z1).bind fun z3 => (mSto I 144 5 z0 z3).bind fun z4 => (mSto z4 144 5 z1 z2).bind fun z5 => (l10_goesToNextOrder_109 FU (z5 119 45 - 1) (z0 + 1) z5).bind fun z6 => some (1, z6) else some (0, I)
set_option maxHeartbeats 4000000 in
set_option maxRecDepth 100000 in
theorem t10_goesToNextOrder_7 (X : Nat × (Nat → Int32)) (Q : mQ) (s : Nat) (I : mI) : ∀ (f : Nat) (y1 : Int32) (z : Int32), l10_goesToNextOrder_7 I f y1 = some z → mV X m10_goesToNextOrder 0 0 0 35 [.ref 119, .int z, mX0, mX0, mX0, mX0] [] NN KK I (PP s) Q → mV X m10_goesToNextOrder 0 0 0 7 [.ref 119, .int y1, mX0, mX0, mX0, mX0] [] NN KK I (PP s) Q := by
  intro f
  induction f with
  | zero => intro y1 z hr hk; cases hr
  | succ f ih =>
    intro y1 z hr hk
    unfold l10_goesToNextOrder_7 at hr
    refine mV_iload f10_goesToNextOrder_7 rfl ?_
    refine mV_if_lt f10_goesToNextOrder_8 (fun h0 => ?_) (fun h0 => ?_)
    · rw [if_pos h0] at hr
      have hr := Option.some.inj hr; subst hr
      exact hk
    · rw [if_neg h0] at hr
      refine mV_aload f10_goesToNextOrder_11 rfl ?_
      refine mV_getP f10_goesToNextOrder_12 (by decide) kk_119 rfl (pp_119_46 _) ?_
      refine mV_iload f10_goesToNextOrder_15 rfl ?_
      obtain ⟨z0, hz0, hr⟩ := mBind hr
      refine mV_ldO f10_goesToNextOrder_16 (by decide) kk_144 hz0 ?_
      refine mV_aload f10_goesToNextOrder_17 rfl ?_
      refine mV_getP f10_goesToNextOrder_18 (by decide) kk_119 rfl (pp_119_46 _) ?_
      refine mV_iload f10_goesToNextOrder_21 rfl ?_
      refine mV_push f10_goesToNextOrder_22 ?_
      refine mV_iadd f10_goesToNextOrder_23 ?_
      obtain ⟨z1, hz1, hr⟩ := mBind hr
      refine mV_ldO f10_goesToNextOrder_24 (by decide) kk_144 hz1 ?_
      refine mV_icmp_le f10_goesToNextOrder_25 (fun h1 => ?_) (fun h1 => ?_)
      · rw [if_pos h1] at hr
        have hr := Option.some.inj hr; subst hr
        exact hk
      · rw [if_neg h1] at hr
        refine mV_iload f10_goesToNextOrder_28 rfl ?_
        refine mV_push f10_goesToNextOrder_29 ?_
        refine mV_isub f10_goesToNextOrder_30 ?_
        refine mV_istore (L' := [.ref 119, .int (y1 - 1), mX0, mX0, mX0, mX0]) f10_goesToNextOrder_31 (by decide) rfl rfl ?_
        refine mV_goto f10_goesToNextOrder_32 ?_
        exact ih (y1 - 1) _ hr hk
set_option maxHeartbeats 4000000 in
set_option maxRecDepth 100000 in
theorem t10_goesToNextOrder_48 (X : Nat × (Nat → Int32)) (Q : mQ) (s : Nat) (I : mI) (k1 : Int32) : ∀ (f : Nat) (y2 : Int32) (z : Int32), l10_goesToNextOrder_48 I k1 f y2 = some z → mV X m10_goesToNextOrder 0 0 0 70 [.ref 119, .int k1, .int z, mX0, mX0, mX0] [] NN KK I (PP s) Q → mV X m10_goesToNextOrder 0 0 0 48 [.ref 119, .int k1, .int y2, mX0, mX0, mX0] [] NN KK I (PP s) Q := by
  intro f
  induction f with
  | zero => intro y2 z hr hk; cases hr
  | succ f ih =>
    intro y2 z hr hk
    unfold l10_goesToNextOrder_48 at hr
    refine mV_aload f10_goesToNextOrder_48 rfl ?_
    refine mV_getP f10_goesToNextOrder_49 (by decide) kk_119 rfl (pp_119_46 _) ?_
    refine mV_iload f10_goesToNextOrder_52 rfl ?_
    obtain ⟨z0, hz0, hr⟩ := mBind hr
    refine mV_ldO f10_goesToNextOrder_53 (by decide) kk_144 hz0 ?_
    refine mV_aload f10_goesToNextOrder_54 rfl ?_
    refine mV_getP f10_goesToNextOrder_55 (by decide) kk_119 rfl (pp_119_46 _) ?_
    refine mV_iload f10_goesToNextOrder_58 rfl ?_
    obtain ⟨z1, hz1, hr⟩ := mBind hr
    refine mV_ldO f10_goesToNextOrder_59 (by decide) kk_144 hz1 ?_
    refine mV_icmp_ge f10_goesToNextOrder_60 (fun h0 => ?_) (fun h0 => ?_)
    · rw [if_pos h0] at hr
      have hr := Option.some.inj hr; subst hr
      exact hk
    · rw [if_neg h0] at hr
      refine mV_iload f10_goesToNextOrder_63 rfl ?_
      refine mV_push f10_goesToNextOrder_64 ?_
      refine mV_isub f10_goesToNextOrder_65 ?_
      refine mV_istore (L' := [.ref 119, .int k1, .int (y2 - 1), mX0, mX0, mX0]) f10_goesToNextOrder_66 (by decide) rfl rfl ?_
      refine mV_goto f10_goesToNextOrder_67 ?_
      exact ih (y2 - 1) _ hr hk
set_option maxHeartbeats 4000000 in
set_option maxRecDepth 100000 in
theorem t10_goesToNextOrder_109 (X : Nat × (Nat → Int32)) (Q : mQ) (s : Nat) : ∀ (f : Nat) (y4 : Int32) (y5 : Int32) (I : mI) (z : mI), l10_goesToNextOrder_109 f y4 y5 I = some z → mV X m10_goesToNextOrder 0 0 0 158 [.ref 119, mX0, mX0, mX0, mX0, mX0] [] NN KK z (PP s) Q → mV X m10_goesToNextOrder 0 0 0 109 [.ref 119, mX0, mX0, mX0, .int y4, .int y5] [] NN KK I (PP s) Q := by
  intro f
  induction f with
  | zero => intro y4 y5 I z hr hk; cases hr
  | succ f ih =>
    intro y4 y5 I z hr hk
    unfold l10_goesToNextOrder_109 at hr
    refine mV_iload f10_goesToNextOrder_109 rfl ?_
    refine mV_iload f10_goesToNextOrder_111 rfl ?_
    refine mV_icmp_ge f10_goesToNextOrder_113 (fun h0 => ?_) (fun h0 => ?_)
    · rw [if_pos h0] at hr
      have hr := Option.some.inj hr; subst hr
      refine mV_drop (L' := [.ref 119, mX0, mX0, mX0, mX0, mX0]) (mSub_k (mSub_x (mSub_x (mSub_x (mSub_x (mSub_x mSub_n)))))) ?_
      exact hk
    · rw [if_neg h0] at hr
      refine mV_aload f10_goesToNextOrder_116 rfl ?_
      refine mV_getP f10_goesToNextOrder_117 (by decide) kk_119 rfl (pp_119_46 _) ?_
      refine mV_iload f10_goesToNextOrder_120 rfl ?_
      obtain ⟨z0, hz0, hr⟩ := mBind hr
      refine mV_ldO f10_goesToNextOrder_122 (by decide) kk_144 hz0 ?_
      refine mV_istore (L' := [.ref 119, mX0, mX0, .int z0, .int y4, .int y5]) f10_goesToNextOrder_123 (by decide) rfl rfl ?_
      refine mV_aload f10_goesToNextOrder_124 rfl ?_
      refine mV_getP f10_goesToNextOrder_125 (by decide) kk_119 rfl (pp_119_46 _) ?_
      refine mV_iload f10_goesToNextOrder_128 rfl ?_
      refine mV_aload f10_goesToNextOrder_130 rfl ?_
      refine mV_getP f10_goesToNextOrder_131 (by decide) kk_119 rfl (pp_119_46 _) ?_
      refine mV_iload f10_goesToNextOrder_134 rfl ?_
      obtain ⟨z1, hz1, hr⟩ := mBind hr
      refine mV_ldO f10_goesToNextOrder_136 (by decide) kk_144 hz1 ?_
      obtain ⟨z2, hz2, hr⟩ := mBind hr
      refine mV_stO f10_goesToNextOrder_137 (by decide) kk_144 hz2 ?_
      refine mV_aload f10_goesToNextOrder_138 rfl ?_
      refine mV_getP f10_goesToNextOrder_139 (by decide) kk_119 rfl (pp_119_46 _) ?_
      refine mV_iload f10_goesToNextOrder_142 rfl ?_
      refine mV_iload f10_goesToNextOrder_144 rfl ?_
      obtain ⟨z3, hz3, hr⟩ := mBind hr
      refine mV_stO f10_goesToNextOrder_145 (by decide) kk_144 hz3 ?_
      refine mV_iload f10_goesToNextOrder_146 rfl ?_
      refine mV_push f10_goesToNextOrder_148 ?_
      refine mV_isub f10_goesToNextOrder_149 ?_
      refine mV_istore (L' := [.ref 119, mX0, mX0, .int z0, .int (y4 - 1), .int y5]) f10_goesToNextOrder_150 (by decide) rfl rfl ?_
      refine mV_iinc (y := (y5 + 1)) (L' := [.ref 119, mX0, mX0, .int z0, .int (y4 - 1), .int (y5 + 1)]) f10_goesToNextOrder_152 rfl rfl (by decide) rfl rfl ?_
      refine mV_goto f10_goesToNextOrder_155 ?_
      refine mV_drop (L' := [.ref 119, mX0, mX0, mX0, .int (y4 - 1), .int (y5 + 1)]) (mSub_k (mSub_x (mSub_x (mSub_x (mSub_k (mSub_k mSub_n)))))) ?_
      exact ih (y4 - 1) (y5 + 1) z3 _ hr hk
set_option maxHeartbeats 4000000 in
set_option maxRecDepth 100000 in
theorem w10_goesToNextOrder (X : Nat × (Nat → Int32)) (I : mI) (s : Nat) (Q : mQ) {res : Int32 × mI} (hr : r10_goesToNextOrder I = some res) (hQ : Q (some (.int res.1)) NN KK res.2 (PP s)) : mV X m10_goesToNextOrder 0 0 0 0 [.ref 119, mX0, mX0, mX0, mX0, mX0] [] NN KK I (PP s) Q := by
  unfold r10_goesToNextOrder at hr
  refine mV_aload f10_goesToNextOrder_0 rfl ?_
  refine mV_gI (I 119 45) f10_goesToNextOrder_1 (by decide) kk_119 rfl rfl ?_
  refine mV_push f10_goesToNextOrder_4 ?_
  refine mV_isub f10_goesToNextOrder_5 ?_
  refine mV_istore (L' := [.ref 119, .int (I 119 45 - 2), mX0, mX0, mX0, mX0]) f10_goesToNextOrder_6 (by decide) rfl rfl ?_
  obtain ⟨z0, hz0, hr⟩ := mBind hr
  refine t10_goesToNextOrder_7 X Q s I FU (I 119 45 - 2) _ hz0 ?_
  refine mV_iload f10_goesToNextOrder_35 rfl ?_
  refine mV_if_ge f10_goesToNextOrder_36 (fun h0 => ?_) (fun h0 => ?_)
  · rw [if_pos h0] at hr
    refine mV_aload f10_goesToNextOrder_41 rfl ?_
    refine mV_gI (I 119 45) f10_goesToNextOrder_42 (by decide) kk_119 rfl rfl ?_
    refine mV_push f10_goesToNextOrder_45 ?_
    refine mV_isub f10_goesToNextOrder_46 ?_
    refine mV_istore (L' := [.ref 119, .int z0, .int (I 119 45 - 1), mX0, mX0, mX0]) f10_goesToNextOrder_47 (by decide) rfl rfl ?_
    obtain ⟨z1, hz1, hr⟩ := mBind hr
    refine t10_goesToNextOrder_48 X Q s I z0 FU (I 119 45 - 1) _ hz1 ?_
    refine mV_aload f10_goesToNextOrder_70 rfl ?_
    refine mV_getP f10_goesToNextOrder_71 (by decide) kk_119 rfl (pp_119_46 _) ?_
    refine mV_iload f10_goesToNextOrder_74 rfl ?_
    obtain ⟨z2, hz2, hr⟩ := mBind hr
    refine mV_ldO f10_goesToNextOrder_75 (by decide) kk_144 hz2 ?_
    refine mV_istore (L' := [.ref 119, .int z0, .int z1, .int z2, mX0, mX0]) f10_goesToNextOrder_76 (by decide) rfl rfl ?_
    refine mV_aload f10_goesToNextOrder_77 rfl ?_
    refine mV_getP f10_goesToNextOrder_78 (by decide) kk_119 rfl (pp_119_46 _) ?_
    refine mV_iload f10_goesToNextOrder_81 rfl ?_
    refine mV_aload f10_goesToNextOrder_82 rfl ?_
    refine mV_getP f10_goesToNextOrder_83 (by decide) kk_119 rfl (pp_119_46 _) ?_
    refine mV_iload f10_goesToNextOrder_86 rfl ?_
    obtain ⟨z3, hz3, hr⟩ := mBind hr
    refine mV_ldO f10_goesToNextOrder_87 (by decide) kk_144 hz3 ?_
    obtain ⟨z4, hz4, hr⟩ := mBind hr
    refine mV_stO f10_goesToNextOrder_88 (by decide) kk_144 hz4 ?_
    refine mV_aload f10_goesToNextOrder_89 rfl ?_
    refine mV_getP f10_goesToNextOrder_90 (by decide) kk_119 rfl (pp_119_46 _) ?_
    refine mV_iload f10_goesToNextOrder_93 rfl ?_
    refine mV_iload f10_goesToNextOrder_94 rfl ?_
    obtain ⟨z5, hz5, hr⟩ := mBind hr
    refine mV_stO f10_goesToNextOrder_95 (by decide) kk_144 hz5 ?_
    refine mV_aload f10_goesToNextOrder_96 rfl ?_
    refine mV_gI (z5 119 45) f10_goesToNextOrder_97 (by decide) kk_119 rfl rfl ?_
    refine mV_push f10_goesToNextOrder_100 ?_
    refine mV_isub f10_goesToNextOrder_101 ?_
    refine mV_istore (L' := [.ref 119, .int z0, .int z1, .int z2, .int (z5 119 45 - 1), mX0]) f10_goesToNextOrder_102 (by decide) rfl rfl ?_
    refine mV_iload f10_goesToNextOrder_104 rfl ?_
    refine mV_push f10_goesToNextOrder_105 ?_
    refine mV_iadd f10_goesToNextOrder_106 ?_
    refine mV_istore (L' := [.ref 119, .int z0, .int z1, .int z2, .int (z5 119 45 - 1), .int (z0 + 1)]) f10_goesToNextOrder_107 (by decide) rfl rfl ?_
    obtain ⟨z6, hz6, hr⟩ := mBind hr
    refine mV_drop (L' := [.ref 119, mX0, mX0, mX0, .int (z5 119 45 - 1), .int (z0 + 1)]) (mSub_k (mSub_x (mSub_x (mSub_x (mSub_k (mSub_k mSub_n)))))) ?_
    refine t10_goesToNextOrder_109 X Q s FU (z5 119 45 - 1) (z0 + 1) z5 _ hz6 ?_
    refine mV_push f10_goesToNextOrder_158 ?_
    have hr := Option.some.inj hr; subst hr
    exact mV_iret rfl rfl f10_goesToNextOrder_159 hQ
  · rw [if_neg h0] at hr
    refine mV_push f10_goesToNextOrder_39 ?_
    have hr := Option.some.inj hr; subst hr
    exact mV_iret rfl rfl f10_goesToNextOrder_40 hQ
theorem c10_goesToNextOrder (X : Nat × (Nat → Int32)) (I : mI) (s : Nat) {res : Int32 × mI} (hr : r10_goesToNextOrder I = some res) : mC X m10_goesToNextOrder 0 0 0 [.ref 119] NN KK I (PP s) (mRet (some (.int res.1)) NN KK res.2 (PP s)) :=
  mC_of (L0 := [.ref 119, mX0, mX0, mX0, mX0, mX0]) rfl (Nat.le_of_ble_eq_true rfl) (w10_goesToNextOrder X I s _ hr (mRet_ok _ _ _ _ _))
def l10_minutesOf_22 (k1 : Int32) : Nat → Int32 → mI → Option (mI)
  | 0, _, _ => none
  | f + 1, y3, I => if (I 119 45 : Int32) ≤ (y3 : Int32) then some I else (mLd I 144 5 y3).bind fun z0 => (r10_plays I k1 z0).bind fun z1 => (if ((z1.2 119 45 - 1) : Int32) ≤ (y3 : Int32) then some z1.2 else (mLd z1.2 144 5 y3).bind fun z3 => (r10_waits1 z1.2 k1 z3).bind fun z4 => some z4 : Option (mI)).bind fun z2 => l10_minutesOf_22 k1 f (y3 + 1) z2
def r10_minutesOf (I : mI) (x0 : Int32) : Option (Int32 × mI) := (r10_thinks I).bind fun z0 => (l10_minutesOf_22 x0 FU 0 z0).bind fun z1 => (r10_endsThought z1).bind fun z2 => some (((z1 120 7 + z1 120 8) - (z0 120 7 + z0 120 8)), z2)
set_option maxHeartbeats 4000000 in
set_option maxRecDepth 100000 in
theorem t10_minutesOf_22 (X : Nat × (Nat → Int32)) (Q : mQ) (s : Nat) (k1 : Int32) (k2 : Int32) : ∀ (f : Nat) (y3 : Int32) (I : mI) (z : mI), l10_minutesOf_22 k1 f y3 I = some z → mV X m10_minutesOf 7 0 0 69 [.ref 119, .int k1, .int k2, mX0] [] NN KK z (PP s) Q → mV X m10_minutesOf 7 0 0 22 [.ref 119, .int k1, .int k2, .int y3] [] NN KK I (PP s) Q := by
  intro f
  induction f with
  | zero => intro y3 I z hr hk; cases hr
  | succ f ih =>
    intro y3 I z hr hk
    unfold l10_minutesOf_22 at hr
    refine mV_iload f10_minutesOf_22 rfl ?_
    refine mV_aload f10_minutesOf_23 rfl ?_
    refine mV_gI (I 119 45) f10_minutesOf_24 (by decide) kk_119 rfl rfl ?_
    refine mV_icmp_ge f10_minutesOf_27 (fun h0 => ?_) (fun h0 => ?_)
    · rw [if_pos h0] at hr
      have hr := Option.some.inj hr; subst hr
      refine mV_drop (L' := [.ref 119, .int k1, .int k2, mX0]) (mSub_k (mSub_k (mSub_k (mSub_x mSub_n)))) ?_
      exact hk
    · rw [if_neg h0] at hr
      refine mV_aload f10_minutesOf_30 rfl ?_
      refine mV_iload f10_minutesOf_31 rfl ?_
      refine mV_aload f10_minutesOf_32 rfl ?_
      refine mV_getP f10_minutesOf_33 (by decide) kk_119 rfl (pp_119_46 _) ?_
      refine mV_iload f10_minutesOf_36 rfl ?_
      obtain ⟨z0, hz0, hr⟩ := mBind hr
      refine mV_ldO f10_minutesOf_37 (by decide) kk_144 hz0 ?_
      obtain ⟨z1, hz1, hr⟩ := mBind hr
      refine mV_cV f10_minutesOf_38 tg_m10_plays mCls10 (by decide) kk_119 (mC_deep (c10_plays X I s k1 z0 hz1) (by decide)) rfl rfl (Nat.le_of_ble_eq_true rfl) ?_
      refine mV_pop f10_minutesOf_41 rfl ?_
      refine mV_iload f10_minutesOf_42 rfl ?_
      refine mV_aload f10_minutesOf_43 rfl ?_
      refine mV_gI (z1.2 119 45) f10_minutesOf_44 (by decide) kk_119 rfl rfl ?_
      refine mV_push f10_minutesOf_47 ?_
      refine mV_isub f10_minutesOf_48 ?_
      obtain ⟨z2, hz2, hr⟩ := mBind hr
      have keyz2 : mV X m10_minutesOf 7 0 0 63 [.ref 119, .int k1, .int k2, .int y3] [] NN KK z2 (PP s) Q := by
        refine mV_iinc (y := (y3 + 1)) (L' := [.ref 119, .int k1, .int k2, .int (y3 + 1)]) f10_minutesOf_63 rfl rfl (by decide) rfl rfl ?_
        refine mV_goto f10_minutesOf_66 ?_
        exact ih (y3 + 1) z2 _ hr hk
      clear hr
      have hr := hz2
      clear hz2
      refine mV_icmp_ge f10_minutesOf_49 (fun h1 => ?_) (fun h1 => ?_)
      · rw [if_pos h1] at hr
        have hr := Option.some.inj hr; subst hr
        exact keyz2
      · rw [if_neg h1] at hr
        refine mV_aload f10_minutesOf_52 rfl ?_
        refine mV_iload f10_minutesOf_53 rfl ?_
        refine mV_aload f10_minutesOf_54 rfl ?_
        refine mV_getP f10_minutesOf_55 (by decide) kk_119 rfl (pp_119_46 _) ?_
        refine mV_iload f10_minutesOf_58 rfl ?_
        obtain ⟨z3, hz3, hr⟩ := mBind hr
        refine mV_ldO f10_minutesOf_59 (by decide) kk_144 hz3 ?_
        obtain ⟨z4, hz4, hr⟩ := mBind hr
        refine mV_cV f10_minutesOf_60 tg_m10_waits1 mCls10 (by decide) kk_119 (mC_deep (c10_waits1 X z1.2 s k1 z3 hz4) (by decide)) rfl rfl (Nat.le_of_ble_eq_true rfl) ?_
        have hr := Option.some.inj hr; subst hr
        exact keyz2
set_option maxHeartbeats 4000000 in
set_option maxRecDepth 100000 in
theorem w10_minutesOf (X : Nat × (Nat → Int32)) (I : mI) (s : Nat) (x0 : Int32) (Q : mQ) {res : Int32 × mI} (hr : r10_minutesOf I x0 = some res) (hQ : Q (some (.int res.1)) NN KK res.2 (PP s)) : mV X m10_minutesOf 7 0 0 0 [.ref 119, .int x0, mX0, mX0] [] NN KK I (PP s) Q := by
  unfold r10_minutesOf at hr
  refine mV_aload f10_minutesOf_0 rfl ?_
  obtain ⟨z0, hz0, hr⟩ := mBind hr
  refine mV_cV f10_minutesOf_1 tg_m10_thinks mCls10 (by decide) kk_119 (mC_deep (c10_thinks X I s hz0) (by decide)) rfl rfl (Nat.le_of_ble_eq_true rfl) ?_
  refine mV_aload f10_minutesOf_4 rfl ?_
  refine mV_getP f10_minutesOf_5 (by decide) kk_119 rfl (pp_119_1 _) ?_
  refine mV_push f10_minutesOf_8 ?_
  refine mV_ld (z0 120 7) 7 f10_minutesOf_10 (by decide) kk_120 (by decide) rfl ?_
  refine mV_aload f10_minutesOf_11 rfl ?_
  refine mV_getP f10_minutesOf_12 (by decide) kk_119 rfl (pp_119_1 _) ?_
  refine mV_push f10_minutesOf_15 ?_
  refine mV_ld (z0 120 8) 8 f10_minutesOf_17 (by decide) kk_120 (by decide) rfl ?_
  refine mV_iadd f10_minutesOf_18 ?_
  refine mV_istore (L' := [.ref 119, .int x0, .int (z0 120 7 + z0 120 8), mX0]) f10_minutesOf_19 (by decide) rfl rfl ?_
  refine mV_push f10_minutesOf_20 ?_
  refine mV_istore (L' := [.ref 119, .int x0, .int (z0 120 7 + z0 120 8), .int 0]) f10_minutesOf_21 (by decide) rfl rfl ?_
  obtain ⟨z1, hz1, hr⟩ := mBind hr
  refine t10_minutesOf_22 X Q s x0 (z0 120 7 + z0 120 8) FU 0 z0 _ hz1 ?_
  refine mV_aload f10_minutesOf_69 rfl ?_
  refine mV_getP f10_minutesOf_70 (by decide) kk_119 rfl (pp_119_1 _) ?_
  refine mV_push f10_minutesOf_73 ?_
  refine mV_ld (z1 120 7) 7 f10_minutesOf_75 (by decide) kk_120 (by decide) rfl ?_
  refine mV_aload f10_minutesOf_76 rfl ?_
  refine mV_getP f10_minutesOf_77 (by decide) kk_119 rfl (pp_119_1 _) ?_
  refine mV_push f10_minutesOf_80 ?_
  refine mV_ld (z1 120 8) 8 f10_minutesOf_82 (by decide) kk_120 (by decide) rfl ?_
  refine mV_iadd f10_minutesOf_83 ?_
  refine mV_iload f10_minutesOf_84 rfl ?_
  refine mV_isub f10_minutesOf_85 ?_
  refine mV_istore (L' := [.ref 119, .int x0, .int (z0 120 7 + z0 120 8), .int ((z1 120 7 + z1 120 8) - (z0 120 7 + z0 120 8))]) f10_minutesOf_86 (by decide) rfl rfl ?_
  refine mV_aload f10_minutesOf_87 rfl ?_
  obtain ⟨z2, hz2, hr⟩ := mBind hr
  refine mV_cV f10_minutesOf_88 tg_m10_endsThought mCls10 (by decide) kk_119 (mC_deep (c10_endsThought X z1 s hz2) (by decide)) rfl rfl (Nat.le_of_ble_eq_true rfl) ?_
  refine mV_iload f10_minutesOf_91 rfl ?_
  have hr := Option.some.inj hr; subst hr
  exact mV_iret rfl rfl f10_minutesOf_92 hQ
theorem c10_minutesOf (X : Nat × (Nat → Int32)) (I : mI) (s : Nat) (x0 : Int32) {res : Int32 × mI} (hr : r10_minutesOf I x0 = some res) : mC X m10_minutesOf 7 0 0 [.ref 119, .int x0] NN KK I (PP s) (mRet (some (.int res.1)) NN KK res.2 (PP s)) :=
  mC_of (L0 := [.ref 119, .int x0, mX0, mX0]) rfl (Nat.le_of_ble_eq_true rfl) (w10_minutesOf X I s x0 _ hr (mRet_ok _ _ _ _ _))
def l10_lasts_71 (k2 : Int32) : Nat → Int32 → mI → Option (mI)
  | 0, _, _ => none
  | f + 1, y4, I => if (I 119 6 : Int32) ≤ (y4 : Int32) then some I else (if ((r10_has k2 y4) : Int32) = (0 : Int32) then some I else (mSto I 144 5 (I 119 45) y4).bind fun z1 => some (mW z1 119 45 (z1 119 45 + 1)) : Option (mI)).bind fun z0 => l10_lasts_71 k2 f (y4 + 1) z0
def l10_lasts_143 (k4 : Int32) (k6 : Int32) : Nat → Int32 → mI → Option (mI)
  | 0, _, _ => none
  | f + 1, y7, I => if (I 119 45 : Int32) ≤ (y7 : Int32) then some I else if (k4 : Int32) ≤ (k6 : Int32) then some I else (mLd I 144 5 y7).bind fun z0 => (mSto I 145 5 y7 z0).bind fun z1 => l10_lasts_143 k4 k6 f (y7 + 1) z1
def l10_lasts_128 (k1 : Int32) : Nat → Int32 → Int32 → mI → Option (Int32 × mI)
  | 0, _, _, _ => none
  | f + 1, y4, y5, I => if (y5 : Int32) = (0 : Int32) then some (y4, I) else (r10_minutesOf I k1).bind fun z0 => (l10_lasts_143 y4 z0.1 FU 0 z0.2).bind fun z1 => (r10_goesToNextOrder z1).bind fun z2 => l10_lasts_128 k1 f (r10_lesser y4 z0.1) z2.1 z2.2
def r10_lasts (I : mI) (x0 : Int32) (x1 : Int32) (x2 : Int32) : Option (Int32 × mI) := if ((r10_isPlayer (mW I 119 0 0) x0) : Int32) = (0 : Int32) then some ((-1), (mW I 119 0 0)) else if ((r10_isIn x1 1 (((1 : Int32) <<< (I 119 6 &&& 31)) - 1)) : Int32) = (0 : Int32) then some ((-1), (mW I 119 0 0)) else (r10_onesOf x1).bind fun z0 => if (5 : Int32) < (z0 : Int32) then some ((-1), (mW I 119 0 0)) else if (x2 : Int32) = (0 : Int32) then (l10_lasts_71 x1 FU 0 (mW (mW I 119 0 0) 119 45 0)).bind fun z1 => (l10_lasts_128 x0 FU 100000000 1 z1).bind fun z2 => (if (x2 : Int32) = (0 : Int32) then some z2.1 else (mLd z2.2 145 5 (x2 - 10)).bind fun z4 => some z4 : Option (Int32)).bind fun z3 => some (z3, z2.2) else (r10_onesOf x1).bind fun z5 => if ((r10_isIn x2 10 (9 + z5)) : Int32) = (0 : Int32) then some ((-1), (mW I 119 0 0)) else (l10_lasts_71 x1 FU 0 (mW (mW I 119 0 0) 119 45 0)).bind fun z6 => (l10_lasts_128 x0 FU 100000000 1 z6).bind fun z7 => (if (x2 : Int32) = (0 : Int32) then some z7.1 else (mLd z7.2 145 5 (x2 - 10)).bind fun z9 => some z9 : Option (Int32)).bind fun z8 => some (z8, z7.2)
set_option maxHeartbeats 4000000 in
set_option maxRecDepth 100000 in
theorem t10_lasts_71 (X : Nat × (Nat → Int32)) (Q : mQ) (s : Nat) (k1 : Int32) (k2 : Int32) (k3 : Int32) : ∀ (f : Nat) (y4 : Int32) (I : mI) (z : mI), l10_lasts_71 k2 f y4 I = some z → mV X m10_lasts 8 0 0 120 [.ref 119, .int k1, .int k2, .int k3, mX0, mX0, mX0, mX0] [] NN KK z (PP s) Q → mV X m10_lasts 8 0 0 71 [.ref 119, .int k1, .int k2, .int k3, .int y4, mX0, mX0, mX0] [] NN KK I (PP s) Q := by
  intro f
  induction f with
  | zero => intro y4 I z hr hk; cases hr
  | succ f ih =>
    intro y4 I z hr hk
    unfold l10_lasts_71 at hr
    refine mV_iload f10_lasts_71 rfl ?_
    refine mV_aload f10_lasts_73 rfl ?_
    refine mV_gI (I 119 6) f10_lasts_74 (by decide) kk_119 rfl rfl ?_
    refine mV_icmp_ge f10_lasts_77 (fun h0 => ?_) (fun h0 => ?_)
    · rw [if_pos h0] at hr
      have hr := Option.some.inj hr; subst hr
      refine mV_drop (L' := [.ref 119, .int k1, .int k2, .int k3, mX0, mX0, mX0, mX0]) (mSub_k (mSub_k (mSub_k (mSub_k (mSub_x (mSub_x (mSub_x (mSub_x mSub_n)))))))) ?_
      exact hk
    · rw [if_neg h0] at hr
      refine mV_aload f10_lasts_80 rfl ?_
      refine mV_iload f10_lasts_81 rfl ?_
      refine mV_iload f10_lasts_82 rfl ?_
      refine mV_cV f10_lasts_84 tg_m10_has mCls10 (by decide) kk_119 (mC_deep (c10_has X I s k2 y4 rfl) (by decide)) rfl rfl (Nat.le_of_ble_eq_true rfl) ?_
      obtain ⟨z0, hz0, hr⟩ := mBind hr
      have keyz0 : mV X m10_lasts 8 0 0 114 [.ref 119, .int k1, .int k2, .int k3, .int y4, mX0, mX0, mX0] [] NN KK z0 (PP s) Q := by
        refine mV_iinc (y := (y4 + 1)) (L' := [.ref 119, .int k1, .int k2, .int k3, .int (y4 + 1), mX0, mX0, mX0]) f10_lasts_114 rfl rfl (by decide) rfl rfl ?_
        refine mV_goto f10_lasts_117 ?_
        exact ih (y4 + 1) z0 _ hr hk
      clear hr
      have hr := hz0
      clear hz0
      refine mV_if_ne f10_lasts_87 (fun h1 => ?_) (fun h1 => ?_)
      · rw [if_neg h1] at hr
        refine mV_aload f10_lasts_93 rfl ?_
        refine mV_getP f10_lasts_94 (by decide) kk_119 rfl (pp_119_46 _) ?_
        refine mV_aload f10_lasts_97 rfl ?_
        refine mV_gI (I 119 45) f10_lasts_98 (by decide) kk_119 rfl rfl ?_
        refine mV_iload f10_lasts_101 rfl ?_
        obtain ⟨z1, hz1, hr⟩ := mBind hr
        refine mV_stO f10_lasts_103 (by decide) kk_144 hz1 ?_
        refine mV_aload f10_lasts_104 rfl ?_
        refine mV_aload f10_lasts_105 rfl ?_
        refine mV_gI (z1 119 45) f10_lasts_106 (by decide) kk_119 rfl rfl ?_
        refine mV_push f10_lasts_109 ?_
        refine mV_iadd f10_lasts_110 ?_
        refine mV_putI f10_lasts_111 (by decide) kk_119 rfl rfl ?_
        have hr := Option.some.inj hr; subst hr
        exact keyz0
      · rw [if_pos h1] at hr
        refine mV_goto f10_lasts_90 ?_
        have hr := Option.some.inj hr; subst hr
        exact keyz0
set_option maxHeartbeats 4000000 in
set_option maxRecDepth 100000 in
theorem t10_lasts_143 (X : Nat × (Nat → Int32)) (Q : mQ) (s : Nat) (k1 : Int32) (k3 : Int32) (k4 : Int32) (k6 : Int32) : ∀ (f : Nat) (y7 : Int32) (I : mI) (z : mI), l10_lasts_143 k4 k6 f y7 I = some z → mV X m10_lasts 8 0 0 179 [.ref 119, .int k1, mX0, .int k3, .int k4, mX0, .int k6, mX0] [] NN KK z (PP s) Q → mV X m10_lasts 8 0 0 143 [.ref 119, .int k1, mX0, .int k3, .int k4, mX0, .int k6, .int y7] [] NN KK I (PP s) Q := by
  intro f
  induction f with
  | zero => intro y7 I z hr hk; cases hr
  | succ f ih =>
    intro y7 I z hr hk
    unfold l10_lasts_143 at hr
    refine mV_iload f10_lasts_143 rfl ?_
    refine mV_aload f10_lasts_145 rfl ?_
    refine mV_gI (I 119 45) f10_lasts_146 (by decide) kk_119 rfl rfl ?_
    refine mV_icmp_ge f10_lasts_149 (fun h0 => ?_) (fun h0 => ?_)
    · rw [if_pos h0] at hr
      have hr := Option.some.inj hr; subst hr
      refine mV_drop (L' := [.ref 119, .int k1, mX0, .int k3, .int k4, mX0, .int k6, mX0]) (mSub_k (mSub_k (mSub_x (mSub_k (mSub_k (mSub_x (mSub_k (mSub_x mSub_n)))))))) ?_
      exact hk
    · rw [if_neg h0] at hr
      refine mV_iload f10_lasts_152 rfl ?_
      refine mV_iload f10_lasts_154 rfl ?_
      refine mV_icmp_ge f10_lasts_156 (fun h1 => ?_) (fun h1 => ?_)
      · rw [if_pos h1] at hr
        have hr := Option.some.inj hr; subst hr
        refine mV_drop (L' := [.ref 119, .int k1, mX0, .int k3, .int k4, mX0, .int k6, mX0]) (mSub_k (mSub_k (mSub_x (mSub_k (mSub_k (mSub_x (mSub_k (mSub_x mSub_n)))))))) ?_
        exact hk
      · rw [if_neg h1] at hr
        refine mV_aload f10_lasts_159 rfl ?_
        refine mV_getP f10_lasts_160 (by decide) kk_119 rfl (pp_119_47 _) ?_
        refine mV_iload f10_lasts_163 rfl ?_
        refine mV_aload f10_lasts_165 rfl ?_
        refine mV_getP f10_lasts_166 (by decide) kk_119 rfl (pp_119_46 _) ?_
        refine mV_iload f10_lasts_169 rfl ?_
        obtain ⟨z0, hz0, hr⟩ := mBind hr
        refine mV_ldO f10_lasts_171 (by decide) kk_144 hz0 ?_
        obtain ⟨z1, hz1, hr⟩ := mBind hr
        refine mV_stO f10_lasts_172 (by decide) kk_145 hz1 ?_
        refine mV_iinc (y := (y7 + 1)) (L' := [.ref 119, .int k1, mX0, .int k3, .int k4, mX0, .int k6, .int (y7 + 1)]) f10_lasts_173 rfl rfl (by decide) rfl rfl ?_
        refine mV_goto f10_lasts_176 ?_
        exact ih (y7 + 1) z1 _ hr hk
set_option maxHeartbeats 4000000 in
set_option maxRecDepth 100000 in
theorem t10_lasts_128 (X : Nat × (Nat → Int32)) (Q : mQ) (s : Nat) (k1 : Int32) (k3 : Int32) : ∀ (f : Nat) (y4 : Int32) (y5 : Int32) (I : mI) (z : Int32 × mI), l10_lasts_128 k1 f y4 y5 I = some z → mV X m10_lasts 8 0 0 198 [.ref 119, .int k1, mX0, .int k3, .int z.1, mX0, mX0, mX0] [] NN KK z.2 (PP s) Q → mV X m10_lasts 8 0 0 128 [.ref 119, .int k1, mX0, .int k3, .int y4, .int y5, mX0, mX0] [] NN KK I (PP s) Q := by
  intro f
  induction f with
  | zero => intro y4 y5 I z hr hk; cases hr
  | succ f ih =>
    intro y4 y5 I z hr hk
    unfold l10_lasts_128 at hr
    refine mV_iload f10_lasts_128 rfl ?_
    refine mV_if_eq f10_lasts_130 (fun h0 => ?_) (fun h0 => ?_)
    · rw [if_pos h0] at hr
      have hr := Option.some.inj hr; subst hr
      refine mV_drop (L' := [.ref 119, .int k1, mX0, .int k3, .int y4, mX0, mX0, mX0]) (mSub_k (mSub_k (mSub_x (mSub_k (mSub_k (mSub_x (mSub_x (mSub_x mSub_n)))))))) ?_
      exact hk
    · rw [if_neg h0] at hr
      refine mV_aload f10_lasts_133 rfl ?_
      refine mV_iload f10_lasts_134 rfl ?_
      obtain ⟨z0, hz0, hr⟩ := mBind hr
      refine mV_cV f10_lasts_135 tg_m10_minutesOf mCls10 (by decide) kk_119 (mC_deep (c10_minutesOf X I s k1 hz0) (by decide)) rfl rfl (Nat.le_of_ble_eq_true rfl) ?_
      refine mV_istore (L' := [.ref 119, .int k1, mX0, .int k3, .int y4, .int y5, .int z0.1, mX0]) f10_lasts_138 (by decide) rfl rfl ?_
      refine mV_push f10_lasts_140 ?_
      refine mV_istore (L' := [.ref 119, .int k1, mX0, .int k3, .int y4, .int y5, .int z0.1, .int 0]) f10_lasts_141 (by decide) rfl rfl ?_
      obtain ⟨z1, hz1, hr⟩ := mBind hr
      refine mV_drop (L' := [.ref 119, .int k1, mX0, .int k3, .int y4, mX0, .int z0.1, .int 0]) (mSub_k (mSub_k (mSub_x (mSub_k (mSub_k (mSub_x (mSub_k (mSub_k mSub_n)))))))) ?_
      refine t10_lasts_143 X Q s k1 k3 y4 z0.1 FU 0 z0.2 _ hz1 ?_
      refine mV_aload f10_lasts_179 rfl ?_
      refine mV_iload f10_lasts_180 rfl ?_
      refine mV_iload f10_lasts_182 rfl ?_
      refine mV_cV f10_lasts_184 tg_m10_lesser mCls10 (by decide) kk_119 (mC_deep (c10_lesser X z1 s y4 z0.1 rfl) (by decide)) rfl rfl (Nat.le_of_ble_eq_true rfl) ?_
      refine mV_istore (L' := [.ref 119, .int k1, mX0, .int k3, .int (r10_lesser y4 z0.1), mX0, .int z0.1, mX0]) f10_lasts_187 (by decide) rfl rfl ?_
      refine mV_aload f10_lasts_189 rfl ?_
      obtain ⟨z2, hz2, hr⟩ := mBind hr
      refine mV_cV f10_lasts_190 tg_m10_goesToNextOrder mCls10 (by decide) kk_119 (mC_deep (c10_goesToNextOrder X z1 s hz2) (by decide)) rfl rfl (Nat.le_of_ble_eq_true rfl) ?_
      refine mV_istore (L' := [.ref 119, .int k1, mX0, .int k3, .int (r10_lesser y4 z0.1), .int z2.1, .int z0.1, mX0]) f10_lasts_193 (by decide) rfl rfl ?_
      refine mV_goto f10_lasts_195 ?_
      refine mV_drop (L' := [.ref 119, .int k1, mX0, .int k3, .int (r10_lesser y4 z0.1), .int z2.1, mX0, mX0]) (mSub_k (mSub_k (mSub_x (mSub_k (mSub_k (mSub_k (mSub_x (mSub_x mSub_n)))))))) ?_
      exact ih (r10_lesser y4 z0.1) z2.1 z2.2 _ hr hk
set_option maxHeartbeats 4000000 in
set_option maxRecDepth 100000 in
theorem w10_lasts (X : Nat × (Nat → Int32)) (I : mI) (s : Nat) (x0 : Int32) (x1 : Int32) (x2 : Int32) (Q : mQ) {res : Int32 × mI} (hr : r10_lasts I x0 x1 x2 = some res) (hQ : Q (some (.int res.1)) NN KK res.2 (PP s)) : mV X m10_lasts 8 0 0 0 [.ref 119, .int x0, .int x1, .int x2, mX0, mX0, mX0, mX0] [] NN KK I (PP s) Q := by
  unfold r10_lasts at hr
  refine mV_aload f10_lasts_0 rfl ?_
  refine mV_push f10_lasts_1 ?_
  refine mV_putI f10_lasts_2 (by decide) kk_119 rfl rfl ?_
  refine mV_aload f10_lasts_5 rfl ?_
  refine mV_iload f10_lasts_6 rfl ?_
  refine mV_cV f10_lasts_7 tg_m10_isPlayer mCls10 (by decide) kk_119 (mC_deep (c10_isPlayer X (mW I 119 0 0) s x0 rfl) (by decide)) rfl rfl (Nat.le_of_ble_eq_true rfl) ?_
  refine mV_if_eq f10_lasts_10 (fun h0 => ?_) (fun h0 => ?_)
  · rw [if_pos h0] at hr
    refine mV_push f10_lasts_61 ?_
    have hr := Option.some.inj hr; subst hr
    exact mV_iret rfl rfl f10_lasts_62 hQ
  · rw [if_neg h0] at hr
    refine mV_aload f10_lasts_13 rfl ?_
    refine mV_iload f10_lasts_14 rfl ?_
    refine mV_push f10_lasts_15 ?_
    refine mV_push f10_lasts_16 ?_
    refine mV_aload f10_lasts_17 rfl ?_
    refine mV_gI (I 119 6) f10_lasts_18 (by decide) kk_119 rfl rfl ?_
    refine mV_ishl f10_lasts_21 ?_
    refine mV_push f10_lasts_22 ?_
    refine mV_isub f10_lasts_23 ?_
    refine mV_cV f10_lasts_24 tg_m10_isIn mCls10 (by decide) kk_119 (mC_deep (c10_isIn X (mW I 119 0 0) s x1 1 (((1 : Int32) <<< (I 119 6 &&& 31)) - 1) rfl) (by decide)) rfl rfl (Nat.le_of_ble_eq_true rfl) ?_
    refine mV_if_eq f10_lasts_27 (fun h1 => ?_) (fun h1 => ?_)
    · rw [if_pos h1] at hr
      refine mV_push f10_lasts_61 ?_
      have hr := Option.some.inj hr; subst hr
      exact mV_iret rfl rfl f10_lasts_62 hQ
    · rw [if_neg h1] at hr
      refine mV_aload f10_lasts_30 rfl ?_
      refine mV_iload f10_lasts_31 rfl ?_
      obtain ⟨z0, hz0, hr⟩ := mBind hr
      refine mV_cV f10_lasts_32 tg_m10_onesOf mCls10 (by decide) kk_119 (mC_deep (c10_onesOf X (mW I 119 0 0) s x1 hz0) (by decide)) rfl rfl (Nat.le_of_ble_eq_true rfl) ?_
      refine mV_push f10_lasts_35 ?_
      refine mV_icmp_gt f10_lasts_36 (fun h2 => ?_) (fun h2 => ?_)
      · rw [if_pos h2] at hr
        refine mV_push f10_lasts_61 ?_
        have hr := Option.some.inj hr; subst hr
        exact mV_iret rfl rfl f10_lasts_62 hQ
      · rw [if_neg h2] at hr
        refine mV_iload f10_lasts_39 rfl ?_
        refine mV_if_eq f10_lasts_40 (fun h3 => ?_) (fun h3 => ?_)
        · rw [if_pos h3] at hr
          refine mV_aload f10_lasts_63 rfl ?_
          refine mV_push f10_lasts_64 ?_
          refine mV_putI f10_lasts_65 (by decide) kk_119 rfl rfl ?_
          refine mV_push f10_lasts_68 ?_
          refine mV_istore (L' := [.ref 119, .int x0, .int x1, .int x2, .int 0, mX0, mX0, mX0]) f10_lasts_69 (by decide) rfl rfl ?_
          obtain ⟨z1, hz1, hr⟩ := mBind hr
          refine t10_lasts_71 X Q s x0 x1 x2 FU 0 (mW (mW I 119 0 0) 119 45 0) _ hz1 ?_
          refine mV_push f10_lasts_120 ?_
          refine mV_istore (L' := [.ref 119, .int x0, .int x1, .int x2, .int 100000000, mX0, mX0, mX0]) f10_lasts_123 (by decide) rfl rfl ?_
          refine mV_push f10_lasts_125 ?_
          refine mV_istore (L' := [.ref 119, .int x0, .int x1, .int x2, .int 100000000, .int 1, mX0, mX0]) f10_lasts_126 (by decide) rfl rfl ?_
          obtain ⟨z2, hz2, hr⟩ := mBind hr
          refine mV_drop (L' := [.ref 119, .int x0, mX0, .int x2, .int 100000000, .int 1, mX0, mX0]) (mSub_k (mSub_k (mSub_x (mSub_k (mSub_k (mSub_k (mSub_x (mSub_x mSub_n)))))))) ?_
          refine t10_lasts_128 X Q s x0 x2 FU 100000000 1 z1 _ hz2 ?_
          refine mV_iload f10_lasts_198 rfl ?_
          obtain ⟨z3, hz3, hr⟩ := mBind hr
          have keyz3 : mV X m10_lasts 8 0 0 216 [.ref 119, mX0, mX0, mX0, mX0, mX0, mX0, mX0] [.int z3] NN KK z2.2 (PP s) Q := by
            have hr := Option.some.inj hr; subst hr
            exact mV_iret rfl rfl f10_lasts_216 hQ
          clear hr
          have hr := hz3
          clear hz3
          refine mV_if_ne f10_lasts_199 (fun h4 => ?_) (fun h4 => ?_)
          · rw [if_neg h4] at hr
            refine mV_aload f10_lasts_207 rfl ?_
            refine mV_getP f10_lasts_208 (by decide) kk_119 rfl (pp_119_47 _) ?_
            refine mV_iload f10_lasts_211 rfl ?_
            refine mV_push f10_lasts_212 ?_
            refine mV_isub f10_lasts_214 ?_
            obtain ⟨z4, hz4, hr⟩ := mBind hr
            refine mV_ldO f10_lasts_215 (by decide) kk_145 hz4 ?_
            have hr := Option.some.inj hr; subst hr
            refine mV_drop (L' := [.ref 119, mX0, mX0, mX0, mX0, mX0, mX0, mX0]) (mSub_k (mSub_x (mSub_x (mSub_x (mSub_x (mSub_x (mSub_x (mSub_x mSub_n)))))))) ?_
            exact keyz3
          · rw [if_pos h4] at hr
            refine mV_iload f10_lasts_202 rfl ?_
            refine mV_goto f10_lasts_204 ?_
            have hr := Option.some.inj hr; subst hr
            refine mV_drop (L' := [.ref 119, mX0, mX0, mX0, mX0, mX0, mX0, mX0]) (mSub_k (mSub_x (mSub_x (mSub_x (mSub_x (mSub_x (mSub_x (mSub_x mSub_n)))))))) ?_
            exact keyz3
        · rw [if_neg h3] at hr
          refine mV_aload f10_lasts_43 rfl ?_
          refine mV_iload f10_lasts_44 rfl ?_
          refine mV_push f10_lasts_45 ?_
          refine mV_push f10_lasts_47 ?_
          refine mV_aload f10_lasts_49 rfl ?_
          refine mV_iload f10_lasts_50 rfl ?_
          obtain ⟨z5, hz5, hr⟩ := mBind hr
          refine mV_cV f10_lasts_51 tg_m10_onesOf mCls10 (by decide) kk_119 (mC_deep (c10_onesOf X (mW I 119 0 0) s x1 hz5) (by decide)) rfl rfl (Nat.le_of_ble_eq_true rfl) ?_
          refine mV_iadd f10_lasts_54 ?_
          refine mV_cV f10_lasts_55 tg_m10_isIn mCls10 (by decide) kk_119 (mC_deep (c10_isIn X (mW I 119 0 0) s x2 10 (9 + z5) rfl) (by decide)) rfl rfl (Nat.le_of_ble_eq_true rfl) ?_
          refine mV_if_ne f10_lasts_58 (fun h5 => ?_) (fun h5 => ?_)
          · rw [if_neg h5] at hr
            refine mV_aload f10_lasts_63 rfl ?_
            refine mV_push f10_lasts_64 ?_
            refine mV_putI f10_lasts_65 (by decide) kk_119 rfl rfl ?_
            refine mV_push f10_lasts_68 ?_
            refine mV_istore (L' := [.ref 119, .int x0, .int x1, .int x2, .int 0, mX0, mX0, mX0]) f10_lasts_69 (by decide) rfl rfl ?_
            obtain ⟨z6, hz6, hr⟩ := mBind hr
            refine t10_lasts_71 X Q s x0 x1 x2 FU 0 (mW (mW I 119 0 0) 119 45 0) _ hz6 ?_
            refine mV_push f10_lasts_120 ?_
            refine mV_istore (L' := [.ref 119, .int x0, .int x1, .int x2, .int 100000000, mX0, mX0, mX0]) f10_lasts_123 (by decide) rfl rfl ?_
            refine mV_push f10_lasts_125 ?_
            refine mV_istore (L' := [.ref 119, .int x0, .int x1, .int x2, .int 100000000, .int 1, mX0, mX0]) f10_lasts_126 (by decide) rfl rfl ?_
            obtain ⟨z7, hz7, hr⟩ := mBind hr
            refine mV_drop (L' := [.ref 119, .int x0, mX0, .int x2, .int 100000000, .int 1, mX0, mX0]) (mSub_k (mSub_k (mSub_x (mSub_k (mSub_k (mSub_k (mSub_x (mSub_x mSub_n)))))))) ?_
            refine t10_lasts_128 X Q s x0 x2 FU 100000000 1 z6 _ hz7 ?_
            refine mV_iload f10_lasts_198 rfl ?_
            obtain ⟨z8, hz8, hr⟩ := mBind hr
            have keyz8 : mV X m10_lasts 8 0 0 216 [.ref 119, mX0, mX0, mX0, mX0, mX0, mX0, mX0] [.int z8] NN KK z7.2 (PP s) Q := by
              have hr := Option.some.inj hr; subst hr
              exact mV_iret rfl rfl f10_lasts_216 hQ
            clear hr
            have hr := hz8
            clear hz8
            refine mV_if_ne f10_lasts_199 (fun h6 => ?_) (fun h6 => ?_)
            · rw [if_neg h6] at hr
              refine mV_aload f10_lasts_207 rfl ?_
              refine mV_getP f10_lasts_208 (by decide) kk_119 rfl (pp_119_47 _) ?_
              refine mV_iload f10_lasts_211 rfl ?_
              refine mV_push f10_lasts_212 ?_
              refine mV_isub f10_lasts_214 ?_
              obtain ⟨z9, hz9, hr⟩ := mBind hr
              refine mV_ldO f10_lasts_215 (by decide) kk_145 hz9 ?_
              have hr := Option.some.inj hr; subst hr
              refine mV_drop (L' := [.ref 119, mX0, mX0, mX0, mX0, mX0, mX0, mX0]) (mSub_k (mSub_x (mSub_x (mSub_x (mSub_x (mSub_x (mSub_x (mSub_x mSub_n)))))))) ?_
              exact keyz8
            · rw [if_pos h6] at hr
              refine mV_iload f10_lasts_202 rfl ?_
              refine mV_goto f10_lasts_204 ?_
              have hr := Option.some.inj hr; subst hr
              refine mV_drop (L' := [.ref 119, mX0, mX0, mX0, mX0, mX0, mX0, mX0]) (mSub_k (mSub_x (mSub_x (mSub_x (mSub_x (mSub_x (mSub_x (mSub_x mSub_n)))))))) ?_
              exact keyz8
          · rw [if_pos h5] at hr
            refine mV_push f10_lasts_61 ?_
            have hr := Option.some.inj hr; subst hr
            exact mV_iret rfl rfl f10_lasts_62 hQ
theorem c10_lasts (X : Nat × (Nat → Int32)) (I : mI) (s : Nat) (x0 : Int32) (x1 : Int32) (x2 : Int32) {res : Int32 × mI} (hr : r10_lasts I x0 x1 x2 = some res) : mC X m10_lasts 8 0 0 [.ref 119, .int x0, .int x1, .int x2] NN KK I (PP s) (mRet (some (.int res.1)) NN KK res.2 (PP s)) :=
  mC_of (L0 := [.ref 119, .int x0, .int x1, .int x2, mX0, mX0, mX0, mX0]) rfl (Nat.le_of_ble_eq_true rfl) (w10_lasts X I s x0 x1 x2 _ hr (mRet_ok _ _ _ _ _))
def r10_movedUp (x0 : Int32) (x1 : Int32) : Int32 := ((((x0 : Int32) <<< (x1 &&& 31)) ||| ((x0 : Int32) >>> ((12 - x1) &&& 31))) &&& 4095)
set_option maxHeartbeats 4000000 in
set_option maxRecDepth 100000 in
theorem w10_movedUp (X : Nat × (Nat → Int32)) (I : mI) (s : Nat) (x0 : Int32) (x1 : Int32) (Q : mQ) {res : Int32} (hr : r10_movedUp x0 x1 = res) (hQ : Q (some (.int res)) NN KK I (PP s)) : mV X m10_movedUp 0 0 0 0 [.ref 119, .int x0, .int x1] [] NN KK I (PP s) Q := by
  unfold r10_movedUp at hr
  refine mV_iload f10_movedUp_0 rfl ?_
  refine mV_iload f10_movedUp_1 rfl ?_
  refine mV_ishl f10_movedUp_2 ?_
  refine mV_iload f10_movedUp_3 rfl ?_
  refine mV_push f10_movedUp_4 ?_
  refine mV_iload f10_movedUp_6 rfl ?_
  refine mV_isub f10_movedUp_7 ?_
  refine mV_ishr f10_movedUp_8 ?_
  refine mV_ior f10_movedUp_9 ?_
  refine mV_push f10_movedUp_10 ?_
  refine mV_iand f10_movedUp_13 ?_
  subst hr
  exact mV_iret rfl rfl f10_movedUp_14 hQ
theorem c10_movedUp (X : Nat × (Nat → Int32)) (I : mI) (s : Nat) (x0 : Int32) (x1 : Int32) {res : Int32} (hr : r10_movedUp x0 x1 = res) : mC X m10_movedUp 0 0 0 [.ref 119, .int x0, .int x1] NN KK I (PP s) (mRet (some (.int res)) NN KK I (PP s)) :=
  mC_of (L0 := [.ref 119, .int x0, .int x1]) rfl (Nat.le_of_ble_eq_true rfl) (w10_movedUp X I s x0 x1 _ hr (mRet_ok _ _ _ _ _))
def l10_turnedOver_4 (k1 : Int32) : Nat → Int32 → Int32 → Option (Int32)
  | 0, _, _ => none
  | f + 1, y2, y3 => if (12 : Int32) ≤ (y3 : Int32) then some y2 else (if ((r10_has k1 y3) : Int32) = (0 : Int32) then some y2 else some (y2 ||| ((1 : Int32) <<< ((mRm (12 - y3) 12) &&& 31))) : Option (Int32)).bind fun z0 => l10_turnedOver_4 k1 f z0 (y3 + 1)
def r10_turnedOver (x0 : Int32) : Option (Int32) := (l10_turnedOver_4 x0 FU 0 0).bind fun z0 => some z0
set_option maxHeartbeats 4000000 in
set_option maxRecDepth 100000 in
theorem t10_turnedOver_4 (X : Nat × (Nat → Int32)) (Q : mQ) (s : Nat) (I : mI) (k1 : Int32) : ∀ (f : Nat) (y2 : Int32) (y3 : Int32) (z : Int32), l10_turnedOver_4 k1 f y2 y3 = some z → mV X m10_turnedOver 1 0 0 37 [.ref 119, .int k1, .int z, mX0] [] NN KK I (PP s) Q → mV X m10_turnedOver 1 0 0 4 [.ref 119, .int k1, .int y2, .int y3] [] NN KK I (PP s) Q := by
  intro f
  induction f with
  | zero => intro y2 y3 z hr hk; cases hr
  | succ f ih =>
    intro y2 y3 z hr hk
    unfold l10_turnedOver_4 at hr
    refine mV_iload f10_turnedOver_4 rfl ?_
    refine mV_push f10_turnedOver_5 ?_
    refine mV_icmp_ge f10_turnedOver_7 (fun h0 => ?_) (fun h0 => ?_)
    · rw [if_pos h0] at hr
      have hr := Option.some.inj hr; subst hr
      refine mV_drop (L' := [.ref 119, .int k1, .int y2, mX0]) (mSub_k (mSub_k (mSub_k (mSub_x mSub_n)))) ?_
      exact hk
    · rw [if_neg h0] at hr
      refine mV_aload f10_turnedOver_10 rfl ?_
      refine mV_iload f10_turnedOver_11 rfl ?_
      refine mV_iload f10_turnedOver_12 rfl ?_
      refine mV_cV f10_turnedOver_13 tg_m10_has mCls10 (by decide) kk_119 (mC_deep (c10_has X I s k1 y3 rfl) (by decide)) rfl rfl (Nat.le_of_ble_eq_true rfl) ?_
      obtain ⟨z0, hz0, hr⟩ := mBind hr
      have keyz0 : mV X m10_turnedOver 1 0 0 31 [.ref 119, .int k1, .int z0, .int y3] [] NN KK I (PP s) Q := by
        refine mV_iinc (y := (y3 + 1)) (L' := [.ref 119, .int k1, .int z0, .int (y3 + 1)]) f10_turnedOver_31 rfl rfl (by decide) rfl rfl ?_
        refine mV_goto f10_turnedOver_34 ?_
        exact ih z0 (y3 + 1) _ hr hk
      clear hr
      have hr := hz0
      clear hz0
      refine mV_if_eq f10_turnedOver_16 (fun h1 => ?_) (fun h1 => ?_)
      · rw [if_pos h1] at hr
        have hr := Option.some.inj hr; subst hr
        exact keyz0
      · rw [if_neg h1] at hr
        refine mV_iload f10_turnedOver_19 rfl ?_
        refine mV_push f10_turnedOver_20 ?_
        refine mV_push f10_turnedOver_21 ?_
        refine mV_iload f10_turnedOver_23 rfl ?_
        refine mV_isub f10_turnedOver_24 ?_
        refine mV_push f10_turnedOver_25 ?_
        refine mV_remC f10_turnedOver_27 (by decide) ?_
        refine mV_ishl f10_turnedOver_28 ?_
        refine mV_ior f10_turnedOver_29 ?_
        refine mV_istore (L' := [.ref 119, .int k1, .int (y2 ||| ((1 : Int32) <<< ((mRm (12 - y3) 12) &&& 31))), .int y3]) f10_turnedOver_30 (by decide) rfl rfl ?_
        have hr := Option.some.inj hr; subst hr
        exact keyz0
set_option maxHeartbeats 4000000 in
set_option maxRecDepth 100000 in
theorem w10_turnedOver (X : Nat × (Nat → Int32)) (I : mI) (s : Nat) (x0 : Int32) (Q : mQ) {res : Int32} (hr : r10_turnedOver x0 = some res) (hQ : Q (some (.int res)) NN KK I (PP s)) : mV X m10_turnedOver 1 0 0 0 [.ref 119, .int x0, mX0, mX0] [] NN KK I (PP s) Q := by
  unfold r10_turnedOver at hr
  refine mV_push f10_turnedOver_0 ?_
  refine mV_istore (L' := [.ref 119, .int x0, .int 0, mX0]) f10_turnedOver_1 (by decide) rfl rfl ?_
  refine mV_push f10_turnedOver_2 ?_
  refine mV_istore (L' := [.ref 119, .int x0, .int 0, .int 0]) f10_turnedOver_3 (by decide) rfl rfl ?_
  obtain ⟨z0, hz0, hr⟩ := mBind hr
  refine t10_turnedOver_4 X Q s I x0 FU 0 0 _ hz0 ?_
  refine mV_iload f10_turnedOver_37 rfl ?_
  have hr := Option.some.inj hr; subst hr
  exact mV_iret rfl rfl f10_turnedOver_38 hQ
theorem c10_turnedOver (X : Nat × (Nat → Int32)) (I : mI) (s : Nat) (x0 : Int32) {res : Int32} (hr : r10_turnedOver x0 = some res) : mC X m10_turnedOver 1 0 0 [.ref 119, .int x0] NN KK I (PP s) (mRet (some (.int res)) NN KK I (PP s)) :=
  mC_of (L0 := [.ref 119, .int x0, mX0, mX0]) rfl (Nat.le_of_ble_eq_true rfl) (w10_turnedOver X I s x0 _ hr (mRet_ok _ _ _ _ _))
def l10_stepsUp_2 (k1 : Int32) (k2 : Int32) : Nat → Int32 → Option ((Int32) ⊕ (Unit))
  | 0, _ => none
  | f + 1, y3 => if (12 : Int32) ≤ (y3 : Int32) then some (.inr ()) else if ((r10_movedUp k1 y3) : Int32) = (k2 : Int32) then some (.inl y3) else l10_stepsUp_2 k1 k2 f (y3 + 1)
def r10_stepsUp (x0 : Int32) (x1 : Int32) : Option (Int32) := (l10_stepsUp_2 x0 x1 FU 0).bind fun z0 => match z0 with | .inl rz0 => some rz0 | .inr wz0 => some (-1)
set_option maxHeartbeats 4000000 in
set_option maxRecDepth 100000 in
theorem t10_stepsUp_2 (X : Nat × (Nat → Int32)) (Q : mQ) (s : Nat) (I : mI) (k1 : Int32) (k2 : Int32) : ∀ (f : Nat) (y3 : Int32) (z : (Int32) ⊕ (Unit)), l10_stepsUp_2 k1 k2 f y3 = some z → (∀ res, z = .inl res → Q (some (.int res)) NN KK I (PP s)) → (∀ w, z = .inr w → mV X m10_stepsUp 1 0 0 26 [.ref 119, .int k1, .int k2, mX0] [] NN KK I (PP s) Q) → mV X m10_stepsUp 1 0 0 2 [.ref 119, .int k1, .int k2, .int y3] [] NN KK I (PP s) Q := by
  intro f
  induction f with
  | zero => intro y3 z hr hret hk; cases hr
  | succ f ih =>
    intro y3 z hr hret hk
    unfold l10_stepsUp_2 at hr
    refine mV_iload f10_stepsUp_2 rfl ?_
    refine mV_push f10_stepsUp_3 ?_
    refine mV_icmp_ge f10_stepsUp_5 (fun h0 => ?_) (fun h0 => ?_)
    · rw [if_pos h0] at hr
      have hr := Option.some.inj hr; subst hr
      refine mV_drop (L' := [.ref 119, .int k1, .int k2, mX0]) (mSub_k (mSub_k (mSub_k (mSub_x mSub_n)))) ?_
      exact hk _ rfl
    · rw [if_neg h0] at hr
      refine mV_aload f10_stepsUp_8 rfl ?_
      refine mV_iload f10_stepsUp_9 rfl ?_
      refine mV_iload f10_stepsUp_10 rfl ?_
      refine mV_cV f10_stepsUp_11 tg_m10_movedUp mCls10 (by decide) kk_119 (mC_deep (c10_movedUp X I s k1 y3 rfl) (by decide)) rfl rfl (Nat.le_of_ble_eq_true rfl) ?_
      refine mV_iload f10_stepsUp_14 rfl ?_
      refine mV_icmp_ne f10_stepsUp_15 (fun h1 => ?_) (fun h1 => ?_)
      · rw [if_neg h1] at hr
        refine mV_iinc (y := (y3 + 1)) (L' := [.ref 119, .int k1, .int k2, .int (y3 + 1)]) f10_stepsUp_20 rfl rfl (by decide) rfl rfl ?_
        refine mV_goto f10_stepsUp_23 ?_
        exact ih (y3 + 1) _ hr hret hk
      · rw [if_pos h1] at hr
        refine mV_iload f10_stepsUp_18 rfl ?_
        have hr := Option.some.inj hr; subst hr; have hQ := hret _ rfl
        exact mV_iret rfl rfl f10_stepsUp_19 hQ
set_option maxHeartbeats 4000000 in
set_option maxRecDepth 100000 in
theorem w10_stepsUp (X : Nat × (Nat → Int32)) (I : mI) (s : Nat) (x0 : Int32) (x1 : Int32) (Q : mQ) {res : Int32} (hr : r10_stepsUp x0 x1 = some res) (hQ : Q (some (.int res)) NN KK I (PP s)) : mV X m10_stepsUp 1 0 0 0 [.ref 119, .int x0, .int x1, mX0] [] NN KK I (PP s) Q := by
  unfold r10_stepsUp at hr
  refine mV_push f10_stepsUp_0 ?_
  refine mV_istore (L' := [.ref 119, .int x0, .int x1, .int 0]) f10_stepsUp_1 (by decide) rfl rfl ?_
  obtain ⟨z0, hz0, hr⟩ := mBind hr
  refine t10_stepsUp_2 X Q s I x0 x1 FU 0 _ hz0 (fun res ez0 => ?_) (fun wz0 ez0 => ?_)
  · rw [ez0] at hr; have hr := Option.some.inj hr; subst hr; exact hQ
  rw [ez0] at hr
  dsimp only at hr
  refine mV_push f10_stepsUp_26 ?_
  have hr := Option.some.inj hr; subst hr
  exact mV_iret rfl rfl f10_stepsUp_27 hQ
theorem c10_stepsUp (X : Nat × (Nat → Int32)) (I : mI) (s : Nat) (x0 : Int32) (x1 : Int32) {res : Int32} (hr : r10_stepsUp x0 x1 = some res) : mC X m10_stepsUp 1 0 0 [.ref 119, .int x0, .int x1] NN KK I (PP s) (mRet (some (.int res)) NN KK I (PP s)) :=
  mC_of (L0 := [.ref 119, .int x0, .int x1, mX0]) rfl (Nat.le_of_ble_eq_true rfl) (w10_stepsUp X I s x0 x1 _ hr (mRet_ok _ _ _ _ _))
def l10_mostHeld_4 (k1 : Int32) : Nat → Int32 → Int32 → Option (Int32)
  | 0, _, _ => none
  | f + 1, y2, y3 => if (12 : Int32) ≤ (y3 : Int32) then some y2 else (r10_onesOf (k1 &&& (r10_movedUp k1 y3))).bind fun z0 => (r10_onesOf (k1 &&& (r10_movedUp k1 y2))).bind fun z1 => (if (z0 : Int32) ≤ (z1 : Int32) then some y2 else some y3 : Option (Int32)).bind fun z2 => l10_mostHeld_4 k1 f z2 (y3 + 1)
def r10_mostHeld (x0 : Int32) : Option (Int32) := (l10_mostHeld_4 x0 FU 1 2).bind fun z0 => some z0
set_option maxHeartbeats 4000000 in
set_option maxRecDepth 100000 in
theorem t10_mostHeld_4 (X : Nat × (Nat → Int32)) (Q : mQ) (s : Nat) (I : mI) (k1 : Int32) : ∀ (f : Nat) (y2 : Int32) (y3 : Int32) (z : Int32), l10_mostHeld_4 k1 f y2 y3 = some z → mV X m10_mostHeld 1 0 0 45 [.ref 119, .int k1, .int z, mX0] [] NN KK I (PP s) Q → mV X m10_mostHeld 1 0 0 4 [.ref 119, .int k1, .int y2, .int y3] [] NN KK I (PP s) Q := by
  intro f
  induction f with
  | zero => intro y2 y3 z hr hk; cases hr
  | succ f ih =>
    intro y2 y3 z hr hk
    unfold l10_mostHeld_4 at hr
    refine mV_iload f10_mostHeld_4 rfl ?_
    refine mV_push f10_mostHeld_5 ?_
    refine mV_icmp_ge f10_mostHeld_7 (fun h0 => ?_) (fun h0 => ?_)
    · rw [if_pos h0] at hr
      have hr := Option.some.inj hr; subst hr
      refine mV_drop (L' := [.ref 119, .int k1, .int y2, mX0]) (mSub_k (mSub_k (mSub_k (mSub_x mSub_n)))) ?_
      exact hk
    · rw [if_neg h0] at hr
      refine mV_aload f10_mostHeld_10 rfl ?_
      refine mV_iload f10_mostHeld_11 rfl ?_
      refine mV_aload f10_mostHeld_12 rfl ?_
      refine mV_iload f10_mostHeld_13 rfl ?_
      refine mV_iload f10_mostHeld_14 rfl ?_
      refine mV_cV f10_mostHeld_15 tg_m10_movedUp mCls10 (by decide) kk_119 (mC_deep (c10_movedUp X I s k1 y3 rfl) (by decide)) rfl rfl (Nat.le_of_ble_eq_true rfl) ?_
      refine mV_iand f10_mostHeld_18 ?_
      obtain ⟨z0, hz0, hr⟩ := mBind hr
      refine mV_cV f10_mostHeld_19 tg_m10_onesOf mCls10 (by decide) kk_119 (mC_deep (c10_onesOf X I s (k1 &&& (r10_movedUp k1 y3)) hz0) (by decide)) rfl rfl (Nat.le_of_ble_eq_true rfl) ?_
      refine mV_aload f10_mostHeld_22 rfl ?_
      refine mV_iload f10_mostHeld_23 rfl ?_
      refine mV_aload f10_mostHeld_24 rfl ?_
      refine mV_iload f10_mostHeld_25 rfl ?_
      refine mV_iload f10_mostHeld_26 rfl ?_
      refine mV_cV f10_mostHeld_27 tg_m10_movedUp mCls10 (by decide) kk_119 (mC_deep (c10_movedUp X I s k1 y2 rfl) (by decide)) rfl rfl (Nat.le_of_ble_eq_true rfl) ?_
      refine mV_iand f10_mostHeld_30 ?_
      obtain ⟨z1, hz1, hr⟩ := mBind hr
      refine mV_cV f10_mostHeld_31 tg_m10_onesOf mCls10 (by decide) kk_119 (mC_deep (c10_onesOf X I s (k1 &&& (r10_movedUp k1 y2)) hz1) (by decide)) rfl rfl (Nat.le_of_ble_eq_true rfl) ?_
      obtain ⟨z2, hz2, hr⟩ := mBind hr
      have keyz2 : mV X m10_mostHeld 1 0 0 39 [.ref 119, .int k1, .int z2, .int y3] [] NN KK I (PP s) Q := by
        refine mV_iinc (y := (y3 + 1)) (L' := [.ref 119, .int k1, .int z2, .int (y3 + 1)]) f10_mostHeld_39 rfl rfl (by decide) rfl rfl ?_
        refine mV_goto f10_mostHeld_42 ?_
        exact ih z2 (y3 + 1) _ hr hk
      clear hr
      have hr := hz2
      clear hz2
      refine mV_icmp_le f10_mostHeld_34 (fun h1 => ?_) (fun h1 => ?_)
      · rw [if_pos h1] at hr
        have hr := Option.some.inj hr; subst hr
        exact keyz2
      · rw [if_neg h1] at hr
        refine mV_iload f10_mostHeld_37 rfl ?_
        refine mV_istore (L' := [.ref 119, .int k1, .int y3, .int y3]) f10_mostHeld_38 (by decide) rfl rfl ?_
        have hr := Option.some.inj hr; subst hr
        exact keyz2
set_option maxHeartbeats 4000000 in
set_option maxRecDepth 100000 in
theorem w10_mostHeld (X : Nat × (Nat → Int32)) (I : mI) (s : Nat) (x0 : Int32) (Q : mQ) {res : Int32} (hr : r10_mostHeld x0 = some res) (hQ : Q (some (.int res)) NN KK I (PP s)) : mV X m10_mostHeld 1 0 0 0 [.ref 119, .int x0, mX0, mX0] [] NN KK I (PP s) Q := by
  unfold r10_mostHeld at hr
  refine mV_push f10_mostHeld_0 ?_
  refine mV_istore (L' := [.ref 119, .int x0, .int 1, mX0]) f10_mostHeld_1 (by decide) rfl rfl ?_
  refine mV_push f10_mostHeld_2 ?_
  refine mV_istore (L' := [.ref 119, .int x0, .int 1, .int 2]) f10_mostHeld_3 (by decide) rfl rfl ?_
  obtain ⟨z0, hz0, hr⟩ := mBind hr
  refine t10_mostHeld_4 X Q s I x0 FU 1 2 _ hz0 ?_
  refine mV_iload f10_mostHeld_45 rfl ?_
  have hr := Option.some.inj hr; subst hr
  exact mV_iret rfl rfl f10_mostHeld_46 hQ
theorem c10_mostHeld (X : Nat × (Nat → Int32)) (I : mI) (s : Nat) (x0 : Int32) {res : Int32} (hr : r10_mostHeld x0 = some res) : mC X m10_mostHeld 1 0 0 [.ref 119, .int x0] NN KK I (PP s) (mRet (some (.int res)) NN KK I (PP s)) :=
  mC_of (L0 := [.ref 119, .int x0, mX0, mX0]) rfl (Nat.le_of_ble_eq_true rfl) (w10_mostHeld X I s x0 _ hr (mRet_ok _ _ _ _ _))
def l10_spanOf_29 (k1 : Int32) (k3 : Int32) : Nat → Int32 → Int32 → Option (Int32)
  | 0, _, _ => none
  | f + 1, y4, y5 => if (12 : Int32) ≤ (y5 : Int32) then some y4 else (if ((r10_has k1 (mRm (k3 + y5) 12)) : Int32) = (0 : Int32) then some y4 else some y5 : Option (Int32)).bind fun z0 => l10_spanOf_29 k1 k3 f z0 (y5 + 1)
def l10_spanOf_5 (k1 : Int32) : Nat → Int32 → Int32 → Option (Int32)
  | 0, _, _ => none
  | f + 1, y2, y3 => if (12 : Int32) ≤ (y3 : Int32) then some y2 else (if ((r10_has k1 y3) : Int32) = (0 : Int32) then some y2 else (l10_spanOf_29 k1 y3 FU 0 1).bind fun z1 => some (r10_lesser y2 z1) : Option (Int32)).bind fun z0 => l10_spanOf_5 k1 f z0 (y3 + 1)
def r10_spanOf (x0 : Int32) : Option (Int32) := (l10_spanOf_5 x0 FU 12 0).bind fun z0 => some z0
set_option maxHeartbeats 4000000 in
set_option maxRecDepth 100000 in
theorem t10_spanOf_29 (X : Nat × (Nat → Int32)) (Q : mQ) (s : Nat) (I : mI) (k1 : Int32) (k2 : Int32) (k3 : Int32) : ∀ (f : Nat) (y4 : Int32) (y5 : Int32) (z : Int32), l10_spanOf_29 k1 k3 f y4 y5 = some z → mV X m10_spanOf 1 0 0 61 [.ref 119, .int k1, .int k2, .int k3, .int z, mX0] [] NN KK I (PP s) Q → mV X m10_spanOf 1 0 0 29 [.ref 119, .int k1, .int k2, .int k3, .int y4, .int y5] [] NN KK I (PP s) Q := by
  intro f
  induction f with
  | zero => intro y4 y5 z hr hk; cases hr
  | succ f ih =>
    intro y4 y5 z hr hk
    unfold l10_spanOf_29 at hr
    refine mV_iload f10_spanOf_29 rfl ?_
    refine mV_push f10_spanOf_31 ?_
    refine mV_icmp_ge f10_spanOf_33 (fun h0 => ?_) (fun h0 => ?_)
    · rw [if_pos h0] at hr
      have hr := Option.some.inj hr; subst hr
      refine mV_drop (L' := [.ref 119, .int k1, .int k2, .int k3, .int y4, mX0]) (mSub_k (mSub_k (mSub_k (mSub_k (mSub_k (mSub_x mSub_n)))))) ?_
      exact hk
    · rw [if_neg h0] at hr
      refine mV_aload f10_spanOf_36 rfl ?_
      refine mV_iload f10_spanOf_37 rfl ?_
      refine mV_iload f10_spanOf_38 rfl ?_
      refine mV_iload f10_spanOf_39 rfl ?_
      refine mV_iadd f10_spanOf_41 ?_
      refine mV_push f10_spanOf_42 ?_
      refine mV_remC f10_spanOf_44 (by decide) ?_
      refine mV_cV f10_spanOf_45 tg_m10_has mCls10 (by decide) kk_119 (mC_deep (c10_has X I s k1 (mRm (k3 + y5) 12) rfl) (by decide)) rfl rfl (Nat.le_of_ble_eq_true rfl) ?_
      obtain ⟨z0, hz0, hr⟩ := mBind hr
      have keyz0 : mV X m10_spanOf 1 0 0 55 [.ref 119, .int k1, .int k2, .int k3, .int z0, .int y5] [] NN KK I (PP s) Q := by
        refine mV_iinc (y := (y5 + 1)) (L' := [.ref 119, .int k1, .int k2, .int k3, .int z0, .int (y5 + 1)]) f10_spanOf_55 rfl rfl (by decide) rfl rfl ?_
        refine mV_goto f10_spanOf_58 ?_
        exact ih z0 (y5 + 1) _ hr hk
      clear hr
      have hr := hz0
      clear hz0
      refine mV_if_eq f10_spanOf_48 (fun h1 => ?_) (fun h1 => ?_)
      · rw [if_pos h1] at hr
        have hr := Option.some.inj hr; subst hr
        exact keyz0
      · rw [if_neg h1] at hr
        refine mV_iload f10_spanOf_51 rfl ?_
        refine mV_istore (L' := [.ref 119, .int k1, .int k2, .int k3, .int y5, .int y5]) f10_spanOf_53 (by decide) rfl rfl ?_
        have hr := Option.some.inj hr; subst hr
        exact keyz0
set_option maxHeartbeats 4000000 in
set_option maxRecDepth 100000 in
theorem t10_spanOf_5 (X : Nat × (Nat → Int32)) (Q : mQ) (s : Nat) (I : mI) (k1 : Int32) : ∀ (f : Nat) (y2 : Int32) (y3 : Int32) (z : Int32), l10_spanOf_5 k1 f y2 y3 = some z → mV X m10_spanOf 1 0 0 75 [.ref 119, .int k1, .int z, mX0, mX0, mX0] [] NN KK I (PP s) Q → mV X m10_spanOf 1 0 0 5 [.ref 119, .int k1, .int y2, .int y3, mX0, mX0] [] NN KK I (PP s) Q := by
  intro f
  induction f with
  | zero => intro y2 y3 z hr hk; cases hr
  | succ f ih =>
    intro y2 y3 z hr hk
    unfold l10_spanOf_5 at hr
    refine mV_iload f10_spanOf_5 rfl ?_
    refine mV_push f10_spanOf_6 ?_
    refine mV_icmp_ge f10_spanOf_8 (fun h0 => ?_) (fun h0 => ?_)
    · rw [if_pos h0] at hr
      have hr := Option.some.inj hr; subst hr
      refine mV_drop (L' := [.ref 119, .int k1, .int y2, mX0, mX0, mX0]) (mSub_k (mSub_k (mSub_k (mSub_x (mSub_x (mSub_x mSub_n)))))) ?_
      exact hk
    · rw [if_neg h0] at hr
      refine mV_aload f10_spanOf_11 rfl ?_
      refine mV_iload f10_spanOf_12 rfl ?_
      refine mV_iload f10_spanOf_13 rfl ?_
      refine mV_cV f10_spanOf_14 tg_m10_has mCls10 (by decide) kk_119 (mC_deep (c10_has X I s k1 y3 rfl) (by decide)) rfl rfl (Nat.le_of_ble_eq_true rfl) ?_
      obtain ⟨z0, hz0, hr⟩ := mBind hr
      have keyz0 : mV X m10_spanOf 1 0 0 69 [.ref 119, .int k1, .int z0, .int y3, mX0, mX0] [] NN KK I (PP s) Q := by
        refine mV_iinc (y := (y3 + 1)) (L' := [.ref 119, .int k1, .int z0, .int (y3 + 1), mX0, mX0]) f10_spanOf_69 rfl rfl (by decide) rfl rfl ?_
        refine mV_goto f10_spanOf_72 ?_
        exact ih z0 (y3 + 1) _ hr hk
      clear hr
      have hr := hz0
      clear hz0
      refine mV_if_ne f10_spanOf_17 (fun h1 => ?_) (fun h1 => ?_)
      · rw [if_neg h1] at hr
        refine mV_push f10_spanOf_23 ?_
        refine mV_istore (L' := [.ref 119, .int k1, .int y2, .int y3, .int 0, mX0]) f10_spanOf_24 (by decide) rfl rfl ?_
        refine mV_push f10_spanOf_26 ?_
        refine mV_istore (L' := [.ref 119, .int k1, .int y2, .int y3, .int 0, .int 1]) f10_spanOf_27 (by decide) rfl rfl ?_
        obtain ⟨z1, hz1, hr⟩ := mBind hr
        refine t10_spanOf_29 X Q s I k1 y2 y3 FU 0 1 _ hz1 ?_
        refine mV_aload f10_spanOf_61 rfl ?_
        refine mV_iload f10_spanOf_62 rfl ?_
        refine mV_iload f10_spanOf_63 rfl ?_
        refine mV_cV f10_spanOf_65 tg_m10_lesser mCls10 (by decide) kk_119 (mC_deep (c10_lesser X I s y2 z1 rfl) (by decide)) rfl rfl (Nat.le_of_ble_eq_true rfl) ?_
        refine mV_istore (L' := [.ref 119, .int k1, .int (r10_lesser y2 z1), .int y3, .int z1, mX0]) f10_spanOf_68 (by decide) rfl rfl ?_
        have hr := Option.some.inj hr; subst hr
        refine mV_drop (L' := [.ref 119, .int k1, .int (r10_lesser y2 z1), .int y3, mX0, mX0]) (mSub_k (mSub_k (mSub_k (mSub_k (mSub_x (mSub_x mSub_n)))))) ?_
        exact keyz0
      · rw [if_pos h1] at hr
        refine mV_goto f10_spanOf_20 ?_
        have hr := Option.some.inj hr; subst hr
        exact keyz0
set_option maxHeartbeats 4000000 in
set_option maxRecDepth 100000 in
theorem w10_spanOf (X : Nat × (Nat → Int32)) (I : mI) (s : Nat) (x0 : Int32) (Q : mQ) {res : Int32} (hr : r10_spanOf x0 = some res) (hQ : Q (some (.int res)) NN KK I (PP s)) : mV X m10_spanOf 1 0 0 0 [.ref 119, .int x0, mX0, mX0, mX0, mX0] [] NN KK I (PP s) Q := by
  unfold r10_spanOf at hr
  refine mV_push f10_spanOf_0 ?_
  refine mV_istore (L' := [.ref 119, .int x0, .int 12, mX0, mX0, mX0]) f10_spanOf_2 (by decide) rfl rfl ?_
  refine mV_push f10_spanOf_3 ?_
  refine mV_istore (L' := [.ref 119, .int x0, .int 12, .int 0, mX0, mX0]) f10_spanOf_4 (by decide) rfl rfl ?_
  obtain ⟨z0, hz0, hr⟩ := mBind hr
  refine t10_spanOf_5 X Q s I x0 FU 12 0 _ hz0 ?_
  refine mV_iload f10_spanOf_75 rfl ?_
  have hr := Option.some.inj hr; subst hr
  exact mV_iret rfl rfl f10_spanOf_76 hQ
theorem c10_spanOf (X : Nat × (Nat → Int32)) (I : mI) (s : Nat) (x0 : Int32) {res : Int32} (hr : r10_spanOf x0 = some res) : mC X m10_spanOf 1 0 0 [.ref 119, .int x0] NN KK I (PP s) (mRet (some (.int res)) NN KK I (PP s)) :=
  mC_of (L0 := [.ref 119, .int x0, mX0, mX0, mX0, mX0]) rfl (Nat.le_of_ble_eq_true rfl) (w10_spanOf X I s x0 _ hr (mRet_ok _ _ _ _ _))
def r10_chords (I : mI) (x0 : Int32) (x1 : Int32) (x2 : Int32) : Option (Int32 × mI) := if ((r10_isIn x0 1 4095) : Int32) = (0 : Int32) then some ((-1), (mW I 119 0 0)) else if ((r10_isIn x2 0 4) : Int32) = (0 : Int32) then some ((-1), (mW I 119 0 0)) else if (2 : Int32) ≤ (x2 : Int32) then (if (x2 : Int32) = (2 : Int32) then (r10_mostHeld x0).bind fun z3 => (r10_onesOf (x0 &&& (r10_movedUp x0 z3))).bind fun z4 => some z4 else if (x2 : Int32) = (3 : Int32) then (r10_mostHeld x0).bind fun z2 => some z2 else (r10_spanOf x0).bind fun z1 => some z1 : Option (Int32)).bind fun z0 => some (z0, (mW I 119 0 0)) else (if ((r10_isIn x1 1 4095) : Int32) = (0 : Int32) then some (-1) else (if (x2 : Int32) = (0 : Int32) then some x0 else (r10_turnedOver x0).bind fun z7 => some z7 : Option (Int32)).bind fun z6 => (r10_stepsUp z6 x1).bind fun z8 => some z8 : Option (Int32)).bind fun z5 => some (z5, (mW I 119 0 0))
set_option maxHeartbeats 4000000 in
set_option maxRecDepth 100000 in
theorem w10_chords (X : Nat × (Nat → Int32)) (I : mI) (s : Nat) (x0 : Int32) (x1 : Int32) (x2 : Int32) (Q : mQ) {res : Int32 × mI} (hr : r10_chords I x0 x1 x2 = some res) (hQ : Q (some (.int res.1)) NN KK res.2 (PP s)) : mV X m10_chords 2 0 0 0 [.ref 119, .int x0, .int x1, .int x2] [] NN KK I (PP s) Q := by
  unfold r10_chords at hr
  refine mV_aload f10_chords_0 rfl ?_
  refine mV_push f10_chords_1 ?_
  refine mV_putI f10_chords_2 (by decide) kk_119 rfl rfl ?_
  refine mV_aload f10_chords_5 rfl ?_
  refine mV_iload f10_chords_6 rfl ?_
  refine mV_push f10_chords_7 ?_
  refine mV_push f10_chords_8 ?_
  refine mV_cV f10_chords_11 tg_m10_isIn mCls10 (by decide) kk_119 (mC_deep (c10_isIn X (mW I 119 0 0) s x0 1 4095 rfl) (by decide)) rfl rfl (Nat.le_of_ble_eq_true rfl) ?_
  refine mV_if_eq f10_chords_14 (fun h0 => ?_) (fun h0 => ?_)
  · rw [if_pos h0] at hr
    refine mV_push f10_chords_27 ?_
    have hr := Option.some.inj hr; subst hr
    exact mV_iret rfl rfl f10_chords_28 hQ
  · rw [if_neg h0] at hr
    refine mV_aload f10_chords_17 rfl ?_
    refine mV_iload f10_chords_18 rfl ?_
    refine mV_push f10_chords_19 ?_
    refine mV_push f10_chords_20 ?_
    refine mV_cV f10_chords_21 tg_m10_isIn mCls10 (by decide) kk_119 (mC_deep (c10_isIn X (mW I 119 0 0) s x2 0 4 rfl) (by decide)) rfl rfl (Nat.le_of_ble_eq_true rfl) ?_
    refine mV_if_ne f10_chords_24 (fun h1 => ?_) (fun h1 => ?_)
    · rw [if_neg h1] at hr
      refine mV_iload f10_chords_29 rfl ?_
      refine mV_push f10_chords_30 ?_
      refine mV_icmp_ge f10_chords_31 (fun h2 => ?_) (fun h2 => ?_)
      · rw [if_pos h2] at hr
        refine mV_iload f10_chords_69 rfl ?_
        refine mV_push f10_chords_70 ?_
        obtain ⟨z0, hz0, hr⟩ := mBind hr
        have keyz0 : mV X m10_chords 2 0 0 111 [.ref 119, mX0, mX0, mX0] [.int z0] NN KK (mW I 119 0 0) (PP s) Q := by
          have hr := Option.some.inj hr; subst hr
          exact mV_iret rfl rfl f10_chords_111 hQ
        clear hr
        have hr := hz0
        clear hz0
        refine mV_icmp_ne f10_chords_71 (fun h3 => ?_) (fun h3 => ?_)
        · rw [if_neg h3] at hr
          refine mV_iload f10_chords_93 rfl ?_
          refine mV_push f10_chords_94 ?_
          refine mV_icmp_ne f10_chords_95 (fun h4 => ?_) (fun h4 => ?_)
          · rw [if_neg h4] at hr
            refine mV_aload f10_chords_106 rfl ?_
            refine mV_iload f10_chords_107 rfl ?_
            obtain ⟨z1, hz1, hr⟩ := mBind hr
            refine mV_cV f10_chords_108 tg_m10_spanOf mCls10 (by decide) kk_119 (mC_deep (c10_spanOf X (mW I 119 0 0) s x0 hz1) (by decide)) rfl rfl (Nat.le_of_ble_eq_true rfl) ?_
            have hr := Option.some.inj hr; subst hr
            refine mV_drop (L' := [.ref 119, mX0, mX0, mX0]) (mSub_k (mSub_x (mSub_x (mSub_x mSub_n)))) ?_
            exact keyz0
          · rw [if_pos h4] at hr
            refine mV_aload f10_chords_98 rfl ?_
            refine mV_iload f10_chords_99 rfl ?_
            obtain ⟨z2, hz2, hr⟩ := mBind hr
            refine mV_cV f10_chords_100 tg_m10_mostHeld mCls10 (by decide) kk_119 (mC_deep (c10_mostHeld X (mW I 119 0 0) s x0 hz2) (by decide)) rfl rfl (Nat.le_of_ble_eq_true rfl) ?_
            refine mV_goto f10_chords_103 ?_
            have hr := Option.some.inj hr; subst hr
            refine mV_drop (L' := [.ref 119, mX0, mX0, mX0]) (mSub_k (mSub_x (mSub_x (mSub_x mSub_n)))) ?_
            exact keyz0
        · rw [if_pos h3] at hr
          refine mV_aload f10_chords_74 rfl ?_
          refine mV_iload f10_chords_75 rfl ?_
          refine mV_aload f10_chords_76 rfl ?_
          refine mV_iload f10_chords_77 rfl ?_
          refine mV_aload f10_chords_78 rfl ?_
          refine mV_iload f10_chords_79 rfl ?_
          obtain ⟨z3, hz3, hr⟩ := mBind hr
          refine mV_cV f10_chords_80 tg_m10_mostHeld mCls10 (by decide) kk_119 (mC_deep (c10_mostHeld X (mW I 119 0 0) s x0 hz3) (by decide)) rfl rfl (Nat.le_of_ble_eq_true rfl) ?_
          refine mV_cV f10_chords_83 tg_m10_movedUp mCls10 (by decide) kk_119 (mC_deep (c10_movedUp X (mW I 119 0 0) s x0 z3 rfl) (by decide)) rfl rfl (Nat.le_of_ble_eq_true rfl) ?_
          refine mV_iand f10_chords_86 ?_
          obtain ⟨z4, hz4, hr⟩ := mBind hr
          refine mV_cV f10_chords_87 tg_m10_onesOf mCls10 (by decide) kk_119 (mC_deep (c10_onesOf X (mW I 119 0 0) s (x0 &&& (r10_movedUp x0 z3)) hz4) (by decide)) rfl rfl (Nat.le_of_ble_eq_true rfl) ?_
          refine mV_goto f10_chords_90 ?_
          have hr := Option.some.inj hr; subst hr
          refine mV_drop (L' := [.ref 119, mX0, mX0, mX0]) (mSub_k (mSub_x (mSub_x (mSub_x mSub_n)))) ?_
          exact keyz0
      · rw [if_neg h2] at hr
        refine mV_aload f10_chords_34 rfl ?_
        refine mV_iload f10_chords_35 rfl ?_
        refine mV_push f10_chords_36 ?_
        refine mV_push f10_chords_37 ?_
        refine mV_cV f10_chords_40 tg_m10_isIn mCls10 (by decide) kk_119 (mC_deep (c10_isIn X (mW I 119 0 0) s x1 1 4095 rfl) (by decide)) rfl rfl (Nat.le_of_ble_eq_true rfl) ?_
        obtain ⟨z5, hz5, hr⟩ := mBind hr
        have keyz5 : mV X m10_chords 2 0 0 68 [.ref 119, mX0, mX0, mX0] [.int z5] NN KK (mW I 119 0 0) (PP s) Q := by
          have hr := Option.some.inj hr; subst hr
          exact mV_iret rfl rfl f10_chords_68 hQ
        clear hr
        have hr := hz5
        clear hz5
        refine mV_if_ne f10_chords_43 (fun h5 => ?_) (fun h5 => ?_)
        · rw [if_neg h5] at hr
          refine mV_aload f10_chords_50 rfl ?_
          refine mV_iload f10_chords_51 rfl ?_
          obtain ⟨z6, hz6, hr⟩ := mBind hr
          have keyz6 : mV X m10_chords 2 0 0 64 [.ref 119, mX0, .int x1, mX0] [.int z6, .ref 119] NN KK (mW I 119 0 0) (PP s) Q := by
            refine mV_iload f10_chords_64 rfl ?_
            obtain ⟨z8, hz8, hr⟩ := mBind hr
            refine mV_cV f10_chords_65 tg_m10_stepsUp mCls10 (by decide) kk_119 (mC_deep (c10_stepsUp X (mW I 119 0 0) s z6 x1 hz8) (by decide)) rfl rfl (Nat.le_of_ble_eq_true rfl) ?_
            have hr := Option.some.inj hr; subst hr
            refine mV_drop (L' := [.ref 119, mX0, mX0, mX0]) (mSub_k (mSub_x (mSub_x (mSub_x mSub_n)))) ?_
            exact keyz5
          clear hr
          have hr := hz6
          clear hz6
          refine mV_if_ne f10_chords_52 (fun h6 => ?_) (fun h6 => ?_)
          · rw [if_neg h6] at hr
            refine mV_aload f10_chords_59 rfl ?_
            refine mV_iload f10_chords_60 rfl ?_
            obtain ⟨z7, hz7, hr⟩ := mBind hr
            refine mV_cV f10_chords_61 tg_m10_turnedOver mCls10 (by decide) kk_119 (mC_deep (c10_turnedOver X (mW I 119 0 0) s x0 hz7) (by decide)) rfl rfl (Nat.le_of_ble_eq_true rfl) ?_
            have hr := Option.some.inj hr; subst hr
            refine mV_drop (L' := [.ref 119, mX0, .int x1, mX0]) (mSub_k (mSub_x (mSub_k (mSub_x mSub_n)))) ?_
            exact keyz6
          · rw [if_pos h6] at hr
            refine mV_iload f10_chords_55 rfl ?_
            refine mV_goto f10_chords_56 ?_
            have hr := Option.some.inj hr; subst hr
            refine mV_drop (L' := [.ref 119, mX0, .int x1, mX0]) (mSub_k (mSub_x (mSub_k (mSub_x mSub_n)))) ?_
            exact keyz6
        · rw [if_pos h5] at hr
          refine mV_push f10_chords_46 ?_
          refine mV_goto f10_chords_47 ?_
          have hr := Option.some.inj hr; subst hr
          refine mV_drop (L' := [.ref 119, mX0, mX0, mX0]) (mSub_k (mSub_x (mSub_x (mSub_x mSub_n)))) ?_
          exact keyz5
    · rw [if_pos h1] at hr
      refine mV_push f10_chords_27 ?_
      have hr := Option.some.inj hr; subst hr
      exact mV_iret rfl rfl f10_chords_28 hQ
theorem c10_chords (X : Nat × (Nat → Int32)) (I : mI) (s : Nat) (x0 : Int32) (x1 : Int32) (x2 : Int32) {res : Int32 × mI} (hr : r10_chords I x0 x1 x2 = some res) : mC X m10_chords 2 0 0 [.ref 119, .int x0, .int x1, .int x2] NN KK I (PP s) (mRet (some (.int res.1)) NN KK res.2 (PP s)) :=
  mC_of (L0 := [.ref 119, .int x0, .int x1, .int x2]) rfl (Nat.le_of_ble_eq_true rfl) (w10_chords X I s x0 x1 x2 _ hr (mRet_ok _ _ _ _ _))
def r10_tone (I : mI) (x0 : Int32) : Option (Int32 × mI) := if (x0 : Int32) = ((-1) : Int32) then some (0, (mW (mW I 119 0 0) 119 48 0)) else if ((r10_isIn x0 0 60) : Int32) = (0 : Int32) then some ((-1), (mW I 119 0 0)) else if (I 119 48 : Int32) = (16 : Int32) then some ((-1), (mW I 119 0 0)) else (mSto (mW I 119 0 0) 146 16 (I 119 48) x0).bind fun z0 => some ((z0 119 48 + 1), (mW z0 119 48 (z0 119 48 + 1)))
set_option maxHeartbeats 4000000 in
set_option maxRecDepth 100000 in
theorem w10_tone (X : Nat × (Nat → Int32)) (I : mI) (s : Nat) (x0 : Int32) (Q : mQ) {res : Int32 × mI} (hr : r10_tone I x0 = some res) (hQ : Q (some (.int res.1)) NN KK res.2 (PP s)) : mV X m10_tone 1 0 0 0 [.ref 119, .int x0] [] NN KK I (PP s) Q := by
  unfold r10_tone at hr
  refine mV_aload f10_tone_0 rfl ?_
  refine mV_push f10_tone_1 ?_
  refine mV_putI f10_tone_2 (by decide) kk_119 rfl rfl ?_
  refine mV_iload f10_tone_5 rfl ?_
  refine mV_push f10_tone_6 ?_
  refine mV_icmp_ne f10_tone_7 (fun h0 => ?_) (fun h0 => ?_)
  · rw [if_neg h0] at hr
    refine mV_aload f10_tone_17 rfl ?_
    refine mV_iload f10_tone_18 rfl ?_
    refine mV_push f10_tone_19 ?_
    refine mV_push f10_tone_20 ?_
    refine mV_cV f10_tone_22 tg_m10_isIn mCls10 (by decide) kk_119 (mC_deep (c10_isIn X (mW I 119 0 0) s x0 0 60 rfl) (by decide)) rfl rfl (Nat.le_of_ble_eq_true rfl) ?_
    refine mV_if_eq f10_tone_25 (fun h1 => ?_) (fun h1 => ?_)
    · rw [if_pos h1] at hr
      refine mV_push f10_tone_37 ?_
      have hr := Option.some.inj hr; subst hr
      exact mV_iret rfl rfl f10_tone_38 hQ
    · rw [if_neg h1] at hr
      refine mV_aload f10_tone_28 rfl ?_
      refine mV_gI (I 119 48) f10_tone_29 (by decide) kk_119 rfl rfl ?_
      refine mV_push f10_tone_32 ?_
      refine mV_icmp_ne f10_tone_34 (fun h2 => ?_) (fun h2 => ?_)
      · rw [if_neg h2] at hr
        refine mV_aload f10_tone_39 rfl ?_
        refine mV_getP f10_tone_40 (by decide) kk_119 rfl (pp_119_49 _) ?_
        refine mV_aload f10_tone_43 rfl ?_
        refine mV_gI (I 119 48) f10_tone_44 (by decide) kk_119 rfl rfl ?_
        refine mV_iload f10_tone_47 rfl ?_
        obtain ⟨z0, hz0, hr⟩ := mBind hr
        refine mV_stO f10_tone_48 (by decide) kk_146 hz0 ?_
        refine mV_aload f10_tone_49 rfl ?_
        refine mV_aload f10_tone_50 rfl ?_
        refine mV_gI (z0 119 48) f10_tone_51 (by decide) kk_119 rfl rfl ?_
        refine mV_push f10_tone_54 ?_
        refine mV_iadd f10_tone_55 ?_
        refine mV_putI f10_tone_56 (by decide) kk_119 rfl rfl ?_
        refine mV_aload f10_tone_59 rfl ?_
        refine mV_gI (z0 119 48 + 1) f10_tone_60 (by decide) kk_119 rfl rfl ?_
        have hr := Option.some.inj hr; subst hr
        exact mV_iret rfl rfl f10_tone_63 hQ
      · rw [if_pos h2] at hr
        refine mV_push f10_tone_37 ?_
        have hr := Option.some.inj hr; subst hr
        exact mV_iret rfl rfl f10_tone_38 hQ
  · rw [if_pos h0] at hr
    refine mV_aload f10_tone_10 rfl ?_
    refine mV_push f10_tone_11 ?_
    refine mV_putI f10_tone_12 (by decide) kk_119 rfl rfl ?_
    refine mV_push f10_tone_15 ?_
    have hr := Option.some.inj hr; subst hr
    exact mV_iret rfl rfl f10_tone_16 hQ
theorem c10_tone (X : Nat × (Nat → Int32)) (I : mI) (s : Nat) (x0 : Int32) {res : Int32 × mI} (hr : r10_tone I x0 = some res) : mC X m10_tone 1 0 0 [.ref 119, .int x0] NN KK I (PP s) (mRet (some (.int res.1)) NN KK res.2 (PP s)) :=
  mC_of (L0 := [.ref 119, .int x0]) rfl (Nat.le_of_ble_eq_true rfl) (w10_tone X I s x0 _ hr (mRet_ok _ _ _ _ _))
def l10_alikeFrom_2 (I : mI) (k1 : Int32) (k2 : Int32) : Nat → Int32 → Option (Int32)
  | 0, _ => none
  | f + 1, y3 => if (I 119 48 : Int32) ≤ ((k1 + y3) : Int32) then some y3 else if (I 119 48 : Int32) ≤ ((k2 + y3) : Int32) then some y3 else (mLd I 146 16 (k1 + y3)).bind fun z0 => (mLd I 146 16 k1).bind fun z1 => (mLd I 146 16 (k2 + y3)).bind fun z2 => (mLd I 146 16 k2).bind fun z3 => if ((z0 - z1) : Int32) = ((z2 - z3) : Int32) then l10_alikeFrom_2 I k1 k2 f (y3 + 1) else some y3
def r10_alikeFrom (I : mI) (x0 : Int32) (x1 : Int32) : Option (Int32) := (l10_alikeFrom_2 I x0 x1 FU 1).bind fun z0 => some z0
set_option maxHeartbeats 4000000 in
set_option maxRecDepth 100000 in
theorem t10_alikeFrom_2 (X : Nat × (Nat → Int32)) (Q : mQ) (s : Nat) (I : mI) (k1 : Int32) (k2 : Int32) : ∀ (f : Nat) (y3 : Int32) (z : Int32), l10_alikeFrom_2 I k1 k2 f y3 = some z → mV X m10_alikeFrom 0 0 0 62 [.ref 119, .int k1, .int k2, .int z] [] NN KK I (PP s) Q → mV X m10_alikeFrom 0 0 0 2 [.ref 119, .int k1, .int k2, .int y3] [] NN KK I (PP s) Q := by
  intro f
  induction f with
  | zero => intro y3 z hr hk; cases hr
  | succ f ih =>
    intro y3 z hr hk
    unfold l10_alikeFrom_2 at hr
    refine mV_iload f10_alikeFrom_2 rfl ?_
    refine mV_iload f10_alikeFrom_3 rfl ?_
    refine mV_iadd f10_alikeFrom_4 ?_
    refine mV_aload f10_alikeFrom_5 rfl ?_
    refine mV_gI (I 119 48) f10_alikeFrom_6 (by decide) kk_119 rfl rfl ?_
    refine mV_icmp_ge f10_alikeFrom_9 (fun h0 => ?_) (fun h0 => ?_)
    · rw [if_pos h0] at hr
      have hr := Option.some.inj hr; subst hr
      exact hk
    · rw [if_neg h0] at hr
      refine mV_iload f10_alikeFrom_12 rfl ?_
      refine mV_iload f10_alikeFrom_13 rfl ?_
      refine mV_iadd f10_alikeFrom_14 ?_
      refine mV_aload f10_alikeFrom_15 rfl ?_
      refine mV_gI (I 119 48) f10_alikeFrom_16 (by decide) kk_119 rfl rfl ?_
      refine mV_icmp_ge f10_alikeFrom_19 (fun h1 => ?_) (fun h1 => ?_)
      · rw [if_pos h1] at hr
        have hr := Option.some.inj hr; subst hr
        exact hk
      · rw [if_neg h1] at hr
        refine mV_aload f10_alikeFrom_22 rfl ?_
        refine mV_getP f10_alikeFrom_23 (by decide) kk_119 rfl (pp_119_49 _) ?_
        refine mV_iload f10_alikeFrom_26 rfl ?_
        refine mV_iload f10_alikeFrom_27 rfl ?_
        refine mV_iadd f10_alikeFrom_28 ?_
        obtain ⟨z0, hz0, hr⟩ := mBind hr
        refine mV_ldO f10_alikeFrom_29 (by decide) kk_146 hz0 ?_
        refine mV_aload f10_alikeFrom_30 rfl ?_
        refine mV_getP f10_alikeFrom_31 (by decide) kk_119 rfl (pp_119_49 _) ?_
        refine mV_iload f10_alikeFrom_34 rfl ?_
        obtain ⟨z1, hz1, hr⟩ := mBind hr
        refine mV_ldO f10_alikeFrom_35 (by decide) kk_146 hz1 ?_
        refine mV_isub f10_alikeFrom_36 ?_
        refine mV_aload f10_alikeFrom_37 rfl ?_
        refine mV_getP f10_alikeFrom_38 (by decide) kk_119 rfl (pp_119_49 _) ?_
        refine mV_iload f10_alikeFrom_41 rfl ?_
        refine mV_iload f10_alikeFrom_42 rfl ?_
        refine mV_iadd f10_alikeFrom_43 ?_
        obtain ⟨z2, hz2, hr⟩ := mBind hr
        refine mV_ldO f10_alikeFrom_44 (by decide) kk_146 hz2 ?_
        refine mV_aload f10_alikeFrom_45 rfl ?_
        refine mV_getP f10_alikeFrom_46 (by decide) kk_119 rfl (pp_119_49 _) ?_
        refine mV_iload f10_alikeFrom_49 rfl ?_
        obtain ⟨z3, hz3, hr⟩ := mBind hr
        refine mV_ldO f10_alikeFrom_50 (by decide) kk_146 hz3 ?_
        refine mV_isub f10_alikeFrom_51 ?_
        refine mV_icmp_ne f10_alikeFrom_52 (fun h2 => ?_) (fun h2 => ?_)
        · rw [if_neg h2] at hr
          have hr := Option.some.inj hr; subst hr
          exact hk
        · rw [if_pos h2] at hr
          refine mV_iload f10_alikeFrom_55 rfl ?_
          refine mV_push f10_alikeFrom_56 ?_
          refine mV_iadd f10_alikeFrom_57 ?_
          refine mV_istore (L' := [.ref 119, .int k1, .int k2, .int (y3 + 1)]) f10_alikeFrom_58 (by decide) rfl rfl ?_
          refine mV_goto f10_alikeFrom_59 ?_
          exact ih (y3 + 1) _ hr hk
set_option maxHeartbeats 4000000 in
set_option maxRecDepth 100000 in
theorem w10_alikeFrom (X : Nat × (Nat → Int32)) (I : mI) (s : Nat) (x0 : Int32) (x1 : Int32) (Q : mQ) {res : Int32} (hr : r10_alikeFrom I x0 x1 = some res) (hQ : Q (some (.int res)) NN KK I (PP s)) : mV X m10_alikeFrom 0 0 0 0 [.ref 119, .int x0, .int x1, mX0] [] NN KK I (PP s) Q := by
  unfold r10_alikeFrom at hr
  refine mV_push f10_alikeFrom_0 ?_
  refine mV_istore (L' := [.ref 119, .int x0, .int x1, .int 1]) f10_alikeFrom_1 (by decide) rfl rfl ?_
  obtain ⟨z0, hz0, hr⟩ := mBind hr
  refine t10_alikeFrom_2 X Q s I x0 x1 FU 1 _ hz0 ?_
  refine mV_iload f10_alikeFrom_62 rfl ?_
  have hr := Option.some.inj hr; subst hr
  exact mV_iret rfl rfl f10_alikeFrom_63 hQ
theorem c10_alikeFrom (X : Nat × (Nat → Int32)) (I : mI) (s : Nat) (x0 : Int32) (x1 : Int32) {res : Int32} (hr : r10_alikeFrom I x0 x1 = some res) : mC X m10_alikeFrom 0 0 0 [.ref 119, .int x0, .int x1] NN KK I (PP s) (mRet (some (.int res)) NN KK I (PP s)) :=
  mC_of (L0 := [.ref 119, .int x0, .int x1, mX0]) rfl (Nat.le_of_ble_eq_true rfl) (w10_alikeFrom X I s x0 x1 _ hr (mRet_ok _ _ _ _ _))
def l10_twice_19 (I : mI) (k4 : Int32) : Nat → Int32 → Int32 → Int32 → Option (Int32 × Int32)
  | 0, _, _, _ => none
  | f + 1, y2, y3, y5 => if (I 119 48 : Int32) ≤ (y5 : Int32) then some (y2, y3) else (if (y5 : Int32) = (k4 : Int32) then some (y2, y3) else (r10_alikeFrom I k4 y5).bind fun z1 => if (y2 : Int32) < (z1 : Int32) then (r10_alikeFrom I k4 y5).bind fun z2 => some (z2, k4) else some (y2, y3) : Option (Int32 × Int32)).bind fun z0 => l10_twice_19 I k4 f z0.1 z0.2 (y5 + 1)
def l10_twice_7 (I : mI) : Nat → Int32 → Int32 → Int32 → Option (Int32 × Int32)
  | 0, _, _, _ => none
  | f + 1, y2, y3, y4 => if (I 119 48 : Int32) ≤ (y4 : Int32) then some (y2, y3) else (l10_twice_19 I y4 FU y2 y3 0).bind fun z0 => l10_twice_7 I f z0.1 z0.2 (y4 + 1)
def r10_twice (I : mI) (x0 : Int32) : Option (Int32) := (l10_twice_7 I FU 1 (-1) 0).bind fun z0 => (if (x0 : Int32) = (0 : Int32) then if (z0.1 : Int32) ≤ (1 : Int32) then some 0 else some z0.1 else some z0.2 : Option (Int32)).bind fun z1 => some z1
set_option maxHeartbeats 4000000 in
set_option maxRecDepth 100000 in
theorem t10_twice_19 (X : Nat × (Nat → Int32)) (Q : mQ) (s : Nat) (I : mI) (k1 : Int32) (k4 : Int32) : ∀ (f : Nat) (y2 : Int32) (y3 : Int32) (y5 : Int32) (z : Int32 × Int32), l10_twice_19 I k4 f y2 y3 y5 = some z → mV X m10_twice 1 0 0 68 [.ref 119, .int k1, .int z.1, .int z.2, .int k4, mX0] [] NN KK I (PP s) Q → mV X m10_twice 1 0 0 19 [.ref 119, .int k1, .int y2, .int y3, .int k4, .int y5] [] NN KK I (PP s) Q := by
  intro f
  induction f with
  | zero => intro y2 y3 y5 z hr hk; cases hr
  | succ f ih =>
    intro y2 y3 y5 z hr hk
    unfold l10_twice_19 at hr
    refine mV_iload f10_twice_19 rfl ?_
    refine mV_aload f10_twice_21 rfl ?_
    refine mV_gI (I 119 48) f10_twice_22 (by decide) kk_119 rfl rfl ?_
    refine mV_icmp_ge f10_twice_25 (fun h0 => ?_) (fun h0 => ?_)
    · rw [if_pos h0] at hr
      have hr := Option.some.inj hr; subst hr
      refine mV_drop (L' := [.ref 119, .int k1, .int y2, .int y3, .int k4, mX0]) (mSub_k (mSub_k (mSub_k (mSub_k (mSub_k (mSub_x mSub_n)))))) ?_
      exact hk
    · rw [if_neg h0] at hr
      refine mV_iload f10_twice_28 rfl ?_
      refine mV_iload f10_twice_30 rfl ?_
      obtain ⟨z0, hz0, hr⟩ := mBind hr
      have keyz0 : mV X m10_twice 1 0 0 62 [.ref 119, .int k1, .int z0.1, .int z0.2, .int k4, .int y5] [] NN KK I (PP s) Q := by
        refine mV_iinc (y := (y5 + 1)) (L' := [.ref 119, .int k1, .int z0.1, .int z0.2, .int k4, .int (y5 + 1)]) f10_twice_62 rfl rfl (by decide) rfl rfl ?_
        refine mV_goto f10_twice_65 ?_
        exact ih z0.1 z0.2 (y5 + 1) _ hr hk
      clear hr
      have hr := hz0
      clear hz0
      refine mV_icmp_eq f10_twice_32 (fun h1 => ?_) (fun h1 => ?_)
      · rw [if_pos h1] at hr
        have hr := Option.some.inj hr; subst hr
        exact keyz0
      · rw [if_neg h1] at hr
        refine mV_aload f10_twice_35 rfl ?_
        refine mV_iload f10_twice_36 rfl ?_
        refine mV_iload f10_twice_38 rfl ?_
        obtain ⟨z1, hz1, hr⟩ := mBind hr
        refine mV_cV f10_twice_40 tg_m10_alikeFrom mCls10 (by decide) kk_119 (mC_deep (c10_alikeFrom X I s k4 y5 hz1) (by decide)) rfl rfl (Nat.le_of_ble_eq_true rfl) ?_
        refine mV_iload f10_twice_43 rfl ?_
        refine mV_icmp_gt f10_twice_44 (fun h2 => ?_) (fun h2 => ?_)
        · rw [if_pos h2] at hr
          refine mV_aload f10_twice_50 rfl ?_
          refine mV_iload f10_twice_51 rfl ?_
          refine mV_iload f10_twice_53 rfl ?_
          obtain ⟨z2, hz2, hr⟩ := mBind hr
          refine mV_cV f10_twice_55 tg_m10_alikeFrom mCls10 (by decide) kk_119 (mC_deep (c10_alikeFrom X I s k4 y5 hz2) (by decide)) rfl rfl (Nat.le_of_ble_eq_true rfl) ?_
          refine mV_istore (L' := [.ref 119, .int k1, .int z2, .int y3, .int k4, .int y5]) f10_twice_58 (by decide) rfl rfl ?_
          refine mV_iload f10_twice_59 rfl ?_
          refine mV_istore (L' := [.ref 119, .int k1, .int z2, .int k4, .int k4, .int y5]) f10_twice_61 (by decide) rfl rfl ?_
          have hr := Option.some.inj hr; subst hr
          exact keyz0
        · rw [if_neg h2] at hr
          refine mV_goto f10_twice_47 ?_
          have hr := Option.some.inj hr; subst hr
          exact keyz0
set_option maxHeartbeats 4000000 in
set_option maxRecDepth 100000 in
theorem t10_twice_7 (X : Nat × (Nat → Int32)) (Q : mQ) (s : Nat) (I : mI) (k1 : Int32) : ∀ (f : Nat) (y2 : Int32) (y3 : Int32) (y4 : Int32) (z : Int32 × Int32), l10_twice_7 I f y2 y3 y4 = some z → mV X m10_twice 1 0 0 74 [.ref 119, .int k1, .int z.1, .int z.2, mX0, mX0] [] NN KK I (PP s) Q → mV X m10_twice 1 0 0 7 [.ref 119, .int k1, .int y2, .int y3, .int y4, mX0] [] NN KK I (PP s) Q := by
  intro f
  induction f with
  | zero => intro y2 y3 y4 z hr hk; cases hr
  | succ f ih =>
    intro y2 y3 y4 z hr hk
    unfold l10_twice_7 at hr
    refine mV_iload f10_twice_7 rfl ?_
    refine mV_aload f10_twice_9 rfl ?_
    refine mV_gI (I 119 48) f10_twice_10 (by decide) kk_119 rfl rfl ?_
    refine mV_icmp_ge f10_twice_13 (fun h0 => ?_) (fun h0 => ?_)
    · rw [if_pos h0] at hr
      have hr := Option.some.inj hr; subst hr
      refine mV_drop (L' := [.ref 119, .int k1, .int y2, .int y3, mX0, mX0]) (mSub_k (mSub_k (mSub_k (mSub_k (mSub_x (mSub_x mSub_n)))))) ?_
      exact hk
    · rw [if_neg h0] at hr
      refine mV_push f10_twice_16 ?_
      refine mV_istore (L' := [.ref 119, .int k1, .int y2, .int y3, .int y4, .int 0]) f10_twice_17 (by decide) rfl rfl ?_
      obtain ⟨z0, hz0, hr⟩ := mBind hr
      refine t10_twice_19 X Q s I k1 y4 FU y2 y3 0 _ hz0 ?_
      refine mV_iinc (y := (y4 + 1)) (L' := [.ref 119, .int k1, .int z0.1, .int z0.2, .int (y4 + 1), mX0]) f10_twice_68 rfl rfl (by decide) rfl rfl ?_
      refine mV_goto f10_twice_71 ?_
      exact ih z0.1 z0.2 (y4 + 1) _ hr hk
set_option maxHeartbeats 4000000 in
set_option maxRecDepth 100000 in
theorem w10_twice (X : Nat × (Nat → Int32)) (I : mI) (s : Nat) (x0 : Int32) (Q : mQ) {res : Int32} (hr : r10_twice I x0 = some res) (hQ : Q (some (.int res)) NN KK I (PP s)) : mV X m10_twice 1 0 0 0 [.ref 119, .int x0, mX0, mX0, mX0, mX0] [] NN KK I (PP s) Q := by
  unfold r10_twice at hr
  refine mV_push f10_twice_0 ?_
  refine mV_istore (L' := [.ref 119, .int x0, .int 1, mX0, mX0, mX0]) f10_twice_1 (by decide) rfl rfl ?_
  refine mV_push f10_twice_2 ?_
  refine mV_istore (L' := [.ref 119, .int x0, .int 1, .int (-1), mX0, mX0]) f10_twice_3 (by decide) rfl rfl ?_
  refine mV_push f10_twice_4 ?_
  refine mV_istore (L' := [.ref 119, .int x0, .int 1, .int (-1), .int 0, mX0]) f10_twice_5 (by decide) rfl rfl ?_
  obtain ⟨z0, hz0, hr⟩ := mBind hr
  refine t10_twice_7 X Q s I x0 FU 1 (-1) 0 _ hz0 ?_
  refine mV_iload f10_twice_74 rfl ?_
  obtain ⟨z1, hz1, hr⟩ := mBind hr
  have keyz1 : mV X m10_twice 1 0 0 92 [.ref 119, mX0, mX0, mX0, mX0, mX0] [.int z1] NN KK I (PP s) Q := by
    have hr := Option.some.inj hr; subst hr
    exact mV_iret rfl rfl f10_twice_92 hQ
  clear hr
  have hr := hz1
  clear hz1
  refine mV_if_eq f10_twice_75 (fun h0 => ?_) (fun h0 => ?_)
  · rw [if_pos h0] at hr
    refine mV_iload f10_twice_82 rfl ?_
    refine mV_push f10_twice_83 ?_
    refine mV_icmp_le f10_twice_84 (fun h1 => ?_) (fun h1 => ?_)
    · rw [if_pos h1] at hr
      refine mV_push f10_twice_91 ?_
      have hr := Option.some.inj hr; subst hr
      refine mV_drop (L' := [.ref 119, mX0, mX0, mX0, mX0, mX0]) (mSub_k (mSub_x (mSub_x (mSub_x (mSub_x (mSub_x mSub_n)))))) ?_
      exact keyz1
    · rw [if_neg h1] at hr
      refine mV_iload f10_twice_87 rfl ?_
      refine mV_goto f10_twice_88 ?_
      have hr := Option.some.inj hr; subst hr
      refine mV_drop (L' := [.ref 119, mX0, mX0, mX0, mX0, mX0]) (mSub_k (mSub_x (mSub_x (mSub_x (mSub_x (mSub_x mSub_n)))))) ?_
      exact keyz1
  · rw [if_neg h0] at hr
    refine mV_iload f10_twice_78 rfl ?_
    refine mV_goto f10_twice_79 ?_
    have hr := Option.some.inj hr; subst hr
    refine mV_drop (L' := [.ref 119, mX0, mX0, mX0, mX0, mX0]) (mSub_k (mSub_x (mSub_x (mSub_x (mSub_x (mSub_x mSub_n)))))) ?_
    exact keyz1
theorem c10_twice (X : Nat × (Nat → Int32)) (I : mI) (s : Nat) (x0 : Int32) {res : Int32} (hr : r10_twice I x0 = some res) : mC X m10_twice 1 0 0 [.ref 119, .int x0] NN KK I (PP s) (mRet (some (.int res)) NN KK I (PP s)) :=
  mC_of (L0 := [.ref 119, .int x0, mX0, mX0, mX0, mX0]) rfl (Nat.le_of_ble_eq_true rfl) (w10_twice X I s x0 _ hr (mRet_ok _ _ _ _ _))
def l10_rises_14 (I : mI) : Nat → Int32 → Int32 → Int32 → Option (Int32)
  | 0, _, _, _ => none
  | f + 1, y1, y2, y3 => if (I 119 48 : Int32) ≤ (y3 : Int32) then some y1 else (mLd I 146 16 y3).bind fun z0 => (mLd I 146 16 (y3 - 1)).bind fun z1 => (if (z0 : Int32) ≤ (z1 : Int32) then some 1 else some (y2 + 1) : Option (Int32)).bind fun z2 => l10_rises_14 I f (r10_greater y1 z2) z2 (y3 + 1)
def r10_rises (I : mI) : Option (Int32) := (l10_rises_14 I FU (r10_lesser 1 (I 119 48)) 1 1).bind fun z0 => some z0
set_option maxHeartbeats 4000000 in
set_option maxRecDepth 100000 in
theorem t10_rises_14 (X : Nat × (Nat → Int32)) (Q : mQ) (s : Nat) (I : mI) : ∀ (f : Nat) (y1 : Int32) (y2 : Int32) (y3 : Int32) (z : Int32), l10_rises_14 I f y1 y2 y3 = some z → mV X m10_rises 1 0 0 60 [.ref 119, .int z, mX0, mX0] [] NN KK I (PP s) Q → mV X m10_rises 1 0 0 14 [.ref 119, .int y1, .int y2, .int y3] [] NN KK I (PP s) Q := by
  intro f
  induction f with
  | zero => intro y1 y2 y3 z hr hk; cases hr
  | succ f ih =>
    intro y1 y2 y3 z hr hk
    unfold l10_rises_14 at hr
    refine mV_iload f10_rises_14 rfl ?_
    refine mV_aload f10_rises_15 rfl ?_
    refine mV_gI (I 119 48) f10_rises_16 (by decide) kk_119 rfl rfl ?_
    refine mV_icmp_ge f10_rises_19 (fun h0 => ?_) (fun h0 => ?_)
    · rw [if_pos h0] at hr
      have hr := Option.some.inj hr; subst hr
      refine mV_drop (L' := [.ref 119, .int y1, mX0, mX0]) (mSub_k (mSub_k (mSub_x (mSub_x mSub_n)))) ?_
      exact hk
    · rw [if_neg h0] at hr
      refine mV_aload f10_rises_22 rfl ?_
      refine mV_getP f10_rises_23 (by decide) kk_119 rfl (pp_119_49 _) ?_
      refine mV_iload f10_rises_26 rfl ?_
      obtain ⟨z0, hz0, hr⟩ := mBind hr
      refine mV_ldO f10_rises_27 (by decide) kk_146 hz0 ?_
      refine mV_aload f10_rises_28 rfl ?_
      refine mV_getP f10_rises_29 (by decide) kk_119 rfl (pp_119_49 _) ?_
      refine mV_iload f10_rises_32 rfl ?_
      refine mV_push f10_rises_33 ?_
      refine mV_isub f10_rises_34 ?_
      obtain ⟨z1, hz1, hr⟩ := mBind hr
      refine mV_ldO f10_rises_35 (by decide) kk_146 hz1 ?_
      obtain ⟨z2, hz2, hr⟩ := mBind hr
      have keyz2 : mV X m10_rises 1 0 0 46 [.ref 119, .int y1, mX0, .int y3] [.int z2] NN KK I (PP s) Q := by
        refine mV_istore (L' := [.ref 119, .int y1, .int z2, .int y3]) f10_rises_46 (by decide) rfl rfl ?_
        refine mV_aload f10_rises_47 rfl ?_
        refine mV_iload f10_rises_48 rfl ?_
        refine mV_iload f10_rises_49 rfl ?_
        refine mV_cV f10_rises_50 tg_m10_greater mCls10 (by decide) kk_119 (mC_deep (c10_greater X I s y1 z2 rfl) (by decide)) rfl rfl (Nat.le_of_ble_eq_true rfl) ?_
        refine mV_istore (L' := [.ref 119, .int (r10_greater y1 z2), .int z2, .int y3]) f10_rises_53 (by decide) rfl rfl ?_
        refine mV_iinc (y := (y3 + 1)) (L' := [.ref 119, .int (r10_greater y1 z2), .int z2, .int (y3 + 1)]) f10_rises_54 rfl rfl (by decide) rfl rfl ?_
        refine mV_goto f10_rises_57 ?_
        exact ih (r10_greater y1 z2) z2 (y3 + 1) _ hr hk
      clear hr
      have hr := hz2
      clear hz2
      refine mV_icmp_le f10_rises_36 (fun h1 => ?_) (fun h1 => ?_)
      · rw [if_pos h1] at hr
        refine mV_push f10_rises_45 ?_
        have hr := Option.some.inj hr; subst hr
        refine mV_drop (L' := [.ref 119, .int y1, mX0, .int y3]) (mSub_k (mSub_k (mSub_x (mSub_k mSub_n)))) ?_
        exact keyz2
      · rw [if_neg h1] at hr
        refine mV_iload f10_rises_39 rfl ?_
        refine mV_push f10_rises_40 ?_
        refine mV_iadd f10_rises_41 ?_
        refine mV_goto f10_rises_42 ?_
        have hr := Option.some.inj hr; subst hr
        refine mV_drop (L' := [.ref 119, .int y1, mX0, .int y3]) (mSub_k (mSub_k (mSub_x (mSub_k mSub_n)))) ?_
        exact keyz2
set_option maxHeartbeats 4000000 in
set_option maxRecDepth 100000 in
theorem w10_rises (X : Nat × (Nat → Int32)) (I : mI) (s : Nat) (Q : mQ) {res : Int32} (hr : r10_rises I = some res) (hQ : Q (some (.int res)) NN KK I (PP s)) : mV X m10_rises 1 0 0 0 [.ref 119, mX0, mX0, mX0] [] NN KK I (PP s) Q := by
  unfold r10_rises at hr
  refine mV_aload f10_rises_0 rfl ?_
  refine mV_push f10_rises_1 ?_
  refine mV_aload f10_rises_2 rfl ?_
  refine mV_gI (I 119 48) f10_rises_3 (by decide) kk_119 rfl rfl ?_
  refine mV_cV f10_rises_6 tg_m10_lesser mCls10 (by decide) kk_119 (mC_deep (c10_lesser X I s 1 (I 119 48) rfl) (by decide)) rfl rfl (Nat.le_of_ble_eq_true rfl) ?_
  refine mV_istore (L' := [.ref 119, .int (r10_lesser 1 (I 119 48)), mX0, mX0]) f10_rises_9 (by decide) rfl rfl ?_
  refine mV_push f10_rises_10 ?_
  refine mV_istore (L' := [.ref 119, .int (r10_lesser 1 (I 119 48)), .int 1, mX0]) f10_rises_11 (by decide) rfl rfl ?_
  refine mV_push f10_rises_12 ?_
  refine mV_istore (L' := [.ref 119, .int (r10_lesser 1 (I 119 48)), .int 1, .int 1]) f10_rises_13 (by decide) rfl rfl ?_
  obtain ⟨z0, hz0, hr⟩ := mBind hr
  refine t10_rises_14 X Q s I FU (r10_lesser 1 (I 119 48)) 1 1 _ hz0 ?_
  refine mV_iload f10_rises_60 rfl ?_
  have hr := Option.some.inj hr; subst hr
  exact mV_iret rfl rfl f10_rises_61 hQ
theorem c10_rises (X : Nat × (Nat → Int32)) (I : mI) (s : Nat) {res : Int32} (hr : r10_rises I = some res) : mC X m10_rises 1 0 0 [.ref 119] NN KK I (PP s) (mRet (some (.int res)) NN KK I (PP s)) :=
  mC_of (L0 := [.ref 119, mX0, mX0, mX0]) rfl (Nat.le_of_ble_eq_true rfl) (w10_rises X I s _ hr (mRet_ok _ _ _ _ _))
def r10_stepCost (I : mI) (x0 : Int32) (x1 : Int32) (x2 : Int32) : Option (Int32) := (mLd I 146 16 (x0 + 1)).bind fun z0 => (mLd I 146 16 x0).bind fun z1 => (if (x1 : Int32) = (x2 : Int32) then if ((z0 - z1) : Int32) = (0 : Int32) then some 0 else some 9 else some 0 : Option (Int32)).bind fun z2 => some ((r10_apart (z0 - z1) (2 * (x2 - x1))) + z2)
set_option maxHeartbeats 4000000 in
set_option maxRecDepth 100000 in
theorem w10_stepCost (X : Nat × (Nat → Int32)) (I : mI) (s : Nat) (x0 : Int32) (x1 : Int32) (x2 : Int32) (Q : mQ) {res : Int32} (hr : r10_stepCost I x0 x1 x2 = some res) (hQ : Q (some (.int res)) NN KK I (PP s)) : mV X m10_stepCost 1 0 0 0 [.ref 119, .int x0, .int x1, .int x2, mX0] [] NN KK I (PP s) Q := by
  unfold r10_stepCost at hr
  refine mV_aload f10_stepCost_0 rfl ?_
  refine mV_getP f10_stepCost_1 (by decide) kk_119 rfl (pp_119_49 _) ?_
  refine mV_iload f10_stepCost_4 rfl ?_
  refine mV_push f10_stepCost_5 ?_
  refine mV_iadd f10_stepCost_6 ?_
  obtain ⟨z0, hz0, hr⟩ := mBind hr
  refine mV_ldO f10_stepCost_7 (by decide) kk_146 hz0 ?_
  refine mV_aload f10_stepCost_8 rfl ?_
  refine mV_getP f10_stepCost_9 (by decide) kk_119 rfl (pp_119_49 _) ?_
  refine mV_iload f10_stepCost_12 rfl ?_
  obtain ⟨z1, hz1, hr⟩ := mBind hr
  refine mV_ldO f10_stepCost_13 (by decide) kk_146 hz1 ?_
  refine mV_isub f10_stepCost_14 ?_
  refine mV_istore (L' := [.ref 119, .int x0, .int x1, .int x2, .int (z0 - z1)]) f10_stepCost_15 (by decide) rfl rfl ?_
  refine mV_aload f10_stepCost_17 rfl ?_
  refine mV_iload f10_stepCost_18 rfl ?_
  refine mV_push f10_stepCost_20 ?_
  refine mV_iload f10_stepCost_21 rfl ?_
  refine mV_iload f10_stepCost_22 rfl ?_
  refine mV_isub f10_stepCost_23 ?_
  refine mV_imul f10_stepCost_24 ?_
  refine mV_cV f10_stepCost_25 tg_m10_apart mCls10 (by decide) kk_119 (mC_deep (c10_apart X I s (z0 - z1) (2 * (x2 - x1)) rfl) (by decide)) rfl rfl (Nat.le_of_ble_eq_true rfl) ?_
  refine mV_iload f10_stepCost_28 rfl ?_
  refine mV_iload f10_stepCost_29 rfl ?_
  obtain ⟨z2, hz2, hr⟩ := mBind hr
  have keyz2 : mV X m10_stepCost 1 0 0 44 [.ref 119, mX0, mX0, mX0, mX0] [.int z2, .int (r10_apart (z0 - z1) (2 * (x2 - x1)))] NN KK I (PP s) Q := by
    refine mV_iadd f10_stepCost_44 ?_
    have hr := Option.some.inj hr; subst hr
    exact mV_iret rfl rfl f10_stepCost_45 hQ
  clear hr
  have hr := hz2
  clear hz2
  refine mV_icmp_ne f10_stepCost_30 (fun h0 => ?_) (fun h0 => ?_)
  · rw [if_neg h0] at hr
    refine mV_push f10_stepCost_43 ?_
    have hr := Option.some.inj hr; subst hr
    refine mV_drop (L' := [.ref 119, mX0, mX0, mX0, mX0]) (mSub_k (mSub_x (mSub_x (mSub_x (mSub_x mSub_n))))) ?_
    exact keyz2
  · rw [if_pos h0] at hr
    refine mV_iload f10_stepCost_33 rfl ?_
    refine mV_if_eq f10_stepCost_35 (fun h1 => ?_) (fun h1 => ?_)
    · rw [if_pos h1] at hr
      refine mV_push f10_stepCost_43 ?_
      have hr := Option.some.inj hr; subst hr
      refine mV_drop (L' := [.ref 119, mX0, mX0, mX0, mX0]) (mSub_k (mSub_x (mSub_x (mSub_x (mSub_x mSub_n))))) ?_
      exact keyz2
    · rw [if_neg h1] at hr
      refine mV_push f10_stepCost_38 ?_
      refine mV_goto f10_stepCost_40 ?_
      have hr := Option.some.inj hr; subst hr
      refine mV_drop (L' := [.ref 119, mX0, mX0, mX0, mX0]) (mSub_k (mSub_x (mSub_x (mSub_x (mSub_x mSub_n))))) ?_
      exact keyz2
theorem c10_stepCost (X : Nat × (Nat → Int32)) (I : mI) (s : Nat) (x0 : Int32) (x1 : Int32) (x2 : Int32) {res : Int32} (hr : r10_stepCost I x0 x1 x2 = some res) : mC X m10_stepCost 1 0 0 [.ref 119, .int x0, .int x1, .int x2] NN KK I (PP s) (mRet (some (.int res)) NN KK I (PP s)) :=
  mC_of (L0 := [.ref 119, .int x0, .int x1, .int x2, mX0]) rfl (Nat.le_of_ble_eq_true rfl) (w10_stepCost X I s x0 x1 x2 _ hr (mRet_ok _ _ _ _ _))

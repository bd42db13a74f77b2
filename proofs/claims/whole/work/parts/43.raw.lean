def l10_takesOther_87 (k2 : Int32) : Nat → Int32 → mI → Option (mI)
  | 0, _, _ => none
  | f + 1, y3, I => if ((3 * k2) : Int32) ≤ (y3 : Int32) then some I else (mLd I 140 96 (48 + y3)).bind fun z0 => (mSto I 140 96 y3 z0).bind fun z1 => l10_takesOther_87 k2 f (y3 + 1) z1
def l10_takesOther_47 (k2 : Int32) : Nat → Int32 → mI → Option (mI)
  | 0, _, _ => none
  | f + 1, y3, I => if ((9 * k2) : Int32) ≤ (y3 : Int32) then some I else (mLd I 139 288 (144 + y3)).bind fun z0 => (mSto I 139 288 y3 z0).bind fun z1 => l10_takesOther_47 k2 f (y3 + 1) z1
def l10_takesOther_7 : Nat → Int32 → mI → Option (mI)
  | 0, _, _ => none
  | f + 1, y3, I => if (12 : Int32) ≤ (y3 : Int32) then some I else (mLd I 141 24 (12 + y3)).bind fun z0 => (mSto I 141 24 y3 z0).bind fun z1 => l10_takesOther_7 f (y3 + 1) z1
def r10_takesOther (I : mI) (x0 : Int32) (x1 : Int32) : Option (mI) := if (x0 : Int32) = (3 : Int32) then (l10_takesOther_7 FU 0 I).bind fun z3 => some (mW z3 119 41 x1) else (if (x0 : Int32) = (1 : Int32) then (l10_takesOther_47 x1 FU 0 I).bind fun z2 => some (mW z2 119 37 x1) else (l10_takesOther_87 x1 FU 0 I).bind fun z1 => some (mW z1 119 39 x1) : Option (mI)).bind fun z0 => some (mW z0 119 3 0)
set_option maxHeartbeats 4000000 in
set_option maxRecDepth 100000 in
theorem t10_takesOther_87 (X : Nat × (Nat → Int32)) (Q : mQ) (s : Nat) (k2 : Int32) : ∀ (f : Nat) (y3 : Int32) (I : mI) (z : mI), l10_takesOther_87 k2 f y3 I = some z → mV X m10_takesOther 0 0 0 115 [.ref 119, mX0, .int k2, mX0] [] NN KK z (PP s) Q → mV X m10_takesOther 0 0 0 87 [.ref 119, mX0, .int k2, .int y3] [] NN KK I (PP s) Q := by
  intro f
  induction f with
  | zero => intro y3 I z hr hk; cases hr
  | succ f ih =>
    intro y3 I z hr hk
    unfold l10_takesOther_87 at hr
    refine mV_iload f10_takesOther_87 rfl ?_
    refine mV_push f10_takesOther_88 ?_
    refine mV_iload f10_takesOther_89 rfl ?_
    refine mV_imul f10_takesOther_90 ?_
    refine mV_icmp_ge f10_takesOther_91 (fun h0 => ?_) (fun h0 => ?_)
    · rw [if_pos h0] at hr
      have hr := Option.some.inj hr; subst hr
      refine mV_drop (L' := [.ref 119, mX0, .int k2, mX0]) (mSub_k (mSub_x (mSub_k (mSub_x mSub_n)))) ?_
      exact hk
    · rw [if_neg h0] at hr
      refine mV_aload f10_takesOther_94 rfl ?_
      refine mV_getP f10_takesOther_95 (by decide) kk_119 rfl (pp_119_40 _) ?_
      refine mV_iload f10_takesOther_98 rfl ?_
      refine mV_aload f10_takesOther_99 rfl ?_
      refine mV_getP f10_takesOther_100 (by decide) kk_119 rfl (pp_119_40 _) ?_
      refine mV_push f10_takesOther_103 ?_
      refine mV_iload f10_takesOther_105 rfl ?_
      refine mV_iadd f10_takesOther_106 ?_
      obtain ⟨z0, hz0, hr⟩ := mBind hr
      refine mV_ldO f10_takesOther_107 (by decide) kk_140 hz0 ?_
      obtain ⟨z1, hz1, hr⟩ := mBind hr
      refine mV_stO f10_takesOther_108 (by decide) kk_140 hz1 ?_
      refine mV_iinc (y := (y3 + 1)) (L' := [.ref 119, mX0, .int k2, .int (y3 + 1)]) f10_takesOther_109 rfl rfl (by decide) rfl rfl ?_
      refine mV_goto f10_takesOther_112 ?_
      exact ih (y3 + 1) z1 _ hr hk
set_option maxHeartbeats 4000000 in
set_option maxRecDepth 100000 in
theorem t10_takesOther_47 (X : Nat × (Nat → Int32)) (Q : mQ) (s : Nat) (k2 : Int32) : ∀ (f : Nat) (y3 : Int32) (I : mI) (z : mI), l10_takesOther_47 k2 f y3 I = some z → mV X m10_takesOther 0 0 0 77 [.ref 119, mX0, .int k2, mX0] [] NN KK z (PP s) Q → mV X m10_takesOther 0 0 0 47 [.ref 119, mX0, .int k2, .int y3] [] NN KK I (PP s) Q := by
  intro f
  induction f with
  | zero => intro y3 I z hr hk; cases hr
  | succ f ih =>
    intro y3 I z hr hk
    unfold l10_takesOther_47 at hr
    refine mV_iload f10_takesOther_47 rfl ?_
    refine mV_push f10_takesOther_48 ?_
    refine mV_iload f10_takesOther_50 rfl ?_
    refine mV_imul f10_takesOther_51 ?_
    refine mV_icmp_ge f10_takesOther_52 (fun h0 => ?_) (fun h0 => ?_)
    · rw [if_pos h0] at hr
      have hr := Option.some.inj hr; subst hr
      refine mV_drop (L' := [.ref 119, mX0, .int k2, mX0]) (mSub_k (mSub_x (mSub_k (mSub_x mSub_n)))) ?_
      exact hk
    · rw [if_neg h0] at hr
      refine mV_aload f10_takesOther_55 rfl ?_
      refine mV_getP f10_takesOther_56 (by decide) kk_119 rfl (pp_119_38 _) ?_
      refine mV_iload f10_takesOther_59 rfl ?_
      refine mV_aload f10_takesOther_60 rfl ?_
      refine mV_getP f10_takesOther_61 (by decide) kk_119 rfl (pp_119_38 _) ?_
      refine mV_push f10_takesOther_64 ?_
      refine mV_iload f10_takesOther_67 rfl ?_
      refine mV_iadd f10_takesOther_68 ?_
      obtain ⟨z0, hz0, hr⟩ := mBind hr
      refine mV_ldO f10_takesOther_69 (by decide) kk_139 hz0 ?_
      obtain ⟨z1, hz1, hr⟩ := mBind hr
      refine mV_stO f10_takesOther_70 (by decide) kk_139 hz1 ?_
      refine mV_iinc (y := (y3 + 1)) (L' := [.ref 119, mX0, .int k2, .int (y3 + 1)]) f10_takesOther_71 rfl rfl (by decide) rfl rfl ?_
      refine mV_goto f10_takesOther_74 ?_
      exact ih (y3 + 1) z1 _ hr hk
set_option maxHeartbeats 4000000 in
set_option maxRecDepth 100000 in
theorem t10_takesOther_7 (X : Nat × (Nat → Int32)) (Q : mQ) (s : Nat) (k2 : Int32) : ∀ (f : Nat) (y3 : Int32) (I : mI) (z : mI), l10_takesOther_7 f y3 I = some z → mV X m10_takesOther 0 0 0 34 [.ref 119, mX0, .int k2, mX0] [] NN KK z (PP s) Q → mV X m10_takesOther 0 0 0 7 [.ref 119, mX0, .int k2, .int y3] [] NN KK I (PP s) Q := by
  intro f
  induction f with
  | zero => intro y3 I z hr hk; cases hr
  | succ f ih =>
    intro y3 I z hr hk
    unfold l10_takesOther_7 at hr
    refine mV_iload f10_takesOther_7 rfl ?_
    refine mV_push f10_takesOther_8 ?_
    refine mV_icmp_ge f10_takesOther_10 (fun h0 => ?_) (fun h0 => ?_)
    · rw [if_pos h0] at hr
      have hr := Option.some.inj hr; subst hr
      refine mV_drop (L' := [.ref 119, mX0, .int k2, mX0]) (mSub_k (mSub_x (mSub_k (mSub_x mSub_n)))) ?_
      exact hk
    · rw [if_neg h0] at hr
      refine mV_aload f10_takesOther_13 rfl ?_
      refine mV_getP f10_takesOther_14 (by decide) kk_119 rfl (pp_119_42 _) ?_
      refine mV_iload f10_takesOther_17 rfl ?_
      refine mV_aload f10_takesOther_18 rfl ?_
      refine mV_getP f10_takesOther_19 (by decide) kk_119 rfl (pp_119_42 _) ?_
      refine mV_push f10_takesOther_22 ?_
      refine mV_iload f10_takesOther_24 rfl ?_
      refine mV_iadd f10_takesOther_25 ?_
      obtain ⟨z0, hz0, hr⟩ := mBind hr
      refine mV_ldO f10_takesOther_26 (by decide) kk_141 hz0 ?_
      obtain ⟨z1, hz1, hr⟩ := mBind hr
      refine mV_stO f10_takesOther_27 (by decide) kk_141 hz1 ?_
      refine mV_iinc (y := (y3 + 1)) (L' := [.ref 119, mX0, .int k2, .int (y3 + 1)]) f10_takesOther_28 rfl rfl (by decide) rfl rfl ?_
      refine mV_goto f10_takesOther_31 ?_
      exact ih (y3 + 1) z1 _ hr hk
set_option maxHeartbeats 4000000 in
set_option maxRecDepth 100000 in
theorem w10_takesOther (X : Nat × (Nat → Int32)) (I : mI) (s : Nat) (x0 : Int32) (x1 : Int32) (Q : mQ) {res : mI} (hr : r10_takesOther I x0 x1 = some res) (hQ : Q none NN KK res (PP s)) : mV X m10_takesOther 0 0 0 0 [.ref 119, .int x0, .int x1, mX0] [] NN KK I (PP s) Q := by
  unfold r10_takesOther at hr
  refine mV_iload f10_takesOther_0 rfl ?_
  refine mV_push f10_takesOther_1 ?_
  refine mV_icmp_ne f10_takesOther_2 (fun h0 => ?_) (fun h0 => ?_)
  · rw [if_neg h0] at hr
    refine mV_iload f10_takesOther_40 rfl ?_
    refine mV_push f10_takesOther_41 ?_
    obtain ⟨z0, hz0, hr⟩ := mBind hr
    have keyz0 : mV X m10_takesOther 0 0 0 120 [.ref 119, mX0, mX0, mX0] [] NN KK z0 (PP s) Q := by
      refine mV_aload f10_takesOther_120 rfl ?_
      refine mV_push f10_takesOther_121 ?_
      refine mV_putI f10_takesOther_122 (by decide) kk_119 rfl rfl ?_
      have hr := Option.some.inj hr; subst hr
      exact mV_vret rfl f10_takesOther_125 hQ
    clear hr
    have hr := hz0
    clear hz0
    refine mV_icmp_ne f10_takesOther_42 (fun h1 => ?_) (fun h1 => ?_)
    · rw [if_neg h1] at hr
      refine mV_push f10_takesOther_85 ?_
      refine mV_istore (L' := [.ref 119, .int x0, .int x1, .int 0]) f10_takesOther_86 (by decide) rfl rfl ?_
      obtain ⟨z1, hz1, hr⟩ := mBind hr
      refine mV_drop (L' := [.ref 119, mX0, .int x1, .int 0]) (mSub_k (mSub_x (mSub_k (mSub_k mSub_n)))) ?_
      refine t10_takesOther_87 X Q s x1 FU 0 I _ hz1 ?_
      refine mV_aload f10_takesOther_115 rfl ?_
      refine mV_iload f10_takesOther_116 rfl ?_
      refine mV_putI f10_takesOther_117 (by decide) kk_119 rfl rfl ?_
      have hr := Option.some.inj hr; subst hr
      refine mV_drop (L' := [.ref 119, mX0, mX0, mX0]) (mSub_k (mSub_x (mSub_x (mSub_x mSub_n)))) ?_
      exact keyz0
    · rw [if_pos h1] at hr
      refine mV_push f10_takesOther_45 ?_
      refine mV_istore (L' := [.ref 119, .int x0, .int x1, .int 0]) f10_takesOther_46 (by decide) rfl rfl ?_
      obtain ⟨z2, hz2, hr⟩ := mBind hr
      refine mV_drop (L' := [.ref 119, mX0, .int x1, .int 0]) (mSub_k (mSub_x (mSub_k (mSub_k mSub_n)))) ?_
      refine t10_takesOther_47 X Q s x1 FU 0 I _ hz2 ?_
      refine mV_aload f10_takesOther_77 rfl ?_
      refine mV_iload f10_takesOther_78 rfl ?_
      refine mV_putI f10_takesOther_79 (by decide) kk_119 rfl rfl ?_
      refine mV_goto f10_takesOther_82 ?_
      have hr := Option.some.inj hr; subst hr
      refine mV_drop (L' := [.ref 119, mX0, mX0, mX0]) (mSub_k (mSub_x (mSub_x (mSub_x mSub_n)))) ?_
      exact keyz0
  · rw [if_pos h0] at hr
    refine mV_push f10_takesOther_5 ?_
    refine mV_istore (L' := [.ref 119, .int x0, .int x1, .int 0]) f10_takesOther_6 (by decide) rfl rfl ?_
    obtain ⟨z3, hz3, hr⟩ := mBind hr
    refine mV_drop (L' := [.ref 119, mX0, .int x1, .int 0]) (mSub_k (mSub_x (mSub_k (mSub_k mSub_n)))) ?_
    refine t10_takesOther_7 X Q s x1 FU 0 I _ hz3 ?_
    refine mV_aload f10_takesOther_34 rfl ?_
    refine mV_iload f10_takesOther_35 rfl ?_
    refine mV_putI f10_takesOther_36 (by decide) kk_119 rfl rfl ?_
    have hr := Option.some.inj hr; subst hr
    exact mV_vret rfl f10_takesOther_39 hQ
theorem c10_takesOther (X : Nat × (Nat → Int32)) (I : mI) (s : Nat) (x0 : Int32) (x1 : Int32) {res : mI} (hr : r10_takesOther I x0 x1 = some res) : mC X m10_takesOther 0 0 0 [.ref 119, .int x0, .int x1] NN KK I (PP s) (mRet none NN KK res (PP s)) :=
  mC_of (L0 := [.ref 119, .int x0, .int x1, mX0]) rfl (Nat.le_of_ble_eq_true rfl) (w10_takesOther X I s x0 x1 _ hr (mRet_ok _ _ _ _ _))
def r10_text (I : mI) (x0 : Int32) : Option (Int32 × mI) := (if ((r10_isIn x0 0 3) : Int32) = (0 : Int32) then some ((-1), (mW (mW (mW (mW (mW (mW I 119 0 0) 119 35 0) 119 36 (-1)) 119 16 0) 119 29 0) 119 30 0)) else (r10_readsText (mW (mW (mW (mW (mW (mW I 119 0 0) 119 35 0) 119 36 (-1)) 119 16 0) 119 29 0) 119 30 0) x0).bind fun z1 => if (z1.1 : Int32) = ((-1) : Int32) then some (z1.1, (mW (mW z1.2 119 35 (z1.2 119 33)) 119 36 (z1.2 119 34))) else some (z1.1, z1.2) : Option (Int32 × mI)).bind fun z0 => if (z0.1 : Int32) = ((-1) : Int32) then some ((-1), (mW z0.2 119 15 0)) else (if (x0 : Int32) = (0 : Int32) then (r10_takesLaw (mW z0.2 119 15 0) z0.1).bind fun z4 => some z4 else (r10_takesOther (mW z0.2 119 15 0) x0 z0.1).bind fun z3 => some z3 : Option (mI)).bind fun z2 => some (z0.1, z2)
set_option maxHeartbeats 4000000 in
set_option maxRecDepth 100000 in
theorem w10_text (X : Nat × (Nat → Int32)) (I : mI) (s : Nat) (x0 : Int32) (Q : mQ) {res : Int32 × mI} (hr : r10_text I x0 = some res) (hQ : Q (some (.int res.1)) NN KK res.2 (PP s)) : mV X m10_text 10 0 0 0 [.ref 119, .int x0, mX0] [] NN KK I (PP s) Q := by
  unfold r10_text at hr
  refine mV_aload f10_text_0 rfl ?_
  refine mV_push f10_text_1 ?_
  refine mV_putI f10_text_2 (by decide) kk_119 rfl rfl ?_
  refine mV_aload f10_text_5 rfl ?_
  refine mV_push f10_text_6 ?_
  refine mV_putI f10_text_7 (by decide) kk_119 rfl rfl ?_
  refine mV_aload f10_text_10 rfl ?_
  refine mV_push f10_text_11 ?_
  refine mV_putI f10_text_12 (by decide) kk_119 rfl rfl ?_
  refine mV_aload f10_text_15 rfl ?_
  refine mV_push f10_text_16 ?_
  refine mV_putI f10_text_17 (by decide) kk_119 rfl rfl ?_
  refine mV_aload f10_text_20 rfl ?_
  refine mV_push f10_text_21 ?_
  refine mV_putI f10_text_22 (by decide) kk_119 rfl rfl ?_
  refine mV_aload f10_text_25 rfl ?_
  refine mV_push f10_text_26 ?_
  refine mV_putI f10_text_27 (by decide) kk_119 rfl rfl ?_
  refine mV_push f10_text_30 ?_
  refine mV_istore (L' := [.ref 119, .int x0, .int (-1)]) f10_text_31 (by decide) rfl rfl ?_
  refine mV_aload f10_text_32 rfl ?_
  refine mV_iload f10_text_33 rfl ?_
  refine mV_push f10_text_34 ?_
  refine mV_push f10_text_35 ?_
  refine mV_cV f10_text_36 tg_m10_isIn mCls10 (by decide) kk_119 (mC_deep (c10_isIn X (mW (mW (mW (mW (mW (mW I 119 0 0) 119 35 0) 119 36 (-1)) 119 16 0) 119 29 0) 119 30 0) s x0 0 3 rfl) (by decide)) rfl rfl (Nat.le_of_ble_eq_true rfl) ?_
  obtain ⟨z0, hz0, hr⟩ := mBind hr
  have keyz0 : mV X m10_text 10 0 0 69 [.ref 119, .int x0, .int z0.1] [] NN KK z0.2 (PP s) Q := by
    refine mV_aload f10_text_69 rfl ?_
    refine mV_push f10_text_70 ?_
    refine mV_putI f10_text_71 (by decide) kk_119 rfl rfl ?_
    refine mV_iload f10_text_74 rfl ?_
    refine mV_push f10_text_75 ?_
    refine mV_icmp_ne f10_text_76 (fun h2 => ?_) (fun h2 => ?_)
    · rw [if_neg h2] at hr
      refine mV_iload f10_text_81 rfl ?_
      obtain ⟨z2, hz2, hr⟩ := mBind hr
      have keyz2 : mV X m10_text 10 0 0 99 [.ref 119, mX0, .int z0.1] [] NN KK z2 (PP s) Q := by
        refine mV_iload f10_text_99 rfl ?_
        have hr := Option.some.inj hr; subst hr
        exact mV_iret rfl rfl f10_text_100 hQ
      clear hr
      have hr := hz2
      clear hz2
      refine mV_if_ne f10_text_82 (fun h3 => ?_) (fun h3 => ?_)
      · rw [if_neg h3] at hr
        refine mV_aload f10_text_93 rfl ?_
        refine mV_iload f10_text_94 rfl ?_
        refine mV_iload f10_text_95 rfl ?_
        obtain ⟨z3, hz3, hr⟩ := mBind hr
        refine mV_cV f10_text_96 tg_m10_takesOther mCls10 (by decide) kk_119 (mC_deep (c10_takesOther X (mW z0.2 119 15 0) s x0 z0.1 hz3) (by decide)) rfl rfl (Nat.le_of_ble_eq_true rfl) ?_
        have hr := Option.some.inj hr; subst hr
        refine mV_drop (L' := [.ref 119, mX0, .int z0.1]) (mSub_k (mSub_x (mSub_k mSub_n))) ?_
        exact keyz2
      · rw [if_pos h3] at hr
        refine mV_aload f10_text_85 rfl ?_
        refine mV_iload f10_text_86 rfl ?_
        obtain ⟨z4, hz4, hr⟩ := mBind hr
        refine mV_cV f10_text_87 tg_m10_takesLaw mCls10 (by decide) kk_119 (mC_deep (c10_takesLaw X (mW z0.2 119 15 0) s z0.1 hz4) (by decide)) rfl rfl (Nat.le_of_ble_eq_true rfl) ?_
        refine mV_goto f10_text_90 ?_
        have hr := Option.some.inj hr; subst hr
        refine mV_drop (L' := [.ref 119, mX0, .int z0.1]) (mSub_k (mSub_x (mSub_k mSub_n))) ?_
        exact keyz2
    · rw [if_pos h2] at hr
      refine mV_push f10_text_79 ?_
      have hr := Option.some.inj hr; subst hr
      exact mV_iret rfl rfl f10_text_80 hQ
  clear hr
  have hr := hz0
  clear hz0
  refine mV_if_eq f10_text_39 (fun h0 => ?_) (fun h0 => ?_)
  · rw [if_pos h0] at hr
    have hr := Option.some.inj hr; subst hr
    exact keyz0
  · rw [if_neg h0] at hr
    refine mV_aload f10_text_42 rfl ?_
    refine mV_iload f10_text_43 rfl ?_
    obtain ⟨z1, hz1, hr⟩ := mBind hr
    refine mV_cV f10_text_44 tg_m10_readsText mCls10 (by decide) kk_119 (mC_deep (c10_readsText X (mW (mW (mW (mW (mW (mW I 119 0 0) 119 35 0) 119 36 (-1)) 119 16 0) 119 29 0) 119 30 0) s x0 hz1) (by decide)) rfl rfl (Nat.le_of_ble_eq_true rfl) ?_
    refine mV_istore (L' := [.ref 119, .int x0, .int z1.1]) f10_text_47 (by decide) rfl rfl ?_
    refine mV_iload f10_text_48 rfl ?_
    refine mV_push f10_text_49 ?_
    refine mV_icmp_ne f10_text_50 (fun h1 => ?_) (fun h1 => ?_)
    · rw [if_neg h1] at hr
      have hr := Option.some.inj hr; subst hr
      exact keyz0
    · rw [if_pos h1] at hr
      refine mV_aload f10_text_53 rfl ?_
      refine mV_aload f10_text_54 rfl ?_
      refine mV_gI (z1.2 119 33) f10_text_55 (by decide) kk_119 rfl rfl ?_
      refine mV_putI f10_text_58 (by decide) kk_119 rfl rfl ?_
      refine mV_aload f10_text_61 rfl ?_
      refine mV_aload f10_text_62 rfl ?_
      refine mV_gI (z1.2 119 34) f10_text_63 (by decide) kk_119 rfl rfl ?_
      refine mV_putI f10_text_66 (by decide) kk_119 rfl rfl ?_
      have hr := Option.some.inj hr; subst hr
      exact keyz0
theorem c10_text (X : Nat × (Nat → Int32)) (I : mI) (s : Nat) (x0 : Int32) {res : Int32 × mI} (hr : r10_text I x0 = some res) : mC X m10_text 10 0 0 [.ref 119, .int x0] NN KK I (PP s) (mRet (some (.int res.1)) NN KK res.2 (PP s)) :=
  mC_of (L0 := [.ref 119, .int x0, mX0]) rfl (Nat.le_of_ble_eq_true rfl) (w10_text X I s x0 _ hr (mRet_ok _ _ _ _ _))
def r10_fault (I : mI) (x0 : Int32) : Option (Int32 × mI) := (if (x0 : Int32) = (0 : Int32) then some (I 119 35) else if (x0 : Int32) = (1 : Int32) then some (I 119 36) else some (-1) : Option (Int32)).bind fun z0 => some (z0, (mW I 119 0 0))
set_option maxHeartbeats 4000000 in
set_option maxRecDepth 100000 in
theorem w10_fault (X : Nat × (Nat → Int32)) (I : mI) (s : Nat) (x0 : Int32) (Q : mQ) {res : Int32 × mI} (hr : r10_fault I x0 = some res) (hQ : Q (some (.int res.1)) NN KK res.2 (PP s)) : mV X m10_fault 0 0 0 0 [.ref 119, .int x0] [] NN KK I (PP s) Q := by
  unfold r10_fault at hr
  refine mV_aload f10_fault_0 rfl ?_
  refine mV_push f10_fault_1 ?_
  refine mV_putI f10_fault_2 (by decide) kk_119 rfl rfl ?_
  refine mV_iload f10_fault_5 rfl ?_
  obtain ⟨z0, hz0, hr⟩ := mBind hr
  have keyz0 : mV X m10_fault 0 0 0 29 [.ref 119, mX0] [.int z0] NN KK (mW I 119 0 0) (PP s) Q := by
    have hr := Option.some.inj hr; subst hr
    exact mV_iret rfl rfl f10_fault_29 hQ
  clear hr
  have hr := hz0
  clear hz0
  refine mV_if_ne f10_fault_6 (fun h0 => ?_) (fun h0 => ?_)
  · rw [if_neg h0] at hr
    refine mV_iload f10_fault_16 rfl ?_
    refine mV_push f10_fault_17 ?_
    refine mV_icmp_ne f10_fault_18 (fun h1 => ?_) (fun h1 => ?_)
    · rw [if_neg h1] at hr
      refine mV_push f10_fault_28 ?_
      have hr := Option.some.inj hr; subst hr
      refine mV_drop (L' := [.ref 119, mX0]) (mSub_k (mSub_x mSub_n)) ?_
      exact keyz0
    · rw [if_pos h1] at hr
      refine mV_aload f10_fault_21 rfl ?_
      refine mV_gI (I 119 36) f10_fault_22 (by decide) kk_119 rfl rfl ?_
      refine mV_goto f10_fault_25 ?_
      have hr := Option.some.inj hr; subst hr
      refine mV_drop (L' := [.ref 119, mX0]) (mSub_k (mSub_x mSub_n)) ?_
      exact keyz0
  · rw [if_pos h0] at hr
    refine mV_aload f10_fault_9 rfl ?_
    refine mV_gI (I 119 35) f10_fault_10 (by decide) kk_119 rfl rfl ?_
    refine mV_goto f10_fault_13 ?_
    have hr := Option.some.inj hr; subst hr
    refine mV_drop (L' := [.ref 119, mX0]) (mSub_k (mSub_x mSub_n)) ?_
    exact keyz0
theorem c10_fault (X : Nat × (Nat → Int32)) (I : mI) (s : Nat) (x0 : Int32) {res : Int32 × mI} (hr : r10_fault I x0 = some res) : mC X m10_fault 0 0 0 [.ref 119, .int x0] NN KK I (PP s) (mRet (some (.int res.1)) NN KK res.2 (PP s)) :=
  mC_of (L0 := [.ref 119, .int x0]) rfl (Nat.le_of_ble_eq_true rfl) (w10_fault X I s x0 _ hr (mRet_ok _ _ _ _ _))
def r10_twoOf (x0 : Int32) (x1 : Int32) (x2 : Int32) : Option (Int32) := if (x0 : Int32) = (2 : Int32) then some (x1 + x2) else if (x0 : Int32) = (3 : Int32) then some (x1 - x2) else if (x0 : Int32) = (4 : Int32) then some (x1 * x2) else if (x0 : Int32) = (5 : Int32) then (mDivO x1 x2).bind fun z4 => some z4 else if (x0 : Int32) = (6 : Int32) then (if (x2 : Int32) ≤ (x1 : Int32) then some 0 else some 1 : Option (Int32)).bind fun z3 => some z3 else if (x0 : Int32) = (7 : Int32) then (if (x1 : Int32) = (x2 : Int32) then some 1 else some 0 : Option (Int32)).bind fun z2 => some z2 else if (x0 : Int32) = (8 : Int32) then (if (x1 : Int32) ≤ (x2 : Int32) then some 0 else some 1 : Option (Int32)).bind fun z1 => some z1 else (if (x0 : Int32) = (10 : Int32) then some (x1 * x2) else if ((x1 + x2) : Int32) ≤ (0 : Int32) then some 0 else some 1 : Option (Int32)).bind fun z0 => some z0
set_option maxHeartbeats 4000000 in
set_option maxRecDepth 100000 in
theorem w10_twoOf (X : Nat × (Nat → Int32)) (I : mI) (s : Nat) (x0 : Int32) (x1 : Int32) (x2 : Int32) (Q : mQ) {res : Int32} (hr : r10_twoOf x0 x1 x2 = some res) (hQ : Q (some (.int res)) NN KK I (PP s)) : mV X m10_twoOf 0 0 0 0 [.ref 119, .int x0, .int x1, .int x2] [] NN KK I (PP s) Q := by
  unfold r10_twoOf at hr
  refine mV_iload f10_twoOf_0 rfl ?_
  refine mV_push f10_twoOf_1 ?_
  refine mV_icmp_ne f10_twoOf_2 (fun h0 => ?_) (fun h0 => ?_)
  · rw [if_neg h0] at hr
    refine mV_iload f10_twoOf_9 rfl ?_
    refine mV_push f10_twoOf_10 ?_
    refine mV_icmp_ne f10_twoOf_11 (fun h1 => ?_) (fun h1 => ?_)
    · rw [if_neg h1] at hr
      refine mV_iload f10_twoOf_18 rfl ?_
      refine mV_push f10_twoOf_19 ?_
      refine mV_icmp_ne f10_twoOf_20 (fun h2 => ?_) (fun h2 => ?_)
      · rw [if_neg h2] at hr
        refine mV_iload f10_twoOf_27 rfl ?_
        refine mV_push f10_twoOf_28 ?_
        refine mV_icmp_ne f10_twoOf_29 (fun h3 => ?_) (fun h3 => ?_)
        · rw [if_neg h3] at hr
          refine mV_iload f10_twoOf_36 rfl ?_
          refine mV_push f10_twoOf_37 ?_
          refine mV_icmp_ne f10_twoOf_39 (fun h4 => ?_) (fun h4 => ?_)
          · rw [if_neg h4] at hr
            refine mV_iload f10_twoOf_53 rfl ?_
            refine mV_push f10_twoOf_54 ?_
            refine mV_icmp_ne f10_twoOf_56 (fun h5 => ?_) (fun h5 => ?_)
            · rw [if_neg h5] at hr
              refine mV_iload f10_twoOf_70 rfl ?_
              refine mV_push f10_twoOf_71 ?_
              refine mV_icmp_ne f10_twoOf_73 (fun h6 => ?_) (fun h6 => ?_)
              · rw [if_neg h6] at hr
                refine mV_iload f10_twoOf_87 rfl ?_
                refine mV_push f10_twoOf_88 ?_
                obtain ⟨z0, hz0, hr⟩ := mBind hr
                have keyz0 : mV X m10_twoOf 0 0 0 110 [.ref 119, mX0, mX0, mX0] [.int z0] NN KK I (PP s) Q := by
                  have hr := Option.some.inj hr; subst hr
                  exact mV_iret rfl rfl f10_twoOf_110 hQ
                clear hr
                have hr := hz0
                clear hz0
                refine mV_icmp_ne f10_twoOf_90 (fun h7 => ?_) (fun h7 => ?_)
                · rw [if_neg h7] at hr
                  refine mV_iload f10_twoOf_99 rfl ?_
                  refine mV_iload f10_twoOf_100 rfl ?_
                  refine mV_iadd f10_twoOf_101 ?_
                  refine mV_if_le f10_twoOf_102 (fun h8 => ?_) (fun h8 => ?_)
                  · rw [if_pos h8] at hr
                    refine mV_push f10_twoOf_109 ?_
                    have hr := Option.some.inj hr; subst hr
                    refine mV_drop (L' := [.ref 119, mX0, mX0, mX0]) (mSub_k (mSub_x (mSub_x (mSub_x mSub_n)))) ?_
                    exact keyz0
                  · rw [if_neg h8] at hr
                    refine mV_push f10_twoOf_105 ?_
                    refine mV_goto f10_twoOf_106 ?_
                    have hr := Option.some.inj hr; subst hr
                    refine mV_drop (L' := [.ref 119, mX0, mX0, mX0]) (mSub_k (mSub_x (mSub_x (mSub_x mSub_n)))) ?_
                    exact keyz0
                · rw [if_pos h7] at hr
                  refine mV_iload f10_twoOf_93 rfl ?_
                  refine mV_iload f10_twoOf_94 rfl ?_
                  refine mV_imul f10_twoOf_95 ?_
                  refine mV_goto f10_twoOf_96 ?_
                  have hr := Option.some.inj hr; subst hr
                  refine mV_drop (L' := [.ref 119, mX0, mX0, mX0]) (mSub_k (mSub_x (mSub_x (mSub_x mSub_n)))) ?_
                  exact keyz0
              · rw [if_pos h6] at hr
                refine mV_iload f10_twoOf_76 rfl ?_
                refine mV_iload f10_twoOf_77 rfl ?_
                obtain ⟨z1, hz1, hr⟩ := mBind hr
                have keyz1 : mV X m10_twoOf 0 0 0 86 [.ref 119, mX0, mX0, mX0] [.int z1] NN KK I (PP s) Q := by
                  have hr := Option.some.inj hr; subst hr
                  exact mV_iret rfl rfl f10_twoOf_86 hQ
                clear hr
                have hr := hz1
                clear hz1
                refine mV_icmp_le f10_twoOf_78 (fun h9 => ?_) (fun h9 => ?_)
                · rw [if_pos h9] at hr
                  refine mV_push f10_twoOf_85 ?_
                  have hr := Option.some.inj hr; subst hr
                  refine mV_drop (L' := [.ref 119, mX0, mX0, mX0]) (mSub_k (mSub_x (mSub_x (mSub_x mSub_n)))) ?_
                  exact keyz1
                · rw [if_neg h9] at hr
                  refine mV_push f10_twoOf_81 ?_
                  refine mV_goto f10_twoOf_82 ?_
                  have hr := Option.some.inj hr; subst hr
                  refine mV_drop (L' := [.ref 119, mX0, mX0, mX0]) (mSub_k (mSub_x (mSub_x (mSub_x mSub_n)))) ?_
                  exact keyz1
            · rw [if_pos h5] at hr
              refine mV_iload f10_twoOf_59 rfl ?_
              refine mV_iload f10_twoOf_60 rfl ?_
              obtain ⟨z2, hz2, hr⟩ := mBind hr
              have keyz2 : mV X m10_twoOf 0 0 0 69 [.ref 119, mX0, mX0, mX0] [.int z2] NN KK I (PP s) Q := by
                have hr := Option.some.inj hr; subst hr
                exact mV_iret rfl rfl f10_twoOf_69 hQ
              clear hr
              have hr := hz2
              clear hz2
              refine mV_icmp_ne f10_twoOf_61 (fun h10 => ?_) (fun h10 => ?_)
              · rw [if_neg h10] at hr
                refine mV_push f10_twoOf_68 ?_
                have hr := Option.some.inj hr; subst hr
                refine mV_drop (L' := [.ref 119, mX0, mX0, mX0]) (mSub_k (mSub_x (mSub_x (mSub_x mSub_n)))) ?_
                exact keyz2
              · rw [if_pos h10] at hr
                refine mV_push f10_twoOf_64 ?_
                refine mV_goto f10_twoOf_65 ?_
                have hr := Option.some.inj hr; subst hr
                refine mV_drop (L' := [.ref 119, mX0, mX0, mX0]) (mSub_k (mSub_x (mSub_x (mSub_x mSub_n)))) ?_
                exact keyz2
          · rw [if_pos h4] at hr
            refine mV_iload f10_twoOf_42 rfl ?_
            refine mV_iload f10_twoOf_43 rfl ?_
            obtain ⟨z3, hz3, hr⟩ := mBind hr
            have keyz3 : mV X m10_twoOf 0 0 0 52 [.ref 119, mX0, mX0, mX0] [.int z3] NN KK I (PP s) Q := by
              have hr := Option.some.inj hr; subst hr
              exact mV_iret rfl rfl f10_twoOf_52 hQ
            clear hr
            have hr := hz3
            clear hz3
            refine mV_icmp_ge f10_twoOf_44 (fun h11 => ?_) (fun h11 => ?_)
            · rw [if_pos h11] at hr
              refine mV_push f10_twoOf_51 ?_
              have hr := Option.some.inj hr; subst hr
              refine mV_drop (L' := [.ref 119, mX0, mX0, mX0]) (mSub_k (mSub_x (mSub_x (mSub_x mSub_n)))) ?_
              exact keyz3
            · rw [if_neg h11] at hr
              refine mV_push f10_twoOf_47 ?_
              refine mV_goto f10_twoOf_48 ?_
              have hr := Option.some.inj hr; subst hr
              refine mV_drop (L' := [.ref 119, mX0, mX0, mX0]) (mSub_k (mSub_x (mSub_x (mSub_x mSub_n)))) ?_
              exact keyz3
        · rw [if_pos h3] at hr
          refine mV_iload f10_twoOf_32 rfl ?_
          refine mV_iload f10_twoOf_33 rfl ?_
          obtain ⟨z4, hz4, hr⟩ := mBind hr
          refine mV_divO f10_twoOf_34 hz4 ?_
          have hr := Option.some.inj hr; subst hr
          exact mV_iret rfl rfl f10_twoOf_35 hQ
      · rw [if_pos h2] at hr
        refine mV_iload f10_twoOf_23 rfl ?_
        refine mV_iload f10_twoOf_24 rfl ?_
        refine mV_imul f10_twoOf_25 ?_
        have hr := Option.some.inj hr; subst hr
        exact mV_iret rfl rfl f10_twoOf_26 hQ
    · rw [if_pos h1] at hr
      refine mV_iload f10_twoOf_14 rfl ?_
      refine mV_iload f10_twoOf_15 rfl ?_
      refine mV_isub f10_twoOf_16 ?_
      have hr := Option.some.inj hr; subst hr
      exact mV_iret rfl rfl f10_twoOf_17 hQ
  · rw [if_pos h0] at hr
    refine mV_iload f10_twoOf_5 rfl ?_
    refine mV_iload f10_twoOf_6 rfl ?_
    refine mV_iadd f10_twoOf_7 ?_
    have hr := Option.some.inj hr; subst hr
    exact mV_iret rfl rfl f10_twoOf_8 hQ
theorem c10_twoOf (X : Nat × (Nat → Int32)) (I : mI) (s : Nat) (x0 : Int32) (x1 : Int32) (x2 : Int32) {res : Int32} (hr : r10_twoOf x0 x1 x2 = some res) : mC X m10_twoOf 0 0 0 [.ref 119, .int x0, .int x1, .int x2] NN KK I (PP s) (mRet (some (.int res)) NN KK I (PP s)) :=
  mC_of (L0 := [.ref 119, .int x0, .int x1, .int x2]) rfl (Nat.le_of_ble_eq_true rfl) (w10_twoOf X I s x0 x1 x2 _ hr (mRet_ok _ _ _ _ _))
def l10_runs_12 (k1 : Int32) (k3 : Int32) : Nat → Int32 → Int32 → mI → Option (mI)
  | 0, _, _, _ => none
  | f + 1, y4, y5, I => if (((400 * k1) + k3) : Int32) ≤ (y5 : Int32) then some I else (mLd I 136 1200 y5).bind fun z0 => (if (z0 : Int32) = (0 : Int32) then (mLd I 136 1200 y5).bind fun z2 => (if (z2 : Int32) = (0 : Int32) then (mLd I 137 1200 y5).bind fun z6 => some z6 else (mLd I 137 1200 y5).bind fun z4 => (mLd I 142 12 z4).bind fun z5 => some z5 : Option (Int32)).bind fun z3 => (mSto I 143 420 y4 z3).bind fun z7 => some ((y4 + 1), z7) else (mLd I 136 1200 y5).bind fun z8 => if (z8 : Int32) = (1 : Int32) then (mLd I 136 1200 y5).bind fun z17 => (if (z17 : Int32) = (0 : Int32) then (mLd I 137 1200 y5).bind fun z21 => some z21 else (mLd I 137 1200 y5).bind fun z19 => (mLd I 142 12 z19).bind fun z20 => some z20 : Option (Int32)).bind fun z18 => (mSto I 143 420 y4 z18).bind fun z22 => some ((y4 + 1), z22) else (mLd I 136 1200 y5).bind fun z9 => if (z9 : Int32) = (9 : Int32) then (mLd I 143 420 (y4 - 1)).bind fun z15 => (mSto I 143 420 (y4 - 1) (1 - z15)).bind fun z16 => some (y4, z16) else (mLd I 136 1200 y5).bind fun z10 => (mLd I 143 420 ((y4 - 1) - 1)).bind fun z11 => (mLd I 143 420 (y4 - 1)).bind fun z12 => (r10_twoOf z10 z11 z12).bind fun z13 => (mSto I 143 420 ((y4 - 1) - 1) z13).bind fun z14 => some ((y4 - 1), z14) : Option (Int32 × mI)).bind fun z1 => l10_runs_12 k1 k3 f z1.1 (y5 + 1) z1.2
def r10_runs (I : mI) (x0 : Int32) (x1 : Int32) (x2 : Int32) : Option (Int32 × mI) := (l10_runs_12 x0 x2 FU 0 ((400 * x0) + x1) I).bind fun z0 => some (z0 143 0, z0)
set_option maxHeartbeats 4000000 in
set_option maxRecDepth 100000 in
theorem t10_runs_12 (X : Nat × (Nat → Int32)) (Q : mQ) (s : Nat) (k1 : Int32) (k3 : Int32) : ∀ (f : Nat) (y4 : Int32) (y5 : Int32) (I : mI) (z : mI), l10_runs_12 k1 k3 f y4 y5 I = some z → mV X m10_runs 1 0 0 176 [.ref 119, .int k1, mX0, .int k3, mX0, mX0] [] NN KK z (PP s) Q → mV X m10_runs 1 0 0 12 [.ref 119, .int k1, mX0, .int k3, .int y4, .int y5] [] NN KK I (PP s) Q := by
  intro f
  induction f with
  | zero => intro y4 y5 I z hr hk; cases hr
  | succ f ih =>
    intro y4 y5 I z hr hk
    unfold l10_runs_12 at hr
    refine mV_iload f10_runs_12 rfl ?_
    refine mV_push f10_runs_14 ?_
    refine mV_iload f10_runs_17 rfl ?_
    refine mV_imul f10_runs_18 ?_
    refine mV_iload f10_runs_19 rfl ?_
    refine mV_iadd f10_runs_20 ?_
    refine mV_icmp_ge f10_runs_21 (fun h0 => ?_) (fun h0 => ?_)
    · rw [if_pos h0] at hr
      have hr := Option.some.inj hr; subst hr
      refine mV_drop (L' := [.ref 119, .int k1, mX0, .int k3, mX0, mX0]) (mSub_k (mSub_k (mSub_x (mSub_k (mSub_x (mSub_x mSub_n)))))) ?_
      exact hk
    · rw [if_neg h0] at hr
      refine mV_aload f10_runs_24 rfl ?_
      refine mV_getP f10_runs_25 (by decide) kk_119 rfl (pp_119_26 _) ?_
      refine mV_iload f10_runs_28 rfl ?_
      obtain ⟨z0, hz0, hr⟩ := mBind hr
      refine mV_ldO f10_runs_30 (by decide) kk_136 hz0 ?_
      obtain ⟨z1, hz1, hr⟩ := mBind hr
      have keyz1 : mV X m10_runs 1 0 0 170 [.ref 119, .int k1, mX0, .int k3, .int z1.1, .int y5] [] NN KK z1.2 (PP s) Q := by
        refine mV_iinc (y := (y5 + 1)) (L' := [.ref 119, .int k1, mX0, .int k3, .int z1.1, .int (y5 + 1)]) f10_runs_170 rfl rfl (by decide) rfl rfl ?_
        refine mV_goto f10_runs_173 ?_
        exact ih z1.1 (y5 + 1) z1.2 _ hr hk
      clear hr
      have hr := hz1
      clear hz1
      refine mV_if_eq f10_runs_31 (fun h1 => ?_) (fun h1 => ?_)
      · rw [if_pos h1] at hr
        refine mV_aload f10_runs_45 rfl ?_
        refine mV_getP f10_runs_46 (by decide) kk_119 rfl (pp_119_44 _) ?_
        refine mV_iload f10_runs_49 rfl ?_
        refine mV_aload f10_runs_51 rfl ?_
        refine mV_getP f10_runs_52 (by decide) kk_119 rfl (pp_119_26 _) ?_
        refine mV_iload f10_runs_55 rfl ?_
        obtain ⟨z2, hz2, hr⟩ := mBind hr
        refine mV_ldO f10_runs_57 (by decide) kk_136 hz2 ?_
        obtain ⟨z3, hz3, hr⟩ := mBind hr
        have keyz3 : mV X m10_runs 1 0 0 83 [.ref 119, .int k1, mX0, .int k3, .int y4, .int y5] [.int z3, .int y4, .ref 143] NN KK I (PP s) Q := by
          obtain ⟨z7, hz7, hr⟩ := mBind hr
          refine mV_stO f10_runs_83 (by decide) kk_143 hz7 ?_
          refine mV_iload f10_runs_84 rfl ?_
          refine mV_push f10_runs_86 ?_
          refine mV_iadd f10_runs_87 ?_
          refine mV_istore (L' := [.ref 119, .int k1, mX0, .int k3, .int (y4 + 1), .int y5]) f10_runs_88 (by decide) rfl rfl ?_
          refine mV_goto f10_runs_90 ?_
          have hr := Option.some.inj hr; subst hr
          exact keyz1
        clear hr
        have hr := hz3
        clear hz3
        refine mV_if_ne f10_runs_58 (fun h2 => ?_) (fun h2 => ?_)
        · rw [if_neg h2] at hr
          refine mV_aload f10_runs_71 rfl ?_
          refine mV_getP f10_runs_72 (by decide) kk_119 rfl (pp_119_43 _) ?_
          refine mV_aload f10_runs_75 rfl ?_
          refine mV_getP f10_runs_76 (by decide) kk_119 rfl (pp_119_27 _) ?_
          refine mV_iload f10_runs_79 rfl ?_
          obtain ⟨z4, hz4, hr⟩ := mBind hr
          refine mV_ldO f10_runs_81 (by decide) kk_137 hz4 ?_
          obtain ⟨z5, hz5, hr⟩ := mBind hr
          refine mV_ldO f10_runs_82 (by decide) kk_142 hz5 ?_
          have hr := Option.some.inj hr; subst hr
          exact keyz3
        · rw [if_pos h2] at hr
          refine mV_aload f10_runs_61 rfl ?_
          refine mV_getP f10_runs_62 (by decide) kk_119 rfl (pp_119_27 _) ?_
          refine mV_iload f10_runs_65 rfl ?_
          obtain ⟨z6, hz6, hr⟩ := mBind hr
          refine mV_ldO f10_runs_67 (by decide) kk_137 hz6 ?_
          refine mV_goto f10_runs_68 ?_
          have hr := Option.some.inj hr; subst hr
          exact keyz3
      · rw [if_neg h1] at hr
        refine mV_aload f10_runs_34 rfl ?_
        refine mV_getP f10_runs_35 (by decide) kk_119 rfl (pp_119_26 _) ?_
        refine mV_iload f10_runs_38 rfl ?_
        obtain ⟨z8, hz8, hr⟩ := mBind hr
        refine mV_ldO f10_runs_40 (by decide) kk_136 hz8 ?_
        refine mV_push f10_runs_41 ?_
        refine mV_icmp_ne f10_runs_42 (fun h3 => ?_) (fun h3 => ?_)
        · rw [if_neg h3] at hr
          refine mV_aload f10_runs_93 rfl ?_
          refine mV_getP f10_runs_94 (by decide) kk_119 rfl (pp_119_26 _) ?_
          refine mV_iload f10_runs_97 rfl ?_
          obtain ⟨z9, hz9, hr⟩ := mBind hr
          refine mV_ldO f10_runs_99 (by decide) kk_136 hz9 ?_
          refine mV_push f10_runs_100 ?_
          refine mV_icmp_ne f10_runs_102 (fun h4 => ?_) (fun h4 => ?_)
          · rw [if_neg h4] at hr
            refine mV_iload f10_runs_128 rfl ?_
            refine mV_push f10_runs_130 ?_
            refine mV_isub f10_runs_131 ?_
            refine mV_istore (L' := [.ref 119, .int k1, mX0, .int k3, .int (y4 - 1), .int y5]) f10_runs_132 (by decide) rfl rfl ?_
            refine mV_aload f10_runs_134 rfl ?_
            refine mV_getP f10_runs_135 (by decide) kk_119 rfl (pp_119_44 _) ?_
            refine mV_iload f10_runs_138 rfl ?_
            refine mV_push f10_runs_140 ?_
            refine mV_isub f10_runs_141 ?_
            refine mV_aload f10_runs_142 rfl ?_
            refine mV_aload f10_runs_143 rfl ?_
            refine mV_getP f10_runs_144 (by decide) kk_119 rfl (pp_119_26 _) ?_
            refine mV_iload f10_runs_147 rfl ?_
            obtain ⟨z10, hz10, hr⟩ := mBind hr
            refine mV_ldO f10_runs_149 (by decide) kk_136 hz10 ?_
            refine mV_aload f10_runs_150 rfl ?_
            refine mV_getP f10_runs_151 (by decide) kk_119 rfl (pp_119_44 _) ?_
            refine mV_iload f10_runs_154 rfl ?_
            refine mV_push f10_runs_156 ?_
            refine mV_isub f10_runs_157 ?_
            obtain ⟨z11, hz11, hr⟩ := mBind hr
            refine mV_ldO f10_runs_158 (by decide) kk_143 hz11 ?_
            refine mV_aload f10_runs_159 rfl ?_
            refine mV_getP f10_runs_160 (by decide) kk_119 rfl (pp_119_44 _) ?_
            refine mV_iload f10_runs_163 rfl ?_
            obtain ⟨z12, hz12, hr⟩ := mBind hr
            refine mV_ldO f10_runs_165 (by decide) kk_143 hz12 ?_
            obtain ⟨z13, hz13, hr⟩ := mBind hr
            refine mV_cV f10_runs_166 tg_m10_twoOf mCls10 (by decide) kk_119 (mC_deep (c10_twoOf X I s z10 z11 z12 hz13) (by decide)) rfl rfl (Nat.le_of_ble_eq_true rfl) ?_
            obtain ⟨z14, hz14, hr⟩ := mBind hr
            refine mV_stO f10_runs_169 (by decide) kk_143 hz14 ?_
            have hr := Option.some.inj hr; subst hr
            exact keyz1
          · rw [if_pos h4] at hr
            refine mV_aload f10_runs_105 rfl ?_
            refine mV_getP f10_runs_106 (by decide) kk_119 rfl (pp_119_44 _) ?_
            refine mV_iload f10_runs_109 rfl ?_
            refine mV_push f10_runs_111 ?_
            refine mV_isub f10_runs_112 ?_
            refine mV_push f10_runs_113 ?_
            refine mV_aload f10_runs_114 rfl ?_
            refine mV_getP f10_runs_115 (by decide) kk_119 rfl (pp_119_44 _) ?_
            refine mV_iload f10_runs_118 rfl ?_
            refine mV_push f10_runs_120 ?_
            refine mV_isub f10_runs_121 ?_
            obtain ⟨z15, hz15, hr⟩ := mBind hr
            refine mV_ldO f10_runs_122 (by decide) kk_143 hz15 ?_
            refine mV_isub f10_runs_123 ?_
            obtain ⟨z16, hz16, hr⟩ := mBind hr
            refine mV_stO f10_runs_124 (by decide) kk_143 hz16 ?_
            refine mV_goto f10_runs_125 ?_
            have hr := Option.some.inj hr; subst hr
            exact keyz1
        · rw [if_pos h3] at hr
          refine mV_aload f10_runs_45 rfl ?_
          refine mV_getP f10_runs_46 (by decide) kk_119 rfl (pp_119_44 _) ?_
          refine mV_iload f10_runs_49 rfl ?_
          refine mV_aload f10_runs_51 rfl ?_
          refine mV_getP f10_runs_52 (by decide) kk_119 rfl (pp_119_26 _) ?_
          refine mV_iload f10_runs_55 rfl ?_
          obtain ⟨z17, hz17, hr⟩ := mBind hr
          refine mV_ldO f10_runs_57 (by decide) kk_136 hz17 ?_
          obtain ⟨z18, hz18, hr⟩ := mBind hr
          have keyz18 : mV X m10_runs 1 0 0 83 [.ref 119, .int k1, mX0, .int k3, .int y4, .int y5] [.int z18, .int y4, .ref 143] NN KK I (PP s) Q := by
            obtain ⟨z22, hz22, hr⟩ := mBind hr
            refine mV_stO f10_runs_83 (by decide) kk_143 hz22 ?_
            refine mV_iload f10_runs_84 rfl ?_
            refine mV_push f10_runs_86 ?_
            refine mV_iadd f10_runs_87 ?_
            refine mV_istore (L' := [.ref 119, .int k1, mX0, .int k3, .int (y4 + 1), .int y5]) f10_runs_88 (by decide) rfl rfl ?_
            refine mV_goto f10_runs_90 ?_
            have hr := Option.some.inj hr; subst hr
            exact keyz1
          clear hr
          have hr := hz18
          clear hz18
          refine mV_if_ne f10_runs_58 (fun h5 => ?_) (fun h5 => ?_)
          · rw [if_neg h5] at hr
            refine mV_aload f10_runs_71 rfl ?_
            refine mV_getP f10_runs_72 (by decide) kk_119 rfl (pp_119_43 _) ?_
            refine mV_aload f10_runs_75 rfl ?_
            refine mV_getP f10_runs_76 (by decide) kk_119 rfl (pp_119_27 _) ?_
            refine mV_iload f10_runs_79 rfl ?_
            obtain ⟨z19, hz19, hr⟩ := mBind hr
            refine mV_ldO f10_runs_81 (by decide) kk_137 hz19 ?_
            obtain ⟨z20, hz20, hr⟩ := mBind hr
            refine mV_ldO f10_runs_82 (by decide) kk_142 hz20 ?_
            have hr := Option.some.inj hr; subst hr
            exact keyz18
          · rw [if_pos h5] at hr
            refine mV_aload f10_runs_61 rfl ?_
            refine mV_getP f10_runs_62 (by decide) kk_119 rfl (pp_119_27 _) ?_
            refine mV_iload f10_runs_65 rfl ?_
            obtain ⟨z21, hz21, hr⟩ := mBind hr
            refine mV_ldO f10_runs_67 (by decide) kk_137 hz21 ?_
            refine mV_goto f10_runs_68 ?_
            have hr := Option.some.inj hr; subst hr
            exact keyz18
set_option maxHeartbeats 4000000 in
set_option maxRecDepth 100000 in
theorem w10_runs (X : Nat × (Nat → Int32)) (I : mI) (s : Nat) (x0 : Int32) (x1 : Int32) (x2 : Int32) (Q : mQ) {res : Int32 × mI} (hr : r10_runs I x0 x1 x2 = some res) (hQ : Q (some (.int res.1)) NN KK res.2 (PP s)) : mV X m10_runs 1 0 0 0 [.ref 119, .int x0, .int x1, .int x2, mX0, mX0] [] NN KK I (PP s) Q := by
  unfold r10_runs at hr
  refine mV_push f10_runs_0 ?_
  refine mV_istore (L' := [.ref 119, .int x0, .int x1, .int x2, .int 0, mX0]) f10_runs_1 (by decide) rfl rfl ?_
  refine mV_push f10_runs_3 ?_
  refine mV_iload f10_runs_6 rfl ?_
  refine mV_imul f10_runs_7 ?_
  refine mV_iload f10_runs_8 rfl ?_
  refine mV_iadd f10_runs_9 ?_
  refine mV_istore (L' := [.ref 119, .int x0, .int x1, .int x2, .int 0, .int ((400 * x0) + x1)]) f10_runs_10 (by decide) rfl rfl ?_
  obtain ⟨z0, hz0, hr⟩ := mBind hr
  refine mV_drop (L' := [.ref 119, .int x0, mX0, .int x2, .int 0, .int ((400 * x0) + x1)]) (mSub_k (mSub_k (mSub_x (mSub_k (mSub_k (mSub_k mSub_n)))))) ?_
  refine t10_runs_12 X Q s x0 x2 FU 0 ((400 * x0) + x1) I _ hz0 ?_
  refine mV_aload f10_runs_176 rfl ?_
  refine mV_getP f10_runs_177 (by decide) kk_119 rfl (pp_119_44 _) ?_
  refine mV_push f10_runs_180 ?_
  refine mV_ld (z0 143 0) 0 f10_runs_181 (by decide) kk_143 (by decide) rfl ?_
  have hr := Option.some.inj hr; subst hr
  exact mV_iret rfl rfl f10_runs_182 hQ
theorem c10_runs (X : Nat × (Nat → Int32)) (I : mI) (s : Nat) (x0 : Int32) (x1 : Int32) (x2 : Int32) {res : Int32 × mI} (hr : r10_runs I x0 x1 x2 = some res) : mC X m10_runs 1 0 0 [.ref 119, .int x0, .int x1, .int x2] NN KK I (PP s) (mRet (some (.int res.1)) NN KK res.2 (PP s)) :=
  mC_of (L0 := [.ref 119, .int x0, .int x1, .int x2, mX0, mX0]) rfl (Nat.le_of_ble_eq_true rfl) (w10_runs X I s x0 x1 x2 _ hr (mRet_ok _ _ _ _ _))
def l10_lineOf_2 (k1 : Int32) : Nat → Int32 → mI → Option ((Int32 × mI) ⊕ (mI))
  | 0, _, _ => none
  | f + 1, y2, I => if (I 131 0 : Int32) ≤ (y2 : Int32) then some (.inr I) else (mLd I 132 48 y2).bind fun z0 => if (z0 : Int32) = (k1 : Int32) then (mLd I 134 48 y2).bind fun z1 => (mLd I 135 48 y2).bind fun z2 => if (z1 : Int32) = (z2 : Int32) then some (.inl (y2, I)) else (mLd I 134 48 y2).bind fun z3 => (mLd I 135 48 y2).bind fun z4 => (r10_runs I 0 z3 z4).bind fun z5 => if (z5.1 : Int32) = (0 : Int32) then l10_lineOf_2 k1 f (y2 + 1) z5.2 else some (.inl (y2, z5.2)) else l10_lineOf_2 k1 f (y2 + 1) I
def r10_lineOf (I : mI) (x0 : Int32) : Option (Int32 × mI) := (l10_lineOf_2 x0 FU 0 I).bind fun z0 => match z0 with | .inl rz0 => some rz0 | .inr wz0 => some ((-1), wz0)
set_option maxHeartbeats 4000000 in
set_option maxRecDepth 100000 in
theorem t10_lineOf_2 (X : Nat × (Nat → Int32)) (Q : mQ) (s : Nat) (k1 : Int32) : ∀ (f : Nat) (y2 : Int32) (I : mI) (z : (Int32 × mI) ⊕ (mI)), l10_lineOf_2 k1 f y2 I = some z → (∀ res, z = .inl res → Q (some (.int res.1)) NN KK res.2 (PP s)) → (∀ w, z = .inr w → mV X m10_lineOf 2 0 0 65 [.ref 119, .int k1, mX0] [] NN KK w (PP s) Q) → mV X m10_lineOf 2 0 0 2 [.ref 119, .int k1, .int y2] [] NN KK I (PP s) Q := by
  intro f
  induction f with
  | zero => intro y2 I z hr hret hk; cases hr
  | succ f ih =>
    intro y2 I z hr hret hk
    unfold l10_lineOf_2 at hr
    refine mV_iload f10_lineOf_2 rfl ?_
    refine mV_aload f10_lineOf_3 rfl ?_
    refine mV_getP f10_lineOf_4 (by decide) kk_119 rfl (pp_119_21 _) ?_
    refine mV_push f10_lineOf_7 ?_
    refine mV_ld (I 131 0) 0 f10_lineOf_8 (by decide) kk_131 (by decide) rfl ?_
    refine mV_icmp_ge f10_lineOf_9 (fun h0 => ?_) (fun h0 => ?_)
    · rw [if_pos h0] at hr
      have hr := Option.some.inj hr; subst hr
      refine mV_drop (L' := [.ref 119, .int k1, mX0]) (mSub_k (mSub_k (mSub_x mSub_n))) ?_
      exact hk _ rfl
    · rw [if_neg h0] at hr
      refine mV_aload f10_lineOf_12 rfl ?_
      refine mV_getP f10_lineOf_13 (by decide) kk_119 rfl (pp_119_22 _) ?_
      refine mV_iload f10_lineOf_16 rfl ?_
      obtain ⟨z0, hz0, hr⟩ := mBind hr
      refine mV_ldO f10_lineOf_17 (by decide) kk_132 hz0 ?_
      refine mV_iload f10_lineOf_18 rfl ?_
      refine mV_icmp_ne f10_lineOf_19 (fun h1 => ?_) (fun h1 => ?_)
      · rw [if_neg h1] at hr
        refine mV_iinc (y := (y2 + 1)) (L' := [.ref 119, .int k1, .int (y2 + 1)]) f10_lineOf_59 rfl rfl (by decide) rfl rfl ?_
        refine mV_goto f10_lineOf_62 ?_
        exact ih (y2 + 1) I _ hr hret hk
      · rw [if_pos h1] at hr
        refine mV_aload f10_lineOf_22 rfl ?_
        refine mV_getP f10_lineOf_23 (by decide) kk_119 rfl (pp_119_24 _) ?_
        refine mV_iload f10_lineOf_26 rfl ?_
        obtain ⟨z1, hz1, hr⟩ := mBind hr
        refine mV_ldO f10_lineOf_27 (by decide) kk_134 hz1 ?_
        refine mV_aload f10_lineOf_28 rfl ?_
        refine mV_getP f10_lineOf_29 (by decide) kk_119 rfl (pp_119_25 _) ?_
        refine mV_iload f10_lineOf_32 rfl ?_
        obtain ⟨z2, hz2, hr⟩ := mBind hr
        refine mV_ldO f10_lineOf_33 (by decide) kk_135 hz2 ?_
        refine mV_icmp_eq f10_lineOf_34 (fun h2 => ?_) (fun h2 => ?_)
        · rw [if_pos h2] at hr
          refine mV_iload f10_lineOf_57 rfl ?_
          have hr := Option.some.inj hr; subst hr; have hQ := hret _ rfl
          exact mV_iret rfl rfl f10_lineOf_58 hQ
        · rw [if_neg h2] at hr
          refine mV_aload f10_lineOf_37 rfl ?_
          refine mV_push f10_lineOf_38 ?_
          refine mV_aload f10_lineOf_39 rfl ?_
          refine mV_getP f10_lineOf_40 (by decide) kk_119 rfl (pp_119_24 _) ?_
          refine mV_iload f10_lineOf_43 rfl ?_
          obtain ⟨z3, hz3, hr⟩ := mBind hr
          refine mV_ldO f10_lineOf_44 (by decide) kk_134 hz3 ?_
          refine mV_aload f10_lineOf_45 rfl ?_
          refine mV_getP f10_lineOf_46 (by decide) kk_119 rfl (pp_119_25 _) ?_
          refine mV_iload f10_lineOf_49 rfl ?_
          obtain ⟨z4, hz4, hr⟩ := mBind hr
          refine mV_ldO f10_lineOf_50 (by decide) kk_135 hz4 ?_
          obtain ⟨z5, hz5, hr⟩ := mBind hr
          refine mV_cV f10_lineOf_51 tg_m10_runs mCls10 (by decide) kk_119 (mC_deep (c10_runs X I s 0 z3 z4 hz5) (by decide)) rfl rfl (Nat.le_of_ble_eq_true rfl) ?_
          refine mV_if_eq f10_lineOf_54 (fun h3 => ?_) (fun h3 => ?_)
          · rw [if_pos h3] at hr
            refine mV_iinc (y := (y2 + 1)) (L' := [.ref 119, .int k1, .int (y2 + 1)]) f10_lineOf_59 rfl rfl (by decide) rfl rfl ?_
            refine mV_goto f10_lineOf_62 ?_
            exact ih (y2 + 1) z5.2 _ hr hret hk
          · rw [if_neg h3] at hr
            refine mV_iload f10_lineOf_57 rfl ?_
            have hr := Option.some.inj hr; subst hr; have hQ := hret _ rfl
            exact mV_iret rfl rfl f10_lineOf_58 hQ
set_option maxHeartbeats 4000000 in
set_option maxRecDepth 100000 in
theorem w10_lineOf (X : Nat × (Nat → Int32)) (I : mI) (s : Nat) (x0 : Int32) (Q : mQ) {res : Int32 × mI} (hr : r10_lineOf I x0 = some res) (hQ : Q (some (.int res.1)) NN KK res.2 (PP s)) : mV X m10_lineOf 2 0 0 0 [.ref 119, .int x0, mX0] [] NN KK I (PP s) Q := by
  unfold r10_lineOf at hr
  refine mV_push f10_lineOf_0 ?_
  refine mV_istore (L' := [.ref 119, .int x0, .int 0]) f10_lineOf_1 (by decide) rfl rfl ?_
  obtain ⟨z0, hz0, hr⟩ := mBind hr
  refine t10_lineOf_2 X Q s x0 FU 0 I _ hz0 (fun res ez0 => ?_) (fun wz0 ez0 => ?_)
  · rw [ez0] at hr; have hr := Option.some.inj hr; subst hr; exact hQ
  rw [ez0] at hr
  dsimp only at hr
  refine mV_push f10_lineOf_65 ?_
  have hr := Option.some.inj hr; subst hr
  exact mV_iret rfl rfl f10_lineOf_66 hQ
theorem c10_lineOf (X : Nat × (Nat → Int32)) (I : mI) (s : Nat) (x0 : Int32) {res : Int32 × mI} (hr : r10_lineOf I x0 = some res) : mC X m10_lineOf 2 0 0 [.ref 119, .int x0] NN KK I (PP s) (mRet (some (.int res.1)) NN KK res.2 (PP s)) :=
  mC_of (L0 := [.ref 119, .int x0, mX0]) rfl (Nat.le_of_ble_eq_true rfl) (w10_lineOf X I s x0 _ hr (mRet_ok _ _ _ _ _))
def r10_asks (I : mI) (x0 : Int32) (x1 : Int32) (x2 : Int32) (x3 : Int32) : Option (mI) := (mLd I 124 12 x1).bind fun z0 => (mLd (mW I 142 0 z0) 125 12 x1).bind fun z1 => (mLd (mW (mW I 142 0 z0) 142 1 z1) 126 6 x0).bind fun z2 => (mLd (mW (mW (mW I 142 0 z0) 142 1 z1) 142 2 z2) 127 6 x0).bind fun z3 => (if (x2 : Int32) = ((-1) : Int32) then some 0 else (mLd (mW (mW (mW (mW (mW (mW I 142 0 z0) 142 1 z1) 142 2 z2) 142 3 z3) 142 4 (I 120 3)) 142 5 (I 120 4)) 120 47 (9 + x2)).bind fun z5 => some z5 : Option (Int32)).bind fun z4 => (if (x2 : Int32) = ((-1) : Int32) then some 0 else some x2 : Option (Int32)).bind fun z6 => (mLd (mW (mW (mW (mW (mW (mW (mW (mW (mW (mW I 142 0 z0) 142 1 z1) 142 2 z2) 142 3 z3) 142 4 (I 120 3)) 142 5 (I 120 4)) 142 6 z4) 142 7 z6) 142 8 (I 120 6)) 142 9 x3) 120 47 (17 + x1)).bind fun z7 => some (mW (mW (mW (mW (mW (mW (mW (mW (mW (mW (mW (mW I 142 0 z0) 142 1 z1) 142 2 z2) 142 3 z3) 142 4 (I 120 3)) 142 5 (I 120 4)) 142 6 z4) 142 7 z6) 142 8 (I 120 6)) 142 9 x3) 142 10 z7) 142 11 (I 120 0))
set_option maxHeartbeats 4000000 in
set_option maxRecDepth 100000 in
theorem w10_asks (X : Nat × (Nat → Int32)) (I : mI) (s : Nat) (x0 : Int32) (x1 : Int32) (x2 : Int32) (x3 : Int32) (Q : mQ) {res : mI} (hr : r10_asks I x0 x1 x2 x3 = some res) (hQ : Q none NN KK res (PP s)) : mV X m10_asks 0 0 0 0 [.ref 119, .int x0, .int x1, .int x2, .int x3] [] NN KK I (PP s) Q := by
  unfold r10_asks at hr
  refine mV_aload f10_asks_0 rfl ?_
  refine mV_getP f10_asks_1 (by decide) kk_119 rfl (pp_119_43 _) ?_
  refine mV_push f10_asks_4 ?_
  refine mV_aload f10_asks_5 rfl ?_
  refine mV_getP f10_asks_6 (by decide) kk_119 rfl (pp_119_9 _) ?_
  refine mV_iload f10_asks_9 rfl ?_
  obtain ⟨z0, hz0, hr⟩ := mBind hr
  refine mV_ldO f10_asks_10 (by decide) kk_124 hz0 ?_
  refine mV_sto 0 f10_asks_11 (by decide) kk_142 (by decide) ?_
  refine mV_aload f10_asks_12 rfl ?_
  refine mV_getP f10_asks_13 (by decide) kk_119 rfl (pp_119_43 _) ?_
  refine mV_push f10_asks_16 ?_
  refine mV_aload f10_asks_17 rfl ?_
  refine mV_getP f10_asks_18 (by decide) kk_119 rfl (pp_119_10 _) ?_
  refine mV_iload f10_asks_21 rfl ?_
  obtain ⟨z1, hz1, hr⟩ := mBind hr
  refine mV_ldO f10_asks_22 (by decide) kk_125 hz1 ?_
  refine mV_sto 1 f10_asks_23 (by decide) kk_142 (by decide) ?_
  refine mV_aload f10_asks_24 rfl ?_
  refine mV_getP f10_asks_25 (by decide) kk_119 rfl (pp_119_43 _) ?_
  refine mV_push f10_asks_28 ?_
  refine mV_aload f10_asks_29 rfl ?_
  refine mV_getP f10_asks_30 (by decide) kk_119 rfl (pp_119_11 _) ?_
  refine mV_iload f10_asks_33 rfl ?_
  obtain ⟨z2, hz2, hr⟩ := mBind hr
  refine mV_ldO f10_asks_34 (by decide) kk_126 hz2 ?_
  refine mV_sto 2 f10_asks_35 (by decide) kk_142 (by decide) ?_
  refine mV_aload f10_asks_36 rfl ?_
  refine mV_getP f10_asks_37 (by decide) kk_119 rfl (pp_119_43 _) ?_
  refine mV_push f10_asks_40 ?_
  refine mV_aload f10_asks_41 rfl ?_
  refine mV_getP f10_asks_42 (by decide) kk_119 rfl (pp_119_12 _) ?_
  refine mV_iload f10_asks_45 rfl ?_
  obtain ⟨z3, hz3, hr⟩ := mBind hr
  refine mV_ldO f10_asks_46 (by decide) kk_127 hz3 ?_
  refine mV_sto 3 f10_asks_47 (by decide) kk_142 (by decide) ?_
  refine mV_aload f10_asks_48 rfl ?_
  refine mV_getP f10_asks_49 (by decide) kk_119 rfl (pp_119_43 _) ?_
  refine mV_push f10_asks_52 ?_
  refine mV_aload f10_asks_53 rfl ?_
  refine mV_getP f10_asks_54 (by decide) kk_119 rfl (pp_119_1 _) ?_
  refine mV_push f10_asks_57 ?_
  refine mV_ld (I 120 3) 3 f10_asks_58 (by decide) kk_120 (by decide) rfl ?_
  refine mV_sto 4 f10_asks_59 (by decide) kk_142 (by decide) ?_
  refine mV_aload f10_asks_60 rfl ?_
  refine mV_getP f10_asks_61 (by decide) kk_119 rfl (pp_119_43 _) ?_
  refine mV_push f10_asks_64 ?_
  refine mV_aload f10_asks_65 rfl ?_
  refine mV_getP f10_asks_66 (by decide) kk_119 rfl (pp_119_1 _) ?_
  refine mV_push f10_asks_69 ?_
  refine mV_ld (I 120 4) 4 f10_asks_70 (by decide) kk_120 (by decide) rfl ?_
  refine mV_sto 5 f10_asks_71 (by decide) kk_142 (by decide) ?_
  refine mV_aload f10_asks_72 rfl ?_
  refine mV_getP f10_asks_73 (by decide) kk_119 rfl (pp_119_43 _) ?_
  refine mV_push f10_asks_76 ?_
  refine mV_iload f10_asks_78 rfl ?_
  refine mV_push f10_asks_79 ?_
  obtain ⟨z4, hz4, hr⟩ := mBind hr
  have keyz4 : mV X m10_asks 0 0 0 96 [.ref 119, mX0, .int x1, .int x2, .int x3] [.int z4, .int 6, .ref 142] NN KK (mW (mW (mW (mW (mW (mW I 142 0 z0) 142 1 z1) 142 2 z2) 142 3 z3) 142 4 (I 120 3)) 142 5 (I 120 4)) (PP s) Q := by
    refine mV_sto 6 f10_asks_96 (by decide) kk_142 (by decide) ?_
    refine mV_aload f10_asks_97 rfl ?_
    refine mV_getP f10_asks_98 (by decide) kk_119 rfl (pp_119_43 _) ?_
    refine mV_push f10_asks_101 ?_
    refine mV_iload f10_asks_103 rfl ?_
    refine mV_push f10_asks_104 ?_
    obtain ⟨z6, hz6, hr⟩ := mBind hr
    have keyz6 : mV X m10_asks 0 0 0 113 [.ref 119, mX0, .int x1, mX0, .int x3] [.int z6, .int 7, .ref 142] NN KK (mW (mW (mW (mW (mW (mW (mW I 142 0 z0) 142 1 z1) 142 2 z2) 142 3 z3) 142 4 (I 120 3)) 142 5 (I 120 4)) 142 6 z4) (PP s) Q := by
      refine mV_sto 7 f10_asks_113 (by decide) kk_142 (by decide) ?_
      refine mV_aload f10_asks_114 rfl ?_
      refine mV_getP f10_asks_115 (by decide) kk_119 rfl (pp_119_43 _) ?_
      refine mV_push f10_asks_118 ?_
      refine mV_aload f10_asks_120 rfl ?_
      refine mV_getP f10_asks_121 (by decide) kk_119 rfl (pp_119_1 _) ?_
      refine mV_push f10_asks_124 ?_
      refine mV_ld (I 120 6) 6 f10_asks_126 (by decide) kk_120 (by decide) rfl ?_
      refine mV_sto 8 f10_asks_127 (by decide) kk_142 (by decide) ?_
      refine mV_aload f10_asks_128 rfl ?_
      refine mV_getP f10_asks_129 (by decide) kk_119 rfl (pp_119_43 _) ?_
      refine mV_push f10_asks_132 ?_
      refine mV_iload f10_asks_134 rfl ?_
      refine mV_sto 9 f10_asks_136 (by decide) kk_142 (by decide) ?_
      refine mV_aload f10_asks_137 rfl ?_
      refine mV_getP f10_asks_138 (by decide) kk_119 rfl (pp_119_43 _) ?_
      refine mV_push f10_asks_141 ?_
      refine mV_aload f10_asks_143 rfl ?_
      refine mV_getP f10_asks_144 (by decide) kk_119 rfl (pp_119_1 _) ?_
      refine mV_push f10_asks_147 ?_
      refine mV_iload f10_asks_149 rfl ?_
      refine mV_iadd f10_asks_150 ?_
      obtain ⟨z7, hz7, hr⟩ := mBind hr
      refine mV_ldO f10_asks_151 (by decide) kk_120 hz7 ?_
      refine mV_sto 10 f10_asks_152 (by decide) kk_142 (by decide) ?_
      refine mV_aload f10_asks_153 rfl ?_
      refine mV_getP f10_asks_154 (by decide) kk_119 rfl (pp_119_43 _) ?_
      refine mV_push f10_asks_157 ?_
      refine mV_aload f10_asks_159 rfl ?_
      refine mV_getP f10_asks_160 (by decide) kk_119 rfl (pp_119_1 _) ?_
      refine mV_push f10_asks_163 ?_
      refine mV_ld (I 120 0) 0 f10_asks_164 (by decide) kk_120 (by decide) rfl ?_
      refine mV_sto 11 f10_asks_165 (by decide) kk_142 (by decide) ?_
      have hr := Option.some.inj hr; subst hr
      exact mV_vret rfl f10_asks_166 hQ
    clear hr
    have hr := hz6
    clear hz6
    refine mV_icmp_ne f10_asks_105 (fun h1 => ?_) (fun h1 => ?_)
    · rw [if_neg h1] at hr
      refine mV_iload f10_asks_112 rfl ?_
      have hr := Option.some.inj hr; subst hr
      refine mV_drop (L' := [.ref 119, mX0, .int x1, mX0, .int x3]) (mSub_k (mSub_x (mSub_k (mSub_x (mSub_k mSub_n))))) ?_
      exact keyz6
    · rw [if_pos h1] at hr
      refine mV_push f10_asks_108 ?_
      refine mV_goto f10_asks_109 ?_
      have hr := Option.some.inj hr; subst hr
      refine mV_drop (L' := [.ref 119, mX0, .int x1, mX0, .int x3]) (mSub_k (mSub_x (mSub_k (mSub_x (mSub_k mSub_n))))) ?_
      exact keyz6
  clear hr
  have hr := hz4
  clear hz4
  refine mV_icmp_ne f10_asks_80 (fun h0 => ?_) (fun h0 => ?_)
  · rw [if_neg h0] at hr
    refine mV_aload f10_asks_87 rfl ?_
    refine mV_getP f10_asks_88 (by decide) kk_119 rfl (pp_119_1 _) ?_
    refine mV_push f10_asks_91 ?_
    refine mV_iload f10_asks_93 rfl ?_
    refine mV_iadd f10_asks_94 ?_
    obtain ⟨z5, hz5, hr⟩ := mBind hr
    refine mV_ldO f10_asks_95 (by decide) kk_120 hz5 ?_
    have hr := Option.some.inj hr; subst hr
    refine mV_drop (L' := [.ref 119, mX0, .int x1, .int x2, .int x3]) (mSub_k (mSub_x (mSub_k (mSub_k (mSub_k mSub_n))))) ?_
    exact keyz4
  · rw [if_pos h0] at hr
    refine mV_push f10_asks_83 ?_
    refine mV_goto f10_asks_84 ?_
    have hr := Option.some.inj hr; subst hr
    refine mV_drop (L' := [.ref 119, mX0, .int x1, .int x2, .int x3]) (mSub_k (mSub_x (mSub_k (mSub_k (mSub_k mSub_n))))) ?_
    exact keyz4
theorem c10_asks (X : Nat × (Nat → Int32)) (I : mI) (s : Nat) (x0 : Int32) (x1 : Int32) (x2 : Int32) (x3 : Int32) {res : mI} (hr : r10_asks I x0 x1 x2 x3 = some res) : mC X m10_asks 0 0 0 [.ref 119, .int x0, .int x1, .int x2, .int x3] NN KK I (PP s) (mRet none NN KK res (PP s)) :=
  mC_of (L0 := [.ref 119, .int x0, .int x1, .int x2, .int x3]) rfl (Nat.le_of_ble_eq_true rfl) (w10_asks X I s x0 x1 x2 x3 _ hr (mRet_ok _ _ _ _ _))
def r10_lawTells (I : mI) (x0 : Int32) (x1 : Int32) (x2 : Int32) : Option (Int32 × mI) := (r10_lineOf I x0).bind fun z0 => (if (z0.1 : Int32) = ((-1) : Int32) then some (x1, z0.2) else (mLd z0.2 133 48 z0.1).bind fun z2 => (mLd z0.2 134 48 z0.1).bind fun z3 => (r10_runs z0.2 0 z2 z3).bind fun z4 => some (z4.1, z4.2) : Option (Int32 × mI)).bind fun z1 => some ((r10_held z1.1 0 x2), z1.2)
set_option maxHeartbeats 4000000 in
set_option maxRecDepth 100000 in
theorem w10_lawTells (X : Nat × (Nat → Int32)) (I : mI) (s : Nat) (x0 : Int32) (x1 : Int32) (x2 : Int32) (Q : mQ) {res : Int32 × mI} (hr : r10_lawTells I x0 x1 x2 = some res) (hQ : Q (some (.int res.1)) NN KK res.2 (PP s)) : mV X m10_lawTells 3 0 0 0 [.ref 119, .int x0, .int x1, .int x2, mX0] [] NN KK I (PP s) Q := by
  unfold r10_lawTells at hr
  refine mV_aload f10_lawTells_0 rfl ?_
  refine mV_iload f10_lawTells_1 rfl ?_
  obtain ⟨z0, hz0, hr⟩ := mBind hr
  refine mV_cV f10_lawTells_2 tg_m10_lineOf mCls10 (by decide) kk_119 (mC_deep (c10_lineOf X I s x0 hz0) (by decide)) rfl rfl (Nat.le_of_ble_eq_true rfl) ?_
  refine mV_istore (L' := [.ref 119, .int x0, .int x1, .int x2, .int z0.1]) f10_lawTells_5 (by decide) rfl rfl ?_
  refine mV_aload f10_lawTells_7 rfl ?_
  refine mV_iload f10_lawTells_8 rfl ?_
  refine mV_push f10_lawTells_10 ?_
  obtain ⟨z1, hz1, hr⟩ := mBind hr
  have keyz1 : mV X m10_lawTells 3 0 0 37 [.ref 119, mX0, mX0, .int x2, mX0] [.int z1.1, .ref 119] NN KK z1.2 (PP s) Q := by
    refine mV_push f10_lawTells_37 ?_
    refine mV_iload f10_lawTells_38 rfl ?_
    refine mV_cV f10_lawTells_39 tg_m10_held mCls10 (by decide) kk_119 (mC_deep (c10_held X z1.2 s z1.1 0 x2 rfl) (by decide)) rfl rfl (Nat.le_of_ble_eq_true rfl) ?_
    have hr := Option.some.inj hr; subst hr
    exact mV_iret rfl rfl f10_lawTells_42 hQ
  clear hr
  have hr := hz1
  clear hz1
  refine mV_icmp_ne f10_lawTells_11 (fun h0 => ?_) (fun h0 => ?_)
  · rw [if_neg h0] at hr
    refine mV_aload f10_lawTells_18 rfl ?_
    refine mV_push f10_lawTells_19 ?_
    refine mV_aload f10_lawTells_20 rfl ?_
    refine mV_getP f10_lawTells_21 (by decide) kk_119 rfl (pp_119_23 _) ?_
    refine mV_iload f10_lawTells_24 rfl ?_
    obtain ⟨z2, hz2, hr⟩ := mBind hr
    refine mV_ldO f10_lawTells_26 (by decide) kk_133 hz2 ?_
    refine mV_aload f10_lawTells_27 rfl ?_
    refine mV_getP f10_lawTells_28 (by decide) kk_119 rfl (pp_119_24 _) ?_
    refine mV_iload f10_lawTells_31 rfl ?_
    obtain ⟨z3, hz3, hr⟩ := mBind hr
    refine mV_ldO f10_lawTells_33 (by decide) kk_134 hz3 ?_
    obtain ⟨z4, hz4, hr⟩ := mBind hr
    refine mV_cV f10_lawTells_34 tg_m10_runs mCls10 (by decide) kk_119 (mC_deep (c10_runs X z0.2 s 0 z2 z3 hz4) (by decide)) rfl rfl (Nat.le_of_ble_eq_true rfl) ?_
    have hr := Option.some.inj hr; subst hr
    refine mV_drop (L' := [.ref 119, mX0, mX0, .int x2, mX0]) (mSub_k (mSub_x (mSub_x (mSub_k (mSub_x mSub_n))))) ?_
    exact keyz1
  · rw [if_pos h0] at hr
    refine mV_iload f10_lawTells_14 rfl ?_
    refine mV_goto f10_lawTells_15 ?_
    have hr := Option.some.inj hr; subst hr
    refine mV_drop (L' := [.ref 119, mX0, mX0, .int x2, mX0]) (mSub_k (mSub_x (mSub_x (mSub_k (mSub_x mSub_n))))) ?_
    exact keyz1
theorem c10_lawTells (X : Nat × (Nat → Int32)) (I : mI) (s : Nat) (x0 : Int32) (x1 : Int32) (x2 : Int32) {res : Int32 × mI} (hr : r10_lawTells I x0 x1 x2 = some res) : mC X m10_lawTells 3 0 0 [.ref 119, .int x0, .int x1, .int x2] NN KK I (PP s) (mRet (some (.int res.1)) NN KK res.2 (PP s)) :=
  mC_of (L0 := [.ref 119, .int x0, .int x1, .int x2, mX0]) rfl (Nat.le_of_ble_eq_true rfl) (w10_lawTells X I s x0 x1 x2 _ hr (mRet_ok _ _ _ _ _))
def r10_weepsOf (I : mI) (x0 : Int32) (x1 : Int32) (x2 : Int32) : Option (Int32 × mI) := (r10_asks I x0 x1 (-1) x2).bind fun z0 => (mLd z0 124 12 x1).bind fun z1 => (mLd z0 126 6 x0).bind fun z2 => (mLd z0 127 6 x0).bind fun z3 => (r10_lawTells z0 0 ((z1 + z2) - z3) 99).bind fun z4 => some (z4.1, z4.2)
set_option maxHeartbeats 4000000 in
set_option maxRecDepth 100000 in
theorem w10_weepsOf (X : Nat × (Nat → Int32)) (I : mI) (s : Nat) (x0 : Int32) (x1 : Int32) (x2 : Int32) (Q : mQ) {res : Int32 × mI} (hr : r10_weepsOf I x0 x1 x2 = some res) (hQ : Q (some (.int res.1)) NN KK res.2 (PP s)) : mV X m10_weepsOf 4 0 0 0 [.ref 119, .int x0, .int x1, .int x2] [] NN KK I (PP s) Q := by
  unfold r10_weepsOf at hr
  refine mV_aload f10_weepsOf_0 rfl ?_
  refine mV_iload f10_weepsOf_1 rfl ?_
  refine mV_iload f10_weepsOf_2 rfl ?_
  refine mV_push f10_weepsOf_3 ?_
  refine mV_iload f10_weepsOf_4 rfl ?_
  obtain ⟨z0, hz0, hr⟩ := mBind hr
  refine mV_cV f10_weepsOf_5 tg_m10_asks mCls10 (by decide) kk_119 (mC_deep (c10_asks X I s x0 x1 (-1) x2 hz0) (by decide)) rfl rfl (Nat.le_of_ble_eq_true rfl) ?_
  refine mV_aload f10_weepsOf_8 rfl ?_
  refine mV_push f10_weepsOf_9 ?_
  refine mV_aload f10_weepsOf_10 rfl ?_
  refine mV_getP f10_weepsOf_11 (by decide) kk_119 rfl (pp_119_9 _) ?_
  refine mV_iload f10_weepsOf_14 rfl ?_
  obtain ⟨z1, hz1, hr⟩ := mBind hr
  refine mV_ldO f10_weepsOf_15 (by decide) kk_124 hz1 ?_
  refine mV_aload f10_weepsOf_16 rfl ?_
  refine mV_getP f10_weepsOf_17 (by decide) kk_119 rfl (pp_119_11 _) ?_
  refine mV_iload f10_weepsOf_20 rfl ?_
  obtain ⟨z2, hz2, hr⟩ := mBind hr
  refine mV_ldO f10_weepsOf_21 (by decide) kk_126 hz2 ?_
  refine mV_iadd f10_weepsOf_22 ?_
  refine mV_aload f10_weepsOf_23 rfl ?_
  refine mV_getP f10_weepsOf_24 (by decide) kk_119 rfl (pp_119_12 _) ?_
  refine mV_iload f10_weepsOf_27 rfl ?_
  obtain ⟨z3, hz3, hr⟩ := mBind hr
  refine mV_ldO f10_weepsOf_28 (by decide) kk_127 hz3 ?_
  refine mV_isub f10_weepsOf_29 ?_
  refine mV_push f10_weepsOf_30 ?_
  obtain ⟨z4, hz4, hr⟩ := mBind hr
  refine mV_cV f10_weepsOf_32 tg_m10_lawTells mCls10 (by decide) kk_119 (mC_deep (c10_lawTells X z0 s 0 ((z1 + z2) - z3) 99 hz4) (by decide)) rfl rfl (Nat.le_of_ble_eq_true rfl) ?_
  have hr := Option.some.inj hr; subst hr
  exact mV_iret rfl rfl f10_weepsOf_35 hQ
theorem c10_weepsOf (X : Nat × (Nat → Int32)) (I : mI) (s : Nat) (x0 : Int32) (x1 : Int32) (x2 : Int32) {res : Int32 × mI} (hr : r10_weepsOf I x0 x1 x2 = some res) : mC X m10_weepsOf 4 0 0 [.ref 119, .int x0, .int x1, .int x2] NN KK I (PP s) (mRet (some (.int res.1)) NN KK res.2 (PP s)) :=
  mC_of (L0 := [.ref 119, .int x0, .int x1, .int x2]) rfl (Nat.le_of_ble_eq_true rfl) (w10_weepsOf X I s x0 x1 x2 _ hr (mRet_ok _ _ _ _ _))
def r10_dampsOf (I : mI) (x0 : Int32) (x1 : Int32) (x2 : Int32) (x3 : Int32) : Option (Int32 × mI) := (r10_asks I x0 x1 x2 x3).bind fun z0 => (r10_lawTells z0 1 (z0 120 3) 1000).bind fun z1 => some (z1.1, z1.2)
set_option maxHeartbeats 4000000 in
set_option maxRecDepth 100000 in
theorem w10_dampsOf (X : Nat × (Nat → Int32)) (I : mI) (s : Nat) (x0 : Int32) (x1 : Int32) (x2 : Int32) (x3 : Int32) (Q : mQ) {res : Int32 × mI} (hr : r10_dampsOf I x0 x1 x2 x3 = some res) (hQ : Q (some (.int res.1)) NN KK res.2 (PP s)) : mV X m10_dampsOf 4 0 0 0 [.ref 119, .int x0, .int x1, .int x2, .int x3] [] NN KK I (PP s) Q := by
  unfold r10_dampsOf at hr
  refine mV_aload f10_dampsOf_0 rfl ?_
  refine mV_iload f10_dampsOf_1 rfl ?_
  refine mV_iload f10_dampsOf_2 rfl ?_
  refine mV_iload f10_dampsOf_3 rfl ?_
  refine mV_iload f10_dampsOf_4 rfl ?_
  obtain ⟨z0, hz0, hr⟩ := mBind hr
  refine mV_cV f10_dampsOf_6 tg_m10_asks mCls10 (by decide) kk_119 (mC_deep (c10_asks X I s x0 x1 x2 x3 hz0) (by decide)) rfl rfl (Nat.le_of_ble_eq_true rfl) ?_
  refine mV_aload f10_dampsOf_9 rfl ?_
  refine mV_push f10_dampsOf_10 ?_
  refine mV_aload f10_dampsOf_11 rfl ?_
  refine mV_getP f10_dampsOf_12 (by decide) kk_119 rfl (pp_119_1 _) ?_
  refine mV_push f10_dampsOf_15 ?_
  refine mV_ld (z0 120 3) 3 f10_dampsOf_16 (by decide) kk_120 (by decide) rfl ?_
  refine mV_push f10_dampsOf_17 ?_
  obtain ⟨z1, hz1, hr⟩ := mBind hr
  refine mV_cV f10_dampsOf_20 tg_m10_lawTells mCls10 (by decide) kk_119 (mC_deep (c10_lawTells X z0 s 1 (z0 120 3) 1000 hz1) (by decide)) rfl rfl (Nat.le_of_ble_eq_true rfl) ?_
  have hr := Option.some.inj hr; subst hr
  exact mV_iret rfl rfl f10_dampsOf_23 hQ
theorem c10_dampsOf (X : Nat × (Nat → Int32)) (I : mI) (s : Nat) (x0 : Int32) (x1 : Int32) (x2 : Int32) (x3 : Int32) {res : Int32 × mI} (hr : r10_dampsOf I x0 x1 x2 x3 = some res) : mC X m10_dampsOf 4 0 0 [.ref 119, .int x0, .int x1, .int x2, .int x3] NN KK I (PP s) (mRet (some (.int res.1)) NN KK res.2 (PP s)) :=
  mC_of (L0 := [.ref 119, .int x0, .int x1, .int x2, .int x3]) rfl (Nat.le_of_ble_eq_true rfl) (w10_dampsOf X I s x0 x1 x2 x3 _ hr (mRet_ok _ _ _ _ _))
def r10_settlesOf (I : mI) (x0 : Int32) (x1 : Int32) (x2 : Int32) : Option (Int32 × mI) := (r10_asks I x0 x1 (-1) x2).bind fun z0 => (r10_lawTells z0 2 (3 + z0 120 6) 99).bind fun z1 => some (z1.1, z1.2)
set_option maxHeartbeats 4000000 in
set_option maxRecDepth 100000 in
theorem w10_settlesOf (X : Nat × (Nat → Int32)) (I : mI) (s : Nat) (x0 : Int32) (x1 : Int32) (x2 : Int32) (Q : mQ) {res : Int32 × mI} (hr : r10_settlesOf I x0 x1 x2 = some res) (hQ : Q (some (.int res.1)) NN KK res.2 (PP s)) : mV X m10_settlesOf 4 0 0 0 [.ref 119, .int x0, .int x1, .int x2] [] NN KK I (PP s) Q := by
  unfold r10_settlesOf at hr
  refine mV_aload f10_settlesOf_0 rfl ?_
  refine mV_iload f10_settlesOf_1 rfl ?_
  refine mV_iload f10_settlesOf_2 rfl ?_
  refine mV_push f10_settlesOf_3 ?_
  refine mV_iload f10_settlesOf_4 rfl ?_
  obtain ⟨z0, hz0, hr⟩ := mBind hr
  refine mV_cV f10_settlesOf_5 tg_m10_asks mCls10 (by decide) kk_119 (mC_deep (c10_asks X I s x0 x1 (-1) x2 hz0) (by decide)) rfl rfl (Nat.le_of_ble_eq_true rfl) ?_
  refine mV_aload f10_settlesOf_8 rfl ?_
  refine mV_push f10_settlesOf_9 ?_
  refine mV_push f10_settlesOf_10 ?_
  refine mV_aload f10_settlesOf_11 rfl ?_
  refine mV_getP f10_settlesOf_12 (by decide) kk_119 rfl (pp_119_1 _) ?_
  refine mV_push f10_settlesOf_15 ?_
  refine mV_ld (z0 120 6) 6 f10_settlesOf_17 (by decide) kk_120 (by decide) rfl ?_
  refine mV_iadd f10_settlesOf_18 ?_
  refine mV_push f10_settlesOf_19 ?_
  obtain ⟨z1, hz1, hr⟩ := mBind hr
  refine mV_cV f10_settlesOf_21 tg_m10_lawTells mCls10 (by decide) kk_119 (mC_deep (c10_lawTells X z0 s 2 (3 + z0 120 6) 99 hz1) (by decide)) rfl rfl (Nat.le_of_ble_eq_true rfl) ?_
  have hr := Option.some.inj hr; subst hr
  exact mV_iret rfl rfl f10_settlesOf_24 hQ
theorem c10_settlesOf (X : Nat × (Nat → Int32)) (I : mI) (s : Nat) (x0 : Int32) (x1 : Int32) (x2 : Int32) {res : Int32 × mI} (hr : r10_settlesOf I x0 x1 x2 = some res) : mC X m10_settlesOf 4 0 0 [.ref 119, .int x0, .int x1, .int x2] NN KK I (PP s) (mRet (some (.int res.1)) NN KK res.2 (PP s)) :=
  mC_of (L0 := [.ref 119, .int x0, .int x1, .int x2]) rfl (Nat.le_of_ble_eq_true rfl) (w10_settlesOf X I s x0 x1 x2 _ hr (mRet_ok _ _ _ _ _))
def r10_notes (I : mI) (x0 : Int32) (x1 : Int32) (x2 : Int32) : Option (mI) := if (I 119 5 : Int32) = (0 : Int32) then if (I 120 2 : Int32) = (150 : Int32) then some I else (mSto I 128 600 (4 * I 120 2) (I 120 0)).bind fun z0 => (mSto z0 128 600 ((4 * I 120 2) + 1) x0).bind fun z1 => (mSto z1 128 600 ((4 * I 120 2) + 2) x1).bind fun z2 => (mSto z2 128 600 ((4 * I 120 2) + 3) x2).bind fun z3 => some (mW z3 120 2 (z3 120 2 + 1)) else some I
set_option maxHeartbeats 4000000 in
set_option maxRecDepth 100000 in
theorem w10_notes (X : Nat × (Nat → Int32)) (I : mI) (s : Nat) (x0 : Int32) (x1 : Int32) (x2 : Int32) (Q : mQ) {res : mI} (hr : r10_notes I x0 x1 x2 = some res) (hQ : Q none NN KK res (PP s)) : mV X m10_notes 0 0 0 0 [.ref 119, .int x0, .int x1, .int x2, mX0] [] NN KK I (PP s) Q := by
  unfold r10_notes at hr
  refine mV_aload f10_notes_0 rfl ?_
  refine mV_gI (I 119 5) f10_notes_1 (by decide) kk_119 rfl rfl ?_
  refine mV_if_ne f10_notes_4 (fun h0 => ?_) (fun h0 => ?_)
  · rw [if_neg h0] at hr
    have hr := Option.some.inj hr; subst hr
    exact mV_vret rfl f10_notes_19 hQ
  · rw [if_pos h0] at hr
    refine mV_aload f10_notes_7 rfl ?_
    refine mV_getP f10_notes_8 (by decide) kk_119 rfl (pp_119_1 _) ?_
    refine mV_push f10_notes_11 ?_
    refine mV_ld (I 120 2) 2 f10_notes_12 (by decide) kk_120 (by decide) rfl ?_
    refine mV_push f10_notes_13 ?_
    refine mV_icmp_ne f10_notes_16 (fun h1 => ?_) (fun h1 => ?_)
    · rw [if_neg h1] at hr
      refine mV_push f10_notes_20 ?_
      refine mV_aload f10_notes_21 rfl ?_
      refine mV_getP f10_notes_22 (by decide) kk_119 rfl (pp_119_1 _) ?_
      refine mV_push f10_notes_25 ?_
      refine mV_ld (I 120 2) 2 f10_notes_26 (by decide) kk_120 (by decide) rfl ?_
      refine mV_imul f10_notes_27 ?_
      refine mV_istore (L' := [.ref 119, .int x0, .int x1, .int x2, .int (4 * I 120 2)]) f10_notes_28 (by decide) rfl rfl ?_
      refine mV_aload f10_notes_30 rfl ?_
      refine mV_getP f10_notes_31 (by decide) kk_119 rfl (pp_119_13 _) ?_
      refine mV_iload f10_notes_34 rfl ?_
      refine mV_aload f10_notes_36 rfl ?_
      refine mV_getP f10_notes_37 (by decide) kk_119 rfl (pp_119_1 _) ?_
      refine mV_push f10_notes_40 ?_
      refine mV_ld (I 120 0) 0 f10_notes_41 (by decide) kk_120 (by decide) rfl ?_
      obtain ⟨z0, hz0, hr⟩ := mBind hr
      refine mV_stO f10_notes_42 (by decide) kk_128 hz0 ?_
      refine mV_aload f10_notes_43 rfl ?_
      refine mV_getP f10_notes_44 (by decide) kk_119 rfl (pp_119_13 _) ?_
      refine mV_iload f10_notes_47 rfl ?_
      refine mV_push f10_notes_49 ?_
      refine mV_iadd f10_notes_50 ?_
      refine mV_iload f10_notes_51 rfl ?_
      obtain ⟨z1, hz1, hr⟩ := mBind hr
      refine mV_stO f10_notes_52 (by decide) kk_128 hz1 ?_
      refine mV_aload f10_notes_53 rfl ?_
      refine mV_getP f10_notes_54 (by decide) kk_119 rfl (pp_119_13 _) ?_
      refine mV_iload f10_notes_57 rfl ?_
      refine mV_push f10_notes_59 ?_
      refine mV_iadd f10_notes_60 ?_
      refine mV_iload f10_notes_61 rfl ?_
      obtain ⟨z2, hz2, hr⟩ := mBind hr
      refine mV_stO f10_notes_62 (by decide) kk_128 hz2 ?_
      refine mV_aload f10_notes_63 rfl ?_
      refine mV_getP f10_notes_64 (by decide) kk_119 rfl (pp_119_13 _) ?_
      refine mV_iload f10_notes_67 rfl ?_
      refine mV_push f10_notes_69 ?_
      refine mV_iadd f10_notes_70 ?_
      refine mV_iload f10_notes_71 rfl ?_
      obtain ⟨z3, hz3, hr⟩ := mBind hr
      refine mV_stO f10_notes_72 (by decide) kk_128 hz3 ?_
      refine mV_aload f10_notes_73 rfl ?_
      refine mV_getP f10_notes_74 (by decide) kk_119 rfl (pp_119_1 _) ?_
      refine mV_push f10_notes_77 ?_
      refine mV_aload f10_notes_78 rfl ?_
      refine mV_getP f10_notes_79 (by decide) kk_119 rfl (pp_119_1 _) ?_
      refine mV_push f10_notes_82 ?_
      refine mV_ld (z3 120 2) 2 f10_notes_83 (by decide) kk_120 (by decide) rfl ?_
      refine mV_push f10_notes_84 ?_
      refine mV_iadd f10_notes_85 ?_
      refine mV_sto 2 f10_notes_86 (by decide) kk_120 (by decide) ?_
      have hr := Option.some.inj hr; subst hr
      exact mV_vret rfl f10_notes_87 hQ
    · rw [if_pos h1] at hr
      have hr := Option.some.inj hr; subst hr
      exact mV_vret rfl f10_notes_19 hQ
theorem c10_notes (X : Nat × (Nat → Int32)) (I : mI) (s : Nat) (x0 : Int32) (x1 : Int32) (x2 : Int32) {res : mI} (hr : r10_notes I x0 x1 x2 = some res) : mC X m10_notes 0 0 0 [.ref 119, .int x0, .int x1, .int x2] NN KK I (PP s) (mRet none NN KK res (PP s)) :=
  mC_of (L0 := [.ref 119, .int x0, .int x1, .int x2, mX0]) rfl (Nat.le_of_ble_eq_true rfl) (w10_notes X I s x0 x1 x2 _ hr (mRet_ok _ _ _ _ _))
def r10_goesFlat (I : mI) (x0 : Int32) (x1 : Int32) (x2 : Int32) (x3 : Int32) : Option (mI) := (r10_dampsOf I x0 x1 x2 x3).bind fun z0 => (if (z0.2 119 5 : Int32) = (0 : Int32) then if (z0.1 : Int32) ≤ (0 : Int32) then some (0, z0.2) else (r10_draw z0.2 1000).bind fun z2 => if (z0.1 : Int32) ≤ (z2.1 : Int32) then some (0, z2.2) else some (1, z2.2) else if ((2 * z0.1) : Int32) < (1000 : Int32) then some (0, z0.2) else some (1, z0.2) : Option (Int32 × mI)).bind fun z1 => (if (z1.1 : Int32) = (0 : Int32) then some z1.2 else (mLd z1.2 120 47 (9 + x2)).bind fun z4 => (mSto z1.2 120 47 (9 + x2) (r10_lesser 50 (z4 + 1))).bind fun z5 => some z5 : Option (mI)).bind fun z3 => some z3
set_option maxHeartbeats 4000000 in
set_option maxRecDepth 100000 in
theorem w10_goesFlat (X : Nat × (Nat → Int32)) (I : mI) (s : Nat) (x0 : Int32) (x1 : Int32) (x2 : Int32) (x3 : Int32) (Q : mQ) {res : mI} (hr : r10_goesFlat I x0 x1 x2 x3 = some res) (hQ : Q none NN KK res (PP s)) : mV X m10_goesFlat 5 0 0 0 [.ref 119, .int x0, .int x1, .int x2, .int x3, mX0, mX0] [] NN KK I (PP s) Q := by
  unfold r10_goesFlat at hr
  refine mV_aload f10_goesFlat_0 rfl ?_
  refine mV_iload f10_goesFlat_1 rfl ?_
  refine mV_iload f10_goesFlat_2 rfl ?_
  refine mV_iload f10_goesFlat_3 rfl ?_
  refine mV_iload f10_goesFlat_4 rfl ?_
  obtain ⟨z0, hz0, hr⟩ := mBind hr
  refine mV_cV f10_goesFlat_6 tg_m10_dampsOf mCls10 (by decide) kk_119 (mC_deep (c10_dampsOf X I s x0 x1 x2 x3 hz0) (by decide)) rfl rfl (Nat.le_of_ble_eq_true rfl) ?_
  refine mV_istore (L' := [.ref 119, .int x0, .int x1, .int x2, .int x3, .int z0.1, mX0]) f10_goesFlat_9 (by decide) rfl rfl ?_
  refine mV_aload f10_goesFlat_11 rfl ?_
  refine mV_gI (z0.2 119 5) f10_goesFlat_12 (by decide) kk_119 rfl rfl ?_
  obtain ⟨z1, hz1, hr⟩ := mBind hr
  have keyz1 : mV X m10_goesFlat 5 0 0 58 [.ref 119, mX0, mX0, .int x2, mX0, mX0, mX0] [.int z1.1] NN KK z1.2 (PP s) Q := by
    refine mV_istore (L' := [.ref 119, mX0, mX0, .int x2, mX0, mX0, .int z1.1]) f10_goesFlat_58 (by decide) rfl rfl ?_
    refine mV_iload f10_goesFlat_60 rfl ?_
    obtain ⟨z3, hz3, hr⟩ := mBind hr
    have keyz3 : mV X m10_goesFlat 5 0 0 91 [.ref 119, mX0, mX0, mX0, mX0, mX0, mX0] [] NN KK z3 (PP s) Q := by
      have hr := Option.some.inj hr; subst hr
      exact mV_vret rfl f10_goesFlat_91 hQ
    clear hr
    have hr := hz3
    clear hz3
    refine mV_if_eq f10_goesFlat_62 (fun h4 => ?_) (fun h4 => ?_)
    · rw [if_pos h4] at hr
      have hr := Option.some.inj hr; subst hr
      refine mV_drop (L' := [.ref 119, mX0, mX0, mX0, mX0, mX0, mX0]) (mSub_k (mSub_x (mSub_x (mSub_x (mSub_x (mSub_x (mSub_x mSub_n))))))) ?_
      exact keyz3
    · rw [if_neg h4] at hr
      refine mV_aload f10_goesFlat_65 rfl ?_
      refine mV_getP f10_goesFlat_66 (by decide) kk_119 rfl (pp_119_1 _) ?_
      refine mV_push f10_goesFlat_69 ?_
      refine mV_iload f10_goesFlat_71 rfl ?_
      refine mV_iadd f10_goesFlat_72 ?_
      refine mV_aload f10_goesFlat_73 rfl ?_
      refine mV_push f10_goesFlat_74 ?_
      refine mV_aload f10_goesFlat_76 rfl ?_
      refine mV_getP f10_goesFlat_77 (by decide) kk_119 rfl (pp_119_1 _) ?_
      refine mV_push f10_goesFlat_80 ?_
      refine mV_iload f10_goesFlat_82 rfl ?_
      refine mV_iadd f10_goesFlat_83 ?_
      obtain ⟨z4, hz4, hr⟩ := mBind hr
      refine mV_ldO f10_goesFlat_84 (by decide) kk_120 hz4 ?_
      refine mV_push f10_goesFlat_85 ?_
      refine mV_iadd f10_goesFlat_86 ?_
      refine mV_cV f10_goesFlat_87 tg_m10_lesser mCls10 (by decide) kk_119 (mC_deep (c10_lesser X z1.2 s 50 (z4 + 1) rfl) (by decide)) rfl rfl (Nat.le_of_ble_eq_true rfl) ?_
      obtain ⟨z5, hz5, hr⟩ := mBind hr
      refine mV_stO f10_goesFlat_90 (by decide) kk_120 hz5 ?_
      have hr := Option.some.inj hr; subst hr
      refine mV_drop (L' := [.ref 119, mX0, mX0, mX0, mX0, mX0, mX0]) (mSub_k (mSub_x (mSub_x (mSub_x (mSub_x (mSub_x (mSub_x mSub_n))))))) ?_
      exact keyz3
  clear hr
  have hr := hz1
  clear hz1
  refine mV_if_eq f10_goesFlat_15 (fun h0 => ?_) (fun h0 => ?_)
  · rw [if_pos h0] at hr
    refine mV_iload f10_goesFlat_36 rfl ?_
    refine mV_if_le f10_goesFlat_38 (fun h1 => ?_) (fun h1 => ?_)
    · rw [if_pos h1] at hr
      refine mV_push f10_goesFlat_57 ?_
      have hr := Option.some.inj hr; subst hr
      refine mV_drop (L' := [.ref 119, mX0, mX0, .int x2, mX0, mX0, mX0]) (mSub_k (mSub_x (mSub_x (mSub_k (mSub_x (mSub_x (mSub_x mSub_n))))))) ?_
      exact keyz1
    · rw [if_neg h1] at hr
      refine mV_aload f10_goesFlat_41 rfl ?_
      refine mV_push f10_goesFlat_42 ?_
      obtain ⟨z2, hz2, hr⟩ := mBind hr
      refine mV_cV f10_goesFlat_45 tg_m10_draw mCls10 (by decide) kk_119 (mC_deep (c10_draw X z0.2 s 1000 hz2) (by decide)) rfl rfl (Nat.le_of_ble_eq_true rfl) ?_
      refine mV_iload f10_goesFlat_48 rfl ?_
      refine mV_icmp_ge f10_goesFlat_50 (fun h2 => ?_) (fun h2 => ?_)
      · rw [if_pos h2] at hr
        refine mV_push f10_goesFlat_57 ?_
        have hr := Option.some.inj hr; subst hr
        refine mV_drop (L' := [.ref 119, mX0, mX0, .int x2, mX0, mX0, mX0]) (mSub_k (mSub_x (mSub_x (mSub_k (mSub_x (mSub_x (mSub_x mSub_n))))))) ?_
        exact keyz1
      · rw [if_neg h2] at hr
        refine mV_push f10_goesFlat_53 ?_
        refine mV_goto f10_goesFlat_54 ?_
        have hr := Option.some.inj hr; subst hr
        refine mV_drop (L' := [.ref 119, mX0, mX0, .int x2, mX0, mX0, mX0]) (mSub_k (mSub_x (mSub_x (mSub_k (mSub_x (mSub_x (mSub_x mSub_n))))))) ?_
        exact keyz1
  · rw [if_neg h0] at hr
    refine mV_push f10_goesFlat_18 ?_
    refine mV_iload f10_goesFlat_19 rfl ?_
    refine mV_imul f10_goesFlat_21 ?_
    refine mV_push f10_goesFlat_22 ?_
    refine mV_icmp_lt f10_goesFlat_25 (fun h3 => ?_) (fun h3 => ?_)
    · rw [if_pos h3] at hr
      refine mV_push f10_goesFlat_32 ?_
      refine mV_goto f10_goesFlat_33 ?_
      have hr := Option.some.inj hr; subst hr
      refine mV_drop (L' := [.ref 119, mX0, mX0, .int x2, mX0, mX0, mX0]) (mSub_k (mSub_x (mSub_x (mSub_k (mSub_x (mSub_x (mSub_x mSub_n))))))) ?_
      exact keyz1
    · rw [if_neg h3] at hr
      refine mV_push f10_goesFlat_28 ?_
      refine mV_goto f10_goesFlat_29 ?_
      have hr := Option.some.inj hr; subst hr
      refine mV_drop (L' := [.ref 119, mX0, mX0, .int x2, mX0, mX0, mX0]) (mSub_k (mSub_x (mSub_x (mSub_k (mSub_x (mSub_x (mSub_x mSub_n))))))) ?_
      exact keyz1
theorem c10_goesFlat (X : Nat × (Nat → Int32)) (I : mI) (s : Nat) (x0 : Int32) (x1 : Int32) (x2 : Int32) (x3 : Int32) {res : mI} (hr : r10_goesFlat I x0 x1 x2 x3 = some res) : mC X m10_goesFlat 5 0 0 [.ref 119, .int x0, .int x1, .int x2, .int x3] NN KK I (PP s) (mRet none NN KK res (PP s)) :=
  mC_of (L0 := [.ref 119, .int x0, .int x1, .int x2, .int x3, mX0, mX0]) rfl (Nat.le_of_ble_eq_true rfl) (w10_goesFlat X I s x0 x1 x2 x3 _ hr (mRet_ok _ _ _ _ _))
def l10_plays_56 (k1 : Int32) (k2 : Int32) (k4 : Int32) : Nat → Int32 → mI → Option (mI)
  | 0, _, _ => none
  | f + 1, y6, I => if (8 : Int32) ≤ (y6 : Int32) then some I else (r10_goesFlat I k1 k2 y6 k4).bind fun z0 => l10_plays_56 k1 k2 k4 f (y6 + 1) z0
def l10_plays_5 (k1 : Int32) (k2 : Int32) : Nat → Int32 → Int32 → mI → Option (Int32 × mI)
  | 0, _, _, _ => none
  | f + 1, y3, y4, I => (mLd I 123 12 k2).bind fun z0 => if (z0 : Int32) ≤ (y4 : Int32) then some (y3, I) else (r10_weepsOf I k1 k2 y4).bind fun z1 => (l10_plays_56 k1 k2 y4 FU 0 (mW z1.2 120 3 (r10_lesser 999 (z1.2 120 3 + z1.1)))).bind fun z2 => l10_plays_5 k1 k2 f (y3 + z1.1) (y4 + 1) z2
def r10_plays (I : mI) (x0 : Int32) (x1 : Int32) : Option (Int32 × mI) := (l10_plays_5 x0 x1 FU 0 0 I).bind fun z0 => (mLd z0.2 120 47 (29 + x1)).bind fun z1 => (mSto z0.2 120 47 (29 + x1) (z1 + z0.1)).bind fun z2 => (mLd z2 120 47 (41 + x0)).bind fun z3 => (mSto z2 120 47 (41 + x0) (z3 + z0.1)).bind fun z4 => (mLd z4 123 12 x1).bind fun z5 => (mLd (mW z4 120 7 (z4 120 7 + z5)) 120 47 (17 + x1)).bind fun z6 => (mSto (mW z4 120 7 (z4 120 7 + z5)) 120 47 (17 + x1) (z6 + 1)).bind fun z7 => (r10_notes z7 0 x1 z0.1).bind fun z8 => some (z0.1, z8)
set_option maxHeartbeats 4000000 in
set_option maxRecDepth 100000 in
theorem t10_plays_56 (X : Nat × (Nat → Int32)) (Q : mQ) (s : Nat) (k1 : Int32) (k2 : Int32) (k3 : Int32) (k4 : Int32) : ∀ (f : Nat) (y6 : Int32) (I : mI) (z : mI), l10_plays_56 k1 k2 k4 f y6 I = some z → mV X m10_plays 6 0 0 79 [.ref 119, .int k1, .int k2, .int k3, .int k4, mX0, mX0] [] NN KK z (PP s) Q → mV X m10_plays 6 0 0 56 [.ref 119, .int k1, .int k2, .int k3, .int k4, mX0, .int y6] [] NN KK I (PP s) Q := by
  intro f
  induction f with
  | zero => intro y6 I z hr hk; cases hr
  | succ f ih =>
    intro y6 I z hr hk
    unfold l10_plays_56 at hr
    refine mV_iload f10_plays_56 rfl ?_
    refine mV_push f10_plays_58 ?_
    refine mV_icmp_ge f10_plays_60 (fun h0 => ?_) (fun h0 => ?_)
    · rw [if_pos h0] at hr
      have hr := Option.some.inj hr; subst hr
      refine mV_drop (L' := [.ref 119, .int k1, .int k2, .int k3, .int k4, mX0, mX0]) (mSub_k (mSub_k (mSub_k (mSub_k (mSub_k (mSub_x (mSub_x mSub_n))))))) ?_
      exact hk
    · rw [if_neg h0] at hr
      refine mV_aload f10_plays_63 rfl ?_
      refine mV_iload f10_plays_64 rfl ?_
      refine mV_iload f10_plays_65 rfl ?_
      refine mV_iload f10_plays_66 rfl ?_
      refine mV_iload f10_plays_68 rfl ?_
      obtain ⟨z0, hz0, hr⟩ := mBind hr
      refine mV_cV f10_plays_70 tg_m10_goesFlat mCls10 (by decide) kk_119 (mC_deep (c10_goesFlat X I s k1 k2 y6 k4 hz0) (by decide)) rfl rfl (Nat.le_of_ble_eq_true rfl) ?_
      refine mV_iinc (y := (y6 + 1)) (L' := [.ref 119, .int k1, .int k2, .int k3, .int k4, mX0, .int (y6 + 1)]) f10_plays_73 rfl rfl (by decide) rfl rfl ?_
      refine mV_goto f10_plays_76 ?_
      exact ih (y6 + 1) z0 _ hr hk
set_option maxHeartbeats 4000000 in
set_option maxRecDepth 100000 in
theorem t10_plays_5 (X : Nat × (Nat → Int32)) (Q : mQ) (s : Nat) (k1 : Int32) (k2 : Int32) : ∀ (f : Nat) (y3 : Int32) (y4 : Int32) (I : mI) (z : Int32 × mI), l10_plays_5 k1 k2 f y3 y4 I = some z → mV X m10_plays 6 0 0 85 [.ref 119, .int k1, .int k2, .int z.1, mX0, mX0, mX0] [] NN KK z.2 (PP s) Q → mV X m10_plays 6 0 0 5 [.ref 119, .int k1, .int k2, .int y3, .int y4, mX0, mX0] [] NN KK I (PP s) Q := by
  intro f
  induction f with
  | zero => intro y3 y4 I z hr hk; cases hr
  | succ f ih =>
    intro y3 y4 I z hr hk
    unfold l10_plays_5 at hr
    refine mV_iload f10_plays_5 rfl ?_
    refine mV_aload f10_plays_7 rfl ?_
    refine mV_getP f10_plays_8 (by decide) kk_119 rfl (pp_119_8 _) ?_
    refine mV_iload f10_plays_11 rfl ?_
    obtain ⟨z0, hz0, hr⟩ := mBind hr
    refine mV_ldO f10_plays_12 (by decide) kk_123 hz0 ?_
    refine mV_icmp_ge f10_plays_13 (fun h0 => ?_) (fun h0 => ?_)
    · rw [if_pos h0] at hr
      have hr := Option.some.inj hr; subst hr
      refine mV_drop (L' := [.ref 119, .int k1, .int k2, .int y3, mX0, mX0, mX0]) (mSub_k (mSub_k (mSub_k (mSub_k (mSub_x (mSub_x (mSub_x mSub_n))))))) ?_
      exact hk
    · rw [if_neg h0] at hr
      refine mV_aload f10_plays_16 rfl ?_
      refine mV_iload f10_plays_17 rfl ?_
      refine mV_iload f10_plays_18 rfl ?_
      refine mV_iload f10_plays_19 rfl ?_
      obtain ⟨z1, hz1, hr⟩ := mBind hr
      refine mV_cV f10_plays_21 tg_m10_weepsOf mCls10 (by decide) kk_119 (mC_deep (c10_weepsOf X I s k1 k2 y4 hz1) (by decide)) rfl rfl (Nat.le_of_ble_eq_true rfl) ?_
      refine mV_istore (L' := [.ref 119, .int k1, .int k2, .int y3, .int y4, .int z1.1, mX0]) f10_plays_24 (by decide) rfl rfl ?_
      refine mV_iload f10_plays_26 rfl ?_
      refine mV_iload f10_plays_27 rfl ?_
      refine mV_iadd f10_plays_29 ?_
      refine mV_istore (L' := [.ref 119, .int k1, .int k2, .int (y3 + z1.1), .int y4, .int z1.1, mX0]) f10_plays_30 (by decide) rfl rfl ?_
      refine mV_aload f10_plays_31 rfl ?_
      refine mV_getP f10_plays_32 (by decide) kk_119 rfl (pp_119_1 _) ?_
      refine mV_push f10_plays_35 ?_
      refine mV_aload f10_plays_36 rfl ?_
      refine mV_push f10_plays_37 ?_
      refine mV_aload f10_plays_40 rfl ?_
      refine mV_getP f10_plays_41 (by decide) kk_119 rfl (pp_119_1 _) ?_
      refine mV_push f10_plays_44 ?_
      refine mV_ld (z1.2 120 3) 3 f10_plays_45 (by decide) kk_120 (by decide) rfl ?_
      refine mV_iload f10_plays_46 rfl ?_
      refine mV_iadd f10_plays_48 ?_
      refine mV_cV f10_plays_49 tg_m10_lesser mCls10 (by decide) kk_119 (mC_deep (c10_lesser X z1.2 s 999 (z1.2 120 3 + z1.1) rfl) (by decide)) rfl rfl (Nat.le_of_ble_eq_true rfl) ?_
      refine mV_sto 3 f10_plays_52 (by decide) kk_120 (by decide) ?_
      refine mV_push f10_plays_53 ?_
      refine mV_istore (L' := [.ref 119, .int k1, .int k2, .int (y3 + z1.1), .int y4, .int z1.1, .int 0]) f10_plays_54 (by decide) rfl rfl ?_
      obtain ⟨z2, hz2, hr⟩ := mBind hr
      refine mV_drop (L' := [.ref 119, .int k1, .int k2, .int (y3 + z1.1), .int y4, mX0, .int 0]) (mSub_k (mSub_k (mSub_k (mSub_k (mSub_k (mSub_x (mSub_k mSub_n))))))) ?_
      refine t10_plays_56 X Q s k1 k2 (y3 + z1.1) y4 FU 0 (mW z1.2 120 3 (r10_lesser 999 (z1.2 120 3 + z1.1))) _ hz2 ?_
      refine mV_iinc (y := (y4 + 1)) (L' := [.ref 119, .int k1, .int k2, .int (y3 + z1.1), .int (y4 + 1), mX0, mX0]) f10_plays_79 rfl rfl (by decide) rfl rfl ?_
      refine mV_goto f10_plays_82 ?_
      exact ih (y3 + z1.1) (y4 + 1) z2 _ hr hk
set_option maxHeartbeats 4000000 in
set_option maxRecDepth 100000 in
theorem w10_plays (X : Nat × (Nat → Int32)) (I : mI) (s : Nat) (x0 : Int32) (x1 : Int32) (Q : mQ) {res : Int32 × mI} (hr : r10_plays I x0 x1 = some res) (hQ : Q (some (.int res.1)) NN KK res.2 (PP s)) : mV X m10_plays 6 0 0 0 [.ref 119, .int x0, .int x1, mX0, mX0, mX0, mX0] [] NN KK I (PP s) Q := by
  unfold r10_plays at hr
  refine mV_push f10_plays_0 ?_
  refine mV_istore (L' := [.ref 119, .int x0, .int x1, .int 0, mX0, mX0, mX0]) f10_plays_1 (by decide) rfl rfl ?_
  refine mV_push f10_plays_2 ?_
  refine mV_istore (L' := [.ref 119, .int x0, .int x1, .int 0, .int 0, mX0, mX0]) f10_plays_3 (by decide) rfl rfl ?_
  obtain ⟨z0, hz0, hr⟩ := mBind hr
  refine t10_plays_5 X Q s x0 x1 FU 0 0 I _ hz0 ?_
  refine mV_aload f10_plays_85 rfl ?_
  refine mV_getP f10_plays_86 (by decide) kk_119 rfl (pp_119_1 _) ?_
  refine mV_push f10_plays_89 ?_
  refine mV_iload f10_plays_91 rfl ?_
  refine mV_iadd f10_plays_92 ?_
  refine mV_aload f10_plays_93 rfl ?_
  refine mV_getP f10_plays_94 (by decide) kk_119 rfl (pp_119_1 _) ?_
  refine mV_push f10_plays_97 ?_
  refine mV_iload f10_plays_99 rfl ?_
  refine mV_iadd f10_plays_100 ?_
  obtain ⟨z1, hz1, hr⟩ := mBind hr
  refine mV_ldO f10_plays_101 (by decide) kk_120 hz1 ?_
  refine mV_iload f10_plays_102 rfl ?_
  refine mV_iadd f10_plays_103 ?_
  obtain ⟨z2, hz2, hr⟩ := mBind hr
  refine mV_stO f10_plays_104 (by decide) kk_120 hz2 ?_
  refine mV_aload f10_plays_105 rfl ?_
  refine mV_getP f10_plays_106 (by decide) kk_119 rfl (pp_119_1 _) ?_
  refine mV_push f10_plays_109 ?_
  refine mV_iload f10_plays_111 rfl ?_
  refine mV_iadd f10_plays_112 ?_
  refine mV_aload f10_plays_113 rfl ?_
  refine mV_getP f10_plays_114 (by decide) kk_119 rfl (pp_119_1 _) ?_
  refine mV_push f10_plays_117 ?_
  refine mV_iload f10_plays_119 rfl ?_
  refine mV_iadd f10_plays_120 ?_
  obtain ⟨z3, hz3, hr⟩ := mBind hr
  refine mV_ldO f10_plays_121 (by decide) kk_120 hz3 ?_
  refine mV_iload f10_plays_122 rfl ?_
  refine mV_iadd f10_plays_123 ?_
  obtain ⟨z4, hz4, hr⟩ := mBind hr
  refine mV_stO f10_plays_124 (by decide) kk_120 hz4 ?_
  refine mV_aload f10_plays_125 rfl ?_
  refine mV_getP f10_plays_126 (by decide) kk_119 rfl (pp_119_1 _) ?_
  refine mV_push f10_plays_129 ?_
  refine mV_aload f10_plays_131 rfl ?_
  refine mV_getP f10_plays_132 (by decide) kk_119 rfl (pp_119_1 _) ?_
  refine mV_push f10_plays_135 ?_
  refine mV_ld (z4 120 7) 7 f10_plays_137 (by decide) kk_120 (by decide) rfl ?_
  refine mV_aload f10_plays_138 rfl ?_
  refine mV_getP f10_plays_139 (by decide) kk_119 rfl (pp_119_8 _) ?_
  refine mV_iload f10_plays_142 rfl ?_
  obtain ⟨z5, hz5, hr⟩ := mBind hr
  refine mV_ldO f10_plays_143 (by decide) kk_123 hz5 ?_
  refine mV_iadd f10_plays_144 ?_
  refine mV_sto 7 f10_plays_145 (by decide) kk_120 (by decide) ?_
  refine mV_aload f10_plays_146 rfl ?_
  refine mV_getP f10_plays_147 (by decide) kk_119 rfl (pp_119_1 _) ?_
  refine mV_push f10_plays_150 ?_
  refine mV_iload f10_plays_152 rfl ?_
  refine mV_iadd f10_plays_153 ?_
  refine mV_aload f10_plays_154 rfl ?_
  refine mV_getP f10_plays_155 (by decide) kk_119 rfl (pp_119_1 _) ?_
  refine mV_push f10_plays_158 ?_
  refine mV_iload f10_plays_160 rfl ?_
  refine mV_iadd f10_plays_161 ?_
  obtain ⟨z6, hz6, hr⟩ := mBind hr
  refine mV_ldO f10_plays_162 (by decide) kk_120 hz6 ?_
  refine mV_push f10_plays_163 ?_
  refine mV_iadd f10_plays_164 ?_
  obtain ⟨z7, hz7, hr⟩ := mBind hr
  refine mV_stO f10_plays_165 (by decide) kk_120 hz7 ?_
  refine mV_aload f10_plays_166 rfl ?_
  refine mV_push f10_plays_167 ?_
  refine mV_iload f10_plays_168 rfl ?_
  refine mV_iload f10_plays_169 rfl ?_
  obtain ⟨z8, hz8, hr⟩ := mBind hr
  refine mV_cV f10_plays_170 tg_m10_notes mCls10 (by decide) kk_119 (mC_deep (c10_notes X z7 s 0 x1 z0.1 hz8) (by decide)) rfl rfl (Nat.le_of_ble_eq_true rfl) ?_
  refine mV_iload f10_plays_173 rfl ?_
  have hr := Option.some.inj hr; subst hr
  exact mV_iret rfl rfl f10_plays_174 hQ
theorem c10_plays (X : Nat × (Nat → Int32)) (I : mI) (s : Nat) (x0 : Int32) (x1 : Int32) {res : Int32 × mI} (hr : r10_plays I x0 x1 = some res) : mC X m10_plays 6 0 0 [.ref 119, .int x0, .int x1] NN KK I (PP s) (mRet (some (.int res.1)) NN KK res.2 (PP s)) :=
  mC_of (L0 := [.ref 119, .int x0, .int x1, mX0, mX0, mX0, mX0]) rfl (Nat.le_of_ble_eq_true rfl) (w10_plays X I s x0 x1 _ hr (mRet_ok _ _ _ _ _))
def r10_salted (I : mI) (x0 : Int32) : Option (mI) := some (mW I 120 4 (r10_lesser 9999 (I 120 4 + (x0 / 4))))
set_option maxHeartbeats 4000000 in
set_option maxRecDepth 100000 in
theorem w10_salted (X : Nat × (Nat → Int32)) (I : mI) (s : Nat) (x0 : Int32) (Q : mQ) {res : mI} (hr : r10_salted I x0 = some res) (hQ : Q none NN KK res (PP s)) : mV X m10_salted 1 0 0 0 [.ref 119, .int x0] [] NN KK I (PP s) Q := by
  unfold r10_salted at hr
  refine mV_aload f10_salted_0 rfl ?_
  refine mV_getP f10_salted_1 (by decide) kk_119 rfl (pp_119_1 _) ?_
  refine mV_push f10_salted_4 ?_
  refine mV_aload f10_salted_5 rfl ?_
  refine mV_push f10_salted_6 ?_
  refine mV_aload f10_salted_9 rfl ?_
  refine mV_getP f10_salted_10 (by decide) kk_119 rfl (pp_119_1 _) ?_
  refine mV_push f10_salted_13 ?_
  refine mV_ld (I 120 4) 4 f10_salted_14 (by decide) kk_120 (by decide) rfl ?_
  refine mV_iload f10_salted_15 rfl ?_
  refine mV_push f10_salted_16 ?_
  refine mV_idiv f10_salted_17 (by decide) ?_
  refine mV_iadd f10_salted_18 ?_
  refine mV_cV f10_salted_19 tg_m10_lesser mCls10 (by decide) kk_119 (mC_deep (c10_lesser X I s 9999 (I 120 4 + (x0 / 4)) rfl) (by decide)) rfl rfl (Nat.le_of_ble_eq_true rfl) ?_
  refine mV_sto 4 f10_salted_22 (by decide) kk_120 (by decide) ?_
  have hr := Option.some.inj hr; subst hr
  exact mV_vret rfl f10_salted_23 hQ
theorem c10_salted (X : Nat × (Nat → Int32)) (I : mI) (s : Nat) (x0 : Int32) {res : mI} (hr : r10_salted I x0 = some res) : mC X m10_salted 1 0 0 [.ref 119, .int x0] NN KK I (PP s) (mRet none NN KK res (PP s)) :=
  mC_of (L0 := [.ref 119, .int x0]) rfl (Nat.le_of_ble_eq_true rfl) (w10_salted X I s x0 _ hr (mRet_ok _ _ _ _ _))

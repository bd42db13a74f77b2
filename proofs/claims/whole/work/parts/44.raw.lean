def l10_image_35 : Nat → Int32 → mI → Option (mI)
  | 0, _, _ => none
  | f + 1, y2, I => if (47 : Int32) ≤ (y2 : Int32) then some I else (mLd I 120 47 y2).bind fun z0 => (r10_keeps I z0).bind fun z1 => (mSto z1.2 120 47 y2 z1.1).bind fun z2 => l10_image_35 f (y2 + 1) z2
def l10_image_73 : Nat → Int32 → mI → Option (mI)
  | 0, _, _ => none
  | f + 1, y2, I => if (600 : Int32) ≤ (y2 : Int32) then some I else (mLd I 128 600 y2).bind fun z0 => (r10_keeps I z0).bind fun z1 => (mSto z1.2 128 600 y2 z1.1).bind fun z2 => l10_image_73 f (y2 + 1) z2
def r10_image (I : mI) (x0 : Int32) : Option (Int32 × mI) := if (x0 : Int32) = (0 : Int32) then if (I 119 59 : Int32) = (0 : Int32) then some (0, (mW I 119 0 0)) else (mBoO x0).bind fun z7 => (l10_image_35 FU 0 (mW (mW (mW (mW I 119 0 0) 119 58 x0) 119 59 1) 119 60 0)).bind fun z8 => (r10_keepsMany z8).bind fun z9 => (r10_keepsTold z9).bind fun z10 => (l10_image_73 FU 0 z10).bind fun z11 => (r10_keepsLaw z11).bind fun z12 => (if (x0 : Int32) = (0 : Int32) then some (mW z12 119 3 0) else some z12 : Option (mI)).bind fun z13 => some (1, z13) else (mBoO x0).bind fun z0 => (l10_image_35 FU 0 (mW (mW (mW (mW I 119 0 0) 119 58 x0) 119 59 1) 119 60 0)).bind fun z1 => (r10_keepsMany z1).bind fun z2 => (r10_keepsTold z2).bind fun z3 => (l10_image_73 FU 0 z3).bind fun z4 => (r10_keepsLaw z4).bind fun z5 => (if (x0 : Int32) = (0 : Int32) then some (mW z5 119 3 0) else some z5 : Option (mI)).bind fun z6 => some (1, z6)
set_option maxHeartbeats 4000000 in
set_option maxRecDepth 100000 in
theorem t10_image_35 (X : Nat × (Nat → Int32)) (Q : mQ) (s : Nat) (k1 : Int32) : ∀ (f : Nat) (y2 : Int32) (I : mI) (z : mI), l10_image_35 f y2 I = some z → mV X m10_image 2 0 0 63 [.ref 119, .int k1, mX0] [] NN KK z (PP s) Q → mV X m10_image 2 0 0 35 [.ref 119, .int k1, .int y2] [] NN KK I (PP s) Q := by
  intro f
  induction f with
  | zero => intro y2 I z hr hk; cases hr
  | succ f ih =>
    intro y2 I z hr hk
    unfold l10_image_35 at hr
    refine mV_iload f10_image_35 rfl ?_
    refine mV_push f10_image_36 ?_
    refine mV_icmp_ge f10_image_38 (fun h0 => ?_) (fun h0 => ?_)
    · rw [if_pos h0] at hr
      have hr := Option.some.inj hr; subst hr
      refine mV_drop (L' := [.ref 119, .int k1, mX0]) (mSub_k (mSub_k (mSub_x mSub_n))) ?_
      exact hk
    · rw [if_neg h0] at hr
      refine mV_aload f10_image_41 rfl ?_
      refine mV_getP f10_image_42 (by decide) kk_119 rfl (pp_119_1 _) ?_
      refine mV_iload f10_image_45 rfl ?_
      refine mV_aload f10_image_46 rfl ?_
      refine mV_aload f10_image_47 rfl ?_
      refine mV_getP f10_image_48 (by decide) kk_119 rfl (pp_119_1 _) ?_
      refine mV_iload f10_image_51 rfl ?_
      obtain ⟨z0, hz0, hr⟩ := mBind hr
      refine mV_ldO f10_image_52 (by decide) kk_120 hz0 ?_
      obtain ⟨z1, hz1, hr⟩ := mBind hr
      refine mV_cV f10_image_53 tg_m10_keeps mCls10 (by decide) kk_119 (mC_deep (c10_keeps X I s z0 hz1) (by decide)) rfl rfl (Nat.le_of_ble_eq_true rfl) ?_
      obtain ⟨z2, hz2, hr⟩ := mBind hr
      refine mV_stO f10_image_56 (by decide) kk_120 hz2 ?_
      refine mV_iinc (y := (y2 + 1)) (L' := [.ref 119, .int k1, .int (y2 + 1)]) f10_image_57 rfl rfl (by decide) rfl rfl ?_
      refine mV_goto f10_image_60 ?_
      exact ih (y2 + 1) z2 _ hr hk
set_option maxHeartbeats 4000000 in
set_option maxRecDepth 100000 in
theorem t10_image_73 (X : Nat × (Nat → Int32)) (Q : mQ) (s : Nat) (k1 : Int32) : ∀ (f : Nat) (y2 : Int32) (I : mI) (z : mI), l10_image_73 f y2 I = some z → mV X m10_image 2 0 0 102 [.ref 119, .int k1, mX0] [] NN KK z (PP s) Q → mV X m10_image 2 0 0 73 [.ref 119, .int k1, .int y2] [] NN KK I (PP s) Q := by
  intro f
  induction f with
  | zero => intro y2 I z hr hk; cases hr
  | succ f ih =>
    intro y2 I z hr hk
    unfold l10_image_73 at hr
    refine mV_iload f10_image_73 rfl ?_
    refine mV_push f10_image_74 ?_
    refine mV_icmp_ge f10_image_77 (fun h0 => ?_) (fun h0 => ?_)
    · rw [if_pos h0] at hr
      have hr := Option.some.inj hr; subst hr
      refine mV_drop (L' := [.ref 119, .int k1, mX0]) (mSub_k (mSub_k (mSub_x mSub_n))) ?_
      exact hk
    · rw [if_neg h0] at hr
      refine mV_aload f10_image_80 rfl ?_
      refine mV_getP f10_image_81 (by decide) kk_119 rfl (pp_119_13 _) ?_
      refine mV_iload f10_image_84 rfl ?_
      refine mV_aload f10_image_85 rfl ?_
      refine mV_aload f10_image_86 rfl ?_
      refine mV_getP f10_image_87 (by decide) kk_119 rfl (pp_119_13 _) ?_
      refine mV_iload f10_image_90 rfl ?_
      obtain ⟨z0, hz0, hr⟩ := mBind hr
      refine mV_ldO f10_image_91 (by decide) kk_128 hz0 ?_
      obtain ⟨z1, hz1, hr⟩ := mBind hr
      refine mV_cV f10_image_92 tg_m10_keeps mCls10 (by decide) kk_119 (mC_deep (c10_keeps X I s z0 hz1) (by decide)) rfl rfl (Nat.le_of_ble_eq_true rfl) ?_
      obtain ⟨z2, hz2, hr⟩ := mBind hr
      refine mV_stO f10_image_95 (by decide) kk_128 hz2 ?_
      refine mV_iinc (y := (y2 + 1)) (L' := [.ref 119, .int k1, .int (y2 + 1)]) f10_image_96 rfl rfl (by decide) rfl rfl ?_
      refine mV_goto f10_image_99 ?_
      exact ih (y2 + 1) z2 _ hr hk
set_option maxHeartbeats 4000000 in
set_option maxRecDepth 100000 in
theorem w10_image (X : Nat × (Nat → Int32)) (I : mI) (s : Nat) (x0 : Int32) (Q : mQ) {res : Int32 × mI} (hr : r10_image I x0 = some res) (hQ : Q (some (.int res.1)) NN KK res.2 (PP s)) : mV X m10_image 2 0 0 0 [.ref 119, .int x0, mX0] [] NN KK I (PP s) Q := by
  unfold r10_image at hr
  refine mV_aload f10_image_0 rfl ?_
  refine mV_push f10_image_1 ?_
  refine mV_putI f10_image_2 (by decide) kk_119 rfl rfl ?_
  refine mV_iload f10_image_5 rfl ?_
  refine mV_if_ne f10_image_6 (fun h0 => ?_) (fun h0 => ?_)
  · rw [if_neg h0] at hr
    refine mV_aload f10_image_18 rfl ?_
    refine mV_iload f10_image_19 rfl ?_
    obtain ⟨z0, hz0, hr⟩ := mBind hr
    refine mV_putB f10_image_20 (by decide) kk_119 rfl rfl hz0 ?_
    refine mV_aload f10_image_23 rfl ?_
    refine mV_push f10_image_24 ?_
    refine mV_putI f10_image_25 (by decide) kk_119 rfl rfl ?_
    refine mV_aload f10_image_28 rfl ?_
    refine mV_push f10_image_29 ?_
    refine mV_putI f10_image_30 (by decide) kk_119 rfl rfl ?_
    refine mV_push f10_image_33 ?_
    refine mV_istore (L' := [.ref 119, .int x0, .int 0]) f10_image_34 (by decide) rfl rfl ?_
    obtain ⟨z1, hz1, hr⟩ := mBind hr
    refine t10_image_35 X Q s x0 FU 0 (mW (mW (mW (mW I 119 0 0) 119 58 x0) 119 59 1) 119 60 0) _ hz1 ?_
    refine mV_aload f10_image_63 rfl ?_
    obtain ⟨z2, hz2, hr⟩ := mBind hr
    refine mV_cV f10_image_64 tg_m10_keepsMany mCls10 (by decide) kk_119 (mC_deep (c10_keepsMany X z1 s hz2) (by decide)) rfl rfl (Nat.le_of_ble_eq_true rfl) ?_
    refine mV_aload f10_image_67 rfl ?_
    obtain ⟨z3, hz3, hr⟩ := mBind hr
    refine mV_cV f10_image_68 tg_m10_keepsTold mCls10 (by decide) kk_119 (mC_deep (c10_keepsTold X z2 s hz3) (by decide)) rfl rfl (Nat.le_of_ble_eq_true rfl) ?_
    refine mV_push f10_image_71 ?_
    refine mV_istore (L' := [.ref 119, .int x0, .int 0]) f10_image_72 (by decide) rfl rfl ?_
    obtain ⟨z4, hz4, hr⟩ := mBind hr
    refine t10_image_73 X Q s x0 FU 0 z3 _ hz4 ?_
    refine mV_aload f10_image_102 rfl ?_
    obtain ⟨z5, hz5, hr⟩ := mBind hr
    refine mV_cV f10_image_103 tg_m10_keepsLaw mCls10 (by decide) kk_119 (mC_deep (c10_keepsLaw X z4 s hz5) (by decide)) rfl rfl (Nat.le_of_ble_eq_true rfl) ?_
    refine mV_iload f10_image_106 rfl ?_
    obtain ⟨z6, hz6, hr⟩ := mBind hr
    have keyz6 : mV X m10_image 2 0 0 115 [.ref 119, mX0, mX0] [] NN KK z6 (PP s) Q := by
      refine mV_push f10_image_115 ?_
      have hr := Option.some.inj hr; subst hr
      exact mV_iret rfl rfl f10_image_116 hQ
    clear hr
    have hr := hz6
    clear hz6
    refine mV_if_ne f10_image_107 (fun h1 => ?_) (fun h1 => ?_)
    · rw [if_neg h1] at hr
      have hr := Option.some.inj hr; subst hr
      refine mV_drop (L' := [.ref 119, mX0, mX0]) (mSub_k (mSub_x (mSub_x mSub_n))) ?_
      exact keyz6
    · rw [if_pos h1] at hr
      refine mV_aload f10_image_110 rfl ?_
      refine mV_push f10_image_111 ?_
      refine mV_putI f10_image_112 (by decide) kk_119 rfl rfl ?_
      have hr := Option.some.inj hr; subst hr
      refine mV_drop (L' := [.ref 119, mX0, mX0]) (mSub_k (mSub_x (mSub_x mSub_n))) ?_
      exact keyz6
  · rw [if_pos h0] at hr
    refine mV_aload f10_image_9 rfl ?_
    refine mV_gI (I 119 59) f10_image_10 (by decide) kk_119 rfl rfl ?_
    refine mV_if_ne f10_image_13 (fun h2 => ?_) (fun h2 => ?_)
    · rw [if_neg h2] at hr
      refine mV_aload f10_image_18 rfl ?_
      refine mV_iload f10_image_19 rfl ?_
      obtain ⟨z7, hz7, hr⟩ := mBind hr
      refine mV_putB f10_image_20 (by decide) kk_119 rfl rfl hz7 ?_
      refine mV_aload f10_image_23 rfl ?_
      refine mV_push f10_image_24 ?_
      refine mV_putI f10_image_25 (by decide) kk_119 rfl rfl ?_
      refine mV_aload f10_image_28 rfl ?_
      refine mV_push f10_image_29 ?_
      refine mV_putI f10_image_30 (by decide) kk_119 rfl rfl ?_
      refine mV_push f10_image_33 ?_
      refine mV_istore (L' := [.ref 119, .int x0, .int 0]) f10_image_34 (by decide) rfl rfl ?_
      obtain ⟨z8, hz8, hr⟩ := mBind hr
      refine t10_image_35 X Q s x0 FU 0 (mW (mW (mW (mW I 119 0 0) 119 58 x0) 119 59 1) 119 60 0) _ hz8 ?_
      refine mV_aload f10_image_63 rfl ?_
      obtain ⟨z9, hz9, hr⟩ := mBind hr
      refine mV_cV f10_image_64 tg_m10_keepsMany mCls10 (by decide) kk_119 (mC_deep (c10_keepsMany X z8 s hz9) (by decide)) rfl rfl (Nat.le_of_ble_eq_true rfl) ?_
      refine mV_aload f10_image_67 rfl ?_
      obtain ⟨z10, hz10, hr⟩ := mBind hr
      refine mV_cV f10_image_68 tg_m10_keepsTold mCls10 (by decide) kk_119 (mC_deep (c10_keepsTold X z9 s hz10) (by decide)) rfl rfl (Nat.le_of_ble_eq_true rfl) ?_
      refine mV_push f10_image_71 ?_
      refine mV_istore (L' := [.ref 119, .int x0, .int 0]) f10_image_72 (by decide) rfl rfl ?_
      obtain ⟨z11, hz11, hr⟩ := mBind hr
      refine t10_image_73 X Q s x0 FU 0 z10 _ hz11 ?_
      refine mV_aload f10_image_102 rfl ?_
      obtain ⟨z12, hz12, hr⟩ := mBind hr
      refine mV_cV f10_image_103 tg_m10_keepsLaw mCls10 (by decide) kk_119 (mC_deep (c10_keepsLaw X z11 s hz12) (by decide)) rfl rfl (Nat.le_of_ble_eq_true rfl) ?_
      refine mV_iload f10_image_106 rfl ?_
      obtain ⟨z13, hz13, hr⟩ := mBind hr
      have keyz13 : mV X m10_image 2 0 0 115 [.ref 119, mX0, mX0] [] NN KK z13 (PP s) Q := by
        refine mV_push f10_image_115 ?_
        have hr := Option.some.inj hr; subst hr
        exact mV_iret rfl rfl f10_image_116 hQ
      clear hr
      have hr := hz13
      clear hz13
      refine mV_if_ne f10_image_107 (fun h3 => ?_) (fun h3 => ?_)
      · rw [if_neg h3] at hr
        have hr := Option.some.inj hr; subst hr
        refine mV_drop (L' := [.ref 119, mX0, mX0]) (mSub_k (mSub_x (mSub_x mSub_n))) ?_
        exact keyz13
      · rw [if_pos h3] at hr
        refine mV_aload f10_image_110 rfl ?_
        refine mV_push f10_image_111 ?_
        refine mV_putI f10_image_112 (by decide) kk_119 rfl rfl ?_
        have hr := Option.some.inj hr; subst hr
        refine mV_drop (L' := [.ref 119, mX0, mX0]) (mSub_k (mSub_x (mSub_x mSub_n))) ?_
        exact keyz13
    · rw [if_pos h2] at hr
      refine mV_push f10_image_16 ?_
      have hr := Option.some.inj hr; subst hr
      exact mV_iret rfl rfl f10_image_17 hQ
theorem c10_image (X : Nat × (Nat → Int32)) (I : mI) (s : Nat) (x0 : Int32) {res : Int32 × mI} (hr : r10_image I x0 = some res) : mC X m10_image 2 0 0 [.ref 119, .int x0] NN KK I (PP s) (mRet (some (.int res.1)) NN KK res.2 (PP s)) :=
  mC_of (L0 := [.ref 119, .int x0, mX0]) rfl (Nat.le_of_ble_eq_true rfl) (w10_image X I s x0 _ hr (mRet_ok _ _ _ _ _))
def r10_look (I : mI) (x0 : Int32) : Option (Int32 × mI) := if (x0 : Int32) = (0 : Int32) then some (I 119 6, (mW I 119 0 0)) else if (x0 : Int32) = (1 : Int32) then some (I 119 7, (mW I 119 0 0)) else if (x0 : Int32) = (2 : Int32) then some (I 120 3, (mW I 119 0 0)) else if (x0 : Int32) = (3 : Int32) then some (I 120 4, (mW I 119 0 0)) else if (x0 : Int32) = (4 : Int32) then some ((r10_dry (mW I 119 0 0)), (mW I 119 0 0)) else if (x0 : Int32) = (5 : Int32) then some (I 120 6, (mW I 119 0 0)) else if (x0 : Int32) = (6 : Int32) then some (I 120 7, (mW I 119 0 0)) else if (x0 : Int32) = (7 : Int32) then some (I 120 8, (mW I 119 0 0)) else if (x0 : Int32) = (8 : Int32) then some (I 120 0, (mW I 119 0 0)) else if (x0 : Int32) = (9 : Int32) then some (I 120 2, (mW I 119 0 0)) else if (x0 : Int32) = (10 : Int32) then some (I 120 1, (mW I 119 0 0)) else if (x0 : Int32) = (11 : Int32) then some (I 131 0, (mW I 119 0 0)) else if (x0 : Int32) = (12 : Int32) then some (I 119 37, (mW I 119 0 0)) else if (x0 : Int32) = (13 : Int32) then some (I 119 39, (mW I 119 0 0)) else if (x0 : Int32) = (14 : Int32) then some (I 119 41, (mW I 119 0 0)) else (if (x0 : Int32) = (15 : Int32) then some (I 119 3) else some (-1) : Option (Int32)).bind fun z0 => some (z0, (mW I 119 0 0))
set_option maxHeartbeats 4000000 in
set_option maxRecDepth 100000 in
theorem w10_look (X : Nat × (Nat → Int32)) (I : mI) (s : Nat) (x0 : Int32) (Q : mQ) {res : Int32 × mI} (hr : r10_look I x0 = some res) (hQ : Q (some (.int res.1)) NN KK res.2 (PP s)) : mV X m10_look 1 0 0 0 [.ref 119, .int x0] [] NN KK I (PP s) Q := by
  unfold r10_look at hr
  refine mV_aload f10_look_0 rfl ?_
  refine mV_push f10_look_1 ?_
  refine mV_putI f10_look_2 (by decide) kk_119 rfl rfl ?_
  refine mV_iload f10_look_5 rfl ?_
  refine mV_if_ne f10_look_6 (fun h0 => ?_) (fun h0 => ?_)
  · rw [if_neg h0] at hr
    refine mV_iload f10_look_14 rfl ?_
    refine mV_push f10_look_15 ?_
    refine mV_icmp_ne f10_look_16 (fun h1 => ?_) (fun h1 => ?_)
    · rw [if_neg h1] at hr
      refine mV_iload f10_look_24 rfl ?_
      refine mV_push f10_look_25 ?_
      refine mV_icmp_ne f10_look_26 (fun h2 => ?_) (fun h2 => ?_)
      · rw [if_neg h2] at hr
        refine mV_iload f10_look_36 rfl ?_
        refine mV_push f10_look_37 ?_
        refine mV_icmp_ne f10_look_38 (fun h3 => ?_) (fun h3 => ?_)
        · rw [if_neg h3] at hr
          refine mV_iload f10_look_48 rfl ?_
          refine mV_push f10_look_49 ?_
          refine mV_icmp_ne f10_look_50 (fun h4 => ?_) (fun h4 => ?_)
          · rw [if_neg h4] at hr
            refine mV_iload f10_look_58 rfl ?_
            refine mV_push f10_look_59 ?_
            refine mV_icmp_ne f10_look_60 (fun h5 => ?_) (fun h5 => ?_)
            · rw [if_neg h5] at hr
              refine mV_iload f10_look_71 rfl ?_
              refine mV_push f10_look_72 ?_
              refine mV_icmp_ne f10_look_74 (fun h6 => ?_) (fun h6 => ?_)
              · rw [if_neg h6] at hr
                refine mV_iload f10_look_85 rfl ?_
                refine mV_push f10_look_86 ?_
                refine mV_icmp_ne f10_look_88 (fun h7 => ?_) (fun h7 => ?_)
                · rw [if_neg h7] at hr
                  refine mV_iload f10_look_99 rfl ?_
                  refine mV_push f10_look_100 ?_
                  refine mV_icmp_ne f10_look_102 (fun h8 => ?_) (fun h8 => ?_)
                  · rw [if_neg h8] at hr
                    refine mV_iload f10_look_112 rfl ?_
                    refine mV_push f10_look_113 ?_
                    refine mV_icmp_ne f10_look_115 (fun h9 => ?_) (fun h9 => ?_)
                    · rw [if_neg h9] at hr
                      refine mV_iload f10_look_125 rfl ?_
                      refine mV_push f10_look_126 ?_
                      refine mV_icmp_ne f10_look_128 (fun h10 => ?_) (fun h10 => ?_)
                      · rw [if_neg h10] at hr
                        refine mV_iload f10_look_138 rfl ?_
                        refine mV_push f10_look_139 ?_
                        refine mV_icmp_ne f10_look_141 (fun h11 => ?_) (fun h11 => ?_)
                        · rw [if_neg h11] at hr
                          refine mV_iload f10_look_151 rfl ?_
                          refine mV_push f10_look_152 ?_
                          refine mV_icmp_ne f10_look_154 (fun h12 => ?_) (fun h12 => ?_)
                          · rw [if_neg h12] at hr
                            refine mV_iload f10_look_162 rfl ?_
                            refine mV_push f10_look_163 ?_
                            refine mV_icmp_ne f10_look_165 (fun h13 => ?_) (fun h13 => ?_)
                            · rw [if_neg h13] at hr
                              refine mV_iload f10_look_173 rfl ?_
                              refine mV_push f10_look_174 ?_
                              refine mV_icmp_ne f10_look_176 (fun h14 => ?_) (fun h14 => ?_)
                              · rw [if_neg h14] at hr
                                refine mV_iload f10_look_184 rfl ?_
                                refine mV_push f10_look_185 ?_
                                obtain ⟨z0, hz0, hr⟩ := mBind hr
                                have keyz0 : mV X m10_look 1 0 0 198 [.ref 119, mX0] [.int z0] NN KK (mW I 119 0 0) (PP s) Q := by
                                  have hr := Option.some.inj hr; subst hr
                                  exact mV_iret rfl rfl f10_look_198 hQ
                                clear hr
                                have hr := hz0
                                clear hz0
                                refine mV_icmp_ne f10_look_187 (fun h15 => ?_) (fun h15 => ?_)
                                · rw [if_neg h15] at hr
                                  refine mV_push f10_look_197 ?_
                                  have hr := Option.some.inj hr; subst hr
                                  refine mV_drop (L' := [.ref 119, mX0]) (mSub_k (mSub_x mSub_n)) ?_
                                  exact keyz0
                                · rw [if_pos h15] at hr
                                  refine mV_aload f10_look_190 rfl ?_
                                  refine mV_gI (I 119 3) f10_look_191 (by decide) kk_119 rfl rfl ?_
                                  refine mV_goto f10_look_194 ?_
                                  have hr := Option.some.inj hr; subst hr
                                  refine mV_drop (L' := [.ref 119, mX0]) (mSub_k (mSub_x mSub_n)) ?_
                                  exact keyz0
                              · rw [if_pos h14] at hr
                                refine mV_aload f10_look_179 rfl ?_
                                refine mV_gI (I 119 41) f10_look_180 (by decide) kk_119 rfl rfl ?_
                                have hr := Option.some.inj hr; subst hr
                                exact mV_iret rfl rfl f10_look_183 hQ
                            · rw [if_pos h13] at hr
                              refine mV_aload f10_look_168 rfl ?_
                              refine mV_gI (I 119 39) f10_look_169 (by decide) kk_119 rfl rfl ?_
                              have hr := Option.some.inj hr; subst hr
                              exact mV_iret rfl rfl f10_look_172 hQ
                          · rw [if_pos h12] at hr
                            refine mV_aload f10_look_157 rfl ?_
                            refine mV_gI (I 119 37) f10_look_158 (by decide) kk_119 rfl rfl ?_
                            have hr := Option.some.inj hr; subst hr
                            exact mV_iret rfl rfl f10_look_161 hQ
                        · rw [if_pos h11] at hr
                          refine mV_aload f10_look_144 rfl ?_
                          refine mV_getP f10_look_145 (by decide) kk_119 rfl (pp_119_21 _) ?_
                          refine mV_push f10_look_148 ?_
                          refine mV_ld (I 131 0) 0 f10_look_149 (by decide) kk_131 (by decide) rfl ?_
                          have hr := Option.some.inj hr; subst hr
                          exact mV_iret rfl rfl f10_look_150 hQ
                      · rw [if_pos h10] at hr
                        refine mV_aload f10_look_131 rfl ?_
                        refine mV_getP f10_look_132 (by decide) kk_119 rfl (pp_119_1 _) ?_
                        refine mV_push f10_look_135 ?_
                        refine mV_ld (I 120 1) 1 f10_look_136 (by decide) kk_120 (by decide) rfl ?_
                        have hr := Option.some.inj hr; subst hr
                        exact mV_iret rfl rfl f10_look_137 hQ
                    · rw [if_pos h9] at hr
                      refine mV_aload f10_look_118 rfl ?_
                      refine mV_getP f10_look_119 (by decide) kk_119 rfl (pp_119_1 _) ?_
                      refine mV_push f10_look_122 ?_
                      refine mV_ld (I 120 2) 2 f10_look_123 (by decide) kk_120 (by decide) rfl ?_
                      have hr := Option.some.inj hr; subst hr
                      exact mV_iret rfl rfl f10_look_124 hQ
                  · rw [if_pos h8] at hr
                    refine mV_aload f10_look_105 rfl ?_
                    refine mV_getP f10_look_106 (by decide) kk_119 rfl (pp_119_1 _) ?_
                    refine mV_push f10_look_109 ?_
                    refine mV_ld (I 120 0) 0 f10_look_110 (by decide) kk_120 (by decide) rfl ?_
                    have hr := Option.some.inj hr; subst hr
                    exact mV_iret rfl rfl f10_look_111 hQ
                · rw [if_pos h7] at hr
                  refine mV_aload f10_look_91 rfl ?_
                  refine mV_getP f10_look_92 (by decide) kk_119 rfl (pp_119_1 _) ?_
                  refine mV_push f10_look_95 ?_
                  refine mV_ld (I 120 8) 8 f10_look_97 (by decide) kk_120 (by decide) rfl ?_
                  have hr := Option.some.inj hr; subst hr
                  exact mV_iret rfl rfl f10_look_98 hQ
              · rw [if_pos h6] at hr
                refine mV_aload f10_look_77 rfl ?_
                refine mV_getP f10_look_78 (by decide) kk_119 rfl (pp_119_1 _) ?_
                refine mV_push f10_look_81 ?_
                refine mV_ld (I 120 7) 7 f10_look_83 (by decide) kk_120 (by decide) rfl ?_
                have hr := Option.some.inj hr; subst hr
                exact mV_iret rfl rfl f10_look_84 hQ
            · rw [if_pos h5] at hr
              refine mV_aload f10_look_63 rfl ?_
              refine mV_getP f10_look_64 (by decide) kk_119 rfl (pp_119_1 _) ?_
              refine mV_push f10_look_67 ?_
              refine mV_ld (I 120 6) 6 f10_look_69 (by decide) kk_120 (by decide) rfl ?_
              have hr := Option.some.inj hr; subst hr
              exact mV_iret rfl rfl f10_look_70 hQ
          · rw [if_pos h4] at hr
            refine mV_aload f10_look_53 rfl ?_
            refine mV_cV f10_look_54 tg_m10_dry mCls10 (by decide) kk_119 (mC_deep (c10_dry X (mW I 119 0 0) s rfl) (by decide)) rfl rfl (Nat.le_of_ble_eq_true rfl) ?_
            have hr := Option.some.inj hr; subst hr
            exact mV_iret rfl rfl f10_look_57 hQ
        · rw [if_pos h3] at hr
          refine mV_aload f10_look_41 rfl ?_
          refine mV_getP f10_look_42 (by decide) kk_119 rfl (pp_119_1 _) ?_
          refine mV_push f10_look_45 ?_
          refine mV_ld (I 120 4) 4 f10_look_46 (by decide) kk_120 (by decide) rfl ?_
          have hr := Option.some.inj hr; subst hr
          exact mV_iret rfl rfl f10_look_47 hQ
      · rw [if_pos h2] at hr
        refine mV_aload f10_look_29 rfl ?_
        refine mV_getP f10_look_30 (by decide) kk_119 rfl (pp_119_1 _) ?_
        refine mV_push f10_look_33 ?_
        refine mV_ld (I 120 3) 3 f10_look_34 (by decide) kk_120 (by decide) rfl ?_
        have hr := Option.some.inj hr; subst hr
        exact mV_iret rfl rfl f10_look_35 hQ
    · rw [if_pos h1] at hr
      refine mV_aload f10_look_19 rfl ?_
      refine mV_gI (I 119 7) f10_look_20 (by decide) kk_119 rfl rfl ?_
      have hr := Option.some.inj hr; subst hr
      exact mV_iret rfl rfl f10_look_23 hQ
  · rw [if_pos h0] at hr
    refine mV_aload f10_look_9 rfl ?_
    refine mV_gI (I 119 6) f10_look_10 (by decide) kk_119 rfl rfl ?_
    have hr := Option.some.inj hr; subst hr
    exact mV_iret rfl rfl f10_look_13 hQ
theorem c10_look (X : Nat × (Nat → Int32)) (I : mI) (s : Nat) (x0 : Int32) {res : Int32 × mI} (hr : r10_look I x0 = some res) : mC X m10_look 1 0 0 [.ref 119, .int x0] NN KK I (PP s) (mRet (some (.int res.1)) NN KK res.2 (PP s)) :=
  mC_of (L0 := [.ref 119, .int x0]) rfl (Nat.le_of_ble_eq_true rfl) (w10_look X I s x0 _ hr (mRet_ok _ _ _ _ _))

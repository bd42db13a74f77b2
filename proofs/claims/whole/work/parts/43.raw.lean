def l10_playerFor_2 (k1 : Int32) (k2 : Int32) : Nat → Int32 → mI → Option ((Int32 × mI) ⊕ (mI))
  | 0, _, _ => none
  | f + 1, y3, I => if (I 119 7 : Int32) ≤ (y3 : Int32) then some (.inr I) else (mLd I 126 6 y3).bind fun z0 => (mLd I 125 12 k1).bind fun z1 => if (z0 : Int32) < (z1 : Int32) then l10_playerFor_2 k1 k2 f (y3 + 1) I else (mLd I 153 6 y3).bind fun z2 => if (z2 : Int32) = (0 : Int32) then l10_playerFor_2 k1 k2 f (y3 + 1) I else (mLd I 153 6 y3).bind fun z3 => (mSto I 153 6 y3 (z3 - 1)).bind fun z4 => (r10_mostHad z4 (k1 + 1)).bind fun z5 => if (z5 : Int32) = ((k2 - 1) : Int32) then some (.inl (y3, z4)) else (mLd z4 153 6 y3).bind fun z6 => (mSto z4 153 6 y3 (z6 + 1)).bind fun z7 => l10_playerFor_2 k1 k2 f (y3 + 1) z7
def r10_playerFor (I : mI) (x0 : Int32) (x1 : Int32) : Option (Int32 × mI) := (l10_playerFor_2 x0 x1 FU 0 I).bind fun z0 => match z0 with | .inl rz0 => some rz0 | .inr wz0 => some ((-1), wz0)
set_option maxHeartbeats 4000000 in
set_option maxRecDepth 100000 in
theorem t10_playerFor_2 (X : Nat × (Nat → Int32)) (Q : mQ) (s : Nat) (k1 : Int32) (k2 : Int32) : ∀ (f : Nat) (y3 : Int32) (I : mI) (z : (Int32 × mI) ⊕ (mI)), l10_playerFor_2 k1 k2 f y3 I = some z → (∀ res, z = .inl res → Q (some (.int res.1)) NN KK res.2 (PP s)) → (∀ w, z = .inr w → mV X m10_playerFor 2 0 0 86 [.ref 119, .int k1, .int k2, mX0] [] NN KK w (PP s) Q) → mV X m10_playerFor 2 0 0 2 [.ref 119, .int k1, .int k2, .int y3] [] NN KK I (PP s) Q := by
  intro f
  induction f with
  | zero => intro y3 I z hr hret hk; cases hr
  | succ f ih =>
    intro y3 I z hr hret hk
    unfold l10_playerFor_2 at hr
    refine mV_iload f10_playerFor_2 rfl ?_
    refine mV_aload f10_playerFor_3 rfl ?_
    refine mV_gI (I 119 7) f10_playerFor_4 (by decide) kk_119 rfl rfl ?_
    refine mV_icmp_ge f10_playerFor_7 (fun h0 => ?_) (fun h0 => ?_)
    · rw [if_pos h0] at hr
      have hr := Option.some.inj hr; subst hr
      refine mV_drop (L' := [.ref 119, .int k1, .int k2, mX0]) (mSub_k (mSub_k (mSub_k (mSub_x mSub_n)))) ?_
      exact hk _ rfl
    · rw [if_neg h0] at hr
      refine mV_aload f10_playerFor_10 rfl ?_
      refine mV_getP f10_playerFor_11 (by decide) kk_119 rfl (pp_119_11 _) ?_
      refine mV_iload f10_playerFor_14 rfl ?_
      obtain ⟨z0, hz0, hr⟩ := mBind hr
      refine mV_ldO f10_playerFor_15 (by decide) kk_126 hz0 ?_
      refine mV_aload f10_playerFor_16 rfl ?_
      refine mV_getP f10_playerFor_17 (by decide) kk_119 rfl (pp_119_10 _) ?_
      refine mV_iload f10_playerFor_20 rfl ?_
      obtain ⟨z1, hz1, hr⟩ := mBind hr
      refine mV_ldO f10_playerFor_21 (by decide) kk_125 hz1 ?_
      refine mV_icmp_lt f10_playerFor_22 (fun h1 => ?_) (fun h1 => ?_)
      · rw [if_pos h1] at hr
        refine mV_iinc (y := (y3 + 1)) (L' := [.ref 119, .int k1, .int k2, .int (y3 + 1)]) f10_playerFor_80 rfl rfl (by decide) rfl rfl ?_
        refine mV_goto f10_playerFor_83 ?_
        exact ih (y3 + 1) I _ hr hret hk
      · rw [if_neg h1] at hr
        refine mV_aload f10_playerFor_25 rfl ?_
        refine mV_getP f10_playerFor_26 (by decide) kk_119 rfl (pp_119_57 _) ?_
        refine mV_iload f10_playerFor_29 rfl ?_
        obtain ⟨z2, hz2, hr⟩ := mBind hr
        refine mV_ldO f10_playerFor_30 (by decide) kk_153 hz2 ?_
        refine mV_if_ne f10_playerFor_31 (fun h2 => ?_) (fun h2 => ?_)
        · rw [if_neg h2] at hr
          refine mV_aload f10_playerFor_37 rfl ?_
          refine mV_getP f10_playerFor_38 (by decide) kk_119 rfl (pp_119_57 _) ?_
          refine mV_iload f10_playerFor_41 rfl ?_
          refine mV_aload f10_playerFor_42 rfl ?_
          refine mV_getP f10_playerFor_43 (by decide) kk_119 rfl (pp_119_57 _) ?_
          refine mV_iload f10_playerFor_46 rfl ?_
          obtain ⟨z3, hz3, hr⟩ := mBind hr
          refine mV_ldO f10_playerFor_47 (by decide) kk_153 hz3 ?_
          refine mV_push f10_playerFor_48 ?_
          refine mV_isub f10_playerFor_49 ?_
          obtain ⟨z4, hz4, hr⟩ := mBind hr
          refine mV_stO f10_playerFor_50 (by decide) kk_153 hz4 ?_
          refine mV_aload f10_playerFor_51 rfl ?_
          refine mV_iload f10_playerFor_52 rfl ?_
          refine mV_push f10_playerFor_53 ?_
          refine mV_iadd f10_playerFor_54 ?_
          obtain ⟨z5, hz5, hr⟩ := mBind hr
          refine mV_cV f10_playerFor_55 tg_m10_mostHad mCls10 (by decide) kk_119 (mC_deep (c10_mostHad X z4 s (k1 + 1) hz5) (by decide)) rfl rfl (Nat.le_of_ble_eq_true rfl) ?_
          refine mV_iload f10_playerFor_58 rfl ?_
          refine mV_push f10_playerFor_59 ?_
          refine mV_isub f10_playerFor_60 ?_
          refine mV_icmp_ne f10_playerFor_61 (fun h3 => ?_) (fun h3 => ?_)
          · rw [if_neg h3] at hr
            refine mV_aload f10_playerFor_66 rfl ?_
            refine mV_getP f10_playerFor_67 (by decide) kk_119 rfl (pp_119_57 _) ?_
            refine mV_iload f10_playerFor_70 rfl ?_
            refine mV_aload f10_playerFor_71 rfl ?_
            refine mV_getP f10_playerFor_72 (by decide) kk_119 rfl (pp_119_57 _) ?_
            refine mV_iload f10_playerFor_75 rfl ?_
            obtain ⟨z6, hz6, hr⟩ := mBind hr
            refine mV_ldO f10_playerFor_76 (by decide) kk_153 hz6 ?_
            refine mV_push f10_playerFor_77 ?_
            refine mV_iadd f10_playerFor_78 ?_
            obtain ⟨z7, hz7, hr⟩ := mBind hr
            refine mV_stO f10_playerFor_79 (by decide) kk_153 hz7 ?_
            refine mV_iinc (y := (y3 + 1)) (L' := [.ref 119, .int k1, .int k2, .int (y3 + 1)]) f10_playerFor_80 rfl rfl (by decide) rfl rfl ?_
            refine mV_goto f10_playerFor_83 ?_
            exact ih (y3 + 1) z7 _ hr hret hk
          · rw [if_pos h3] at hr
            refine mV_iload f10_playerFor_64 rfl ?_
            have hr := Option.some.inj hr; subst hr; have hQ := hret _ rfl
            exact mV_iret rfl rfl f10_playerFor_65 hQ
        · rw [if_pos h2] at hr
          refine mV_goto f10_playerFor_34 ?_
          refine mV_iinc (y := (y3 + 1)) (L' := [.ref 119, .int k1, .int k2, .int (y3 + 1)]) f10_playerFor_80 rfl rfl (by decide) rfl rfl ?_
          refine mV_goto f10_playerFor_83 ?_
          exact ih (y3 + 1) I _ hr hret hk
set_option maxHeartbeats 4000000 in
set_option maxRecDepth 100000 in
theorem w10_playerFor (X : Nat × (Nat → Int32)) (I : mI) (s : Nat) (x0 : Int32) (x1 : Int32) (Q : mQ) {res : Int32 × mI} (hr : r10_playerFor I x0 x1 = some res) (hQ : Q (some (.int res.1)) NN KK res.2 (PP s)) : mV X m10_playerFor 2 0 0 0 [.ref 119, .int x0, .int x1, mX0] [] NN KK I (PP s) Q := by
  unfold r10_playerFor at hr
  refine mV_push f10_playerFor_0 ?_
  refine mV_istore (L' := [.ref 119, .int x0, .int x1, .int 0]) f10_playerFor_1 (by decide) rfl rfl ?_
  obtain ⟨z0, hz0, hr⟩ := mBind hr
  refine t10_playerFor_2 X Q s x0 x1 FU 0 I _ hz0 (fun res ez0 => ?_) (fun wz0 ez0 => ?_)
  · rw [ez0] at hr; have hr := Option.some.inj hr; subst hr; exact hQ
  rw [ez0] at hr
  dsimp only at hr
  refine mV_push f10_playerFor_86 ?_
  have hr := Option.some.inj hr; subst hr
  exact mV_iret rfl rfl f10_playerFor_87 hQ
theorem c10_playerFor (X : Nat × (Nat → Int32)) (I : mI) (s : Nat) (x0 : Int32) (x1 : Int32) {res : Int32 × mI} (hr : r10_playerFor I x0 x1 = some res) : mC X m10_playerFor 2 0 0 [.ref 119, .int x0, .int x1] NN KK I (PP s) (mRet (some (.int res.1)) NN KK res.2 (PP s)) :=
  mC_of (L0 := [.ref 119, .int x0, .int x1, mX0]) rfl (Nat.le_of_ble_eq_true rfl) (w10_playerFor X I s x0 x1 _ hr (mRet_ok _ _ _ _ _))
def l10_have_41 (k1 : Int32) : Nat → Int32 → mI → Option (mI)
  | 0, _, _ => none
  | f + 1, y3, I => if (6 : Int32) ≤ (y3 : Int32) then some I else (mSto I 153 6 y3 k1).bind fun z0 => l10_have_41 k1 f (y3 + 1) z0
def l10_have_78 (k2 : Int32) : Nat → Int32 → Int32 → Int32 → mI → Option (Int32 × mI)
  | 0, _, _, _, _ => none
  | f + 1, y3, y4, y5, I => if ((k2 - 10) : Int32) < (y5 : Int32) then some (y4, I) else (r10_playerFor I y5 y3).bind fun z0 => (if (z0.1 : Int32) = ((-1) : Int32) then some y3 else some (y3 - 1) : Option (Int32)).bind fun z1 => l10_have_78 k2 f z1 z0.1 (y5 + 1) z0.2
def r10_have (I : mI) (x0 : Int32) (x1 : Int32) : Option (Int32 × mI) := if ((r10_isIn x0 1 12) : Int32) = (0 : Int32) then some ((-1), (mW I 119 0 0)) else if (x1 : Int32) = (0 : Int32) then (l10_have_41 x0 FU 0 (mW I 119 0 0)).bind fun z0 => (r10_mostHad z0 0).bind fun z1 => if (x1 : Int32) = (0 : Int32) then some (z1, z0) else (l10_have_78 x1 FU z1 (-1) 0 z0).bind fun z2 => some (z2.1, z2.2) else if ((r10_isIn x1 10 (9 + I 119 6)) : Int32) = (0 : Int32) then some ((-1), (mW I 119 0 0)) else (l10_have_41 x0 FU 0 (mW I 119 0 0)).bind fun z3 => (r10_mostHad z3 0).bind fun z4 => if (x1 : Int32) = (0 : Int32) then some (z4, z3) else (l10_have_78 x1 FU z4 (-1) 0 z3).bind fun z5 => some (z5.1, z5.2)
set_option maxHeartbeats 4000000 in
set_option maxRecDepth 100000 in
theorem t10_have_41 (X : Nat × (Nat → Int32)) (Q : mQ) (s : Nat) (k1 : Int32) (k2 : Int32) : ∀ (f : Nat) (y3 : Int32) (I : mI) (z : mI), l10_have_41 k1 f y3 I = some z → mV X m10_have 3 0 0 60 [.ref 119, .int k1, .int k2, mX0, mX0, mX0] [] NN KK z (PP s) Q → mV X m10_have 3 0 0 41 [.ref 119, .int k1, .int k2, .int y3, mX0, mX0] [] NN KK I (PP s) Q := by
  intro f
  induction f with
  | zero => intro y3 I z hr hk; cases hr
  | succ f ih =>
    intro y3 I z hr hk
    unfold l10_have_41 at hr
    refine mV_iload f10_have_41 rfl ?_
    refine mV_push f10_have_42 ?_
    refine mV_icmp_ge f10_have_44 (fun h0 => ?_) (fun h0 => ?_)
    · rw [if_pos h0] at hr
      have hr := Option.some.inj hr; subst hr
      refine mV_drop (L' := [.ref 119, .int k1, .int k2, mX0, mX0, mX0]) (mSub_k (mSub_k (mSub_k (mSub_x (mSub_x (mSub_x mSub_n)))))) ?_
      exact hk
    · rw [if_neg h0] at hr
      refine mV_aload f10_have_47 rfl ?_
      refine mV_getP f10_have_48 (by decide) kk_119 rfl (pp_119_57 _) ?_
      refine mV_iload f10_have_51 rfl ?_
      refine mV_iload f10_have_52 rfl ?_
      obtain ⟨z0, hz0, hr⟩ := mBind hr
      refine mV_stO f10_have_53 (by decide) kk_153 hz0 ?_
      refine mV_iinc (y := (y3 + 1)) (L' := [.ref 119, .int k1, .int k2, .int (y3 + 1), mX0, mX0]) f10_have_54 rfl rfl (by decide) rfl rfl ?_
      refine mV_goto f10_have_57 ?_
      exact ih (y3 + 1) z0 _ hr hk
set_option maxHeartbeats 4000000 in
set_option maxRecDepth 100000 in
theorem t10_have_78 (X : Nat × (Nat → Int32)) (Q : mQ) (s : Nat) (k2 : Int32) : ∀ (f : Nat) (y3 : Int32) (y4 : Int32) (y5 : Int32) (I : mI) (z : Int32 × mI), l10_have_78 k2 f y3 y4 y5 I = some z → mV X m10_have 3 0 0 112 [.ref 119, mX0, .int k2, mX0, .int z.1, mX0] [] NN KK z.2 (PP s) Q → mV X m10_have 3 0 0 78 [.ref 119, mX0, .int k2, .int y3, .int y4, .int y5] [] NN KK I (PP s) Q := by
  intro f
  induction f with
  | zero => intro y3 y4 y5 I z hr hk; cases hr
  | succ f ih =>
    intro y3 y4 y5 I z hr hk
    unfold l10_have_78 at hr
    refine mV_iload f10_have_78 rfl ?_
    refine mV_iload f10_have_80 rfl ?_
    refine mV_push f10_have_81 ?_
    refine mV_isub f10_have_83 ?_
    refine mV_icmp_gt f10_have_84 (fun h0 => ?_) (fun h0 => ?_)
    · rw [if_pos h0] at hr
      have hr := Option.some.inj hr; subst hr
      refine mV_drop (L' := [.ref 119, mX0, .int k2, mX0, .int y4, mX0]) (mSub_k (mSub_x (mSub_k (mSub_x (mSub_k (mSub_x mSub_n)))))) ?_
      exact hk
    · rw [if_neg h0] at hr
      refine mV_aload f10_have_87 rfl ?_
      refine mV_iload f10_have_88 rfl ?_
      refine mV_iload f10_have_90 rfl ?_
      obtain ⟨z0, hz0, hr⟩ := mBind hr
      refine mV_cV f10_have_91 tg_m10_playerFor mCls10 (by decide) kk_119 (mC_deep (c10_playerFor X I s y5 y3 hz0) (by decide)) rfl rfl (Nat.le_of_ble_eq_true rfl) ?_
      refine mV_istore (L' := [.ref 119, mX0, .int k2, .int y3, .int z0.1, .int y5]) f10_have_94 (by decide) rfl rfl ?_
      refine mV_iload f10_have_96 rfl ?_
      refine mV_push f10_have_98 ?_
      obtain ⟨z1, hz1, hr⟩ := mBind hr
      have keyz1 : mV X m10_have 3 0 0 106 [.ref 119, mX0, .int k2, .int z1, .int z0.1, .int y5] [] NN KK z0.2 (PP s) Q := by
        refine mV_iinc (y := (y5 + 1)) (L' := [.ref 119, mX0, .int k2, .int z1, .int z0.1, .int (y5 + 1)]) f10_have_106 rfl rfl (by decide) rfl rfl ?_
        refine mV_goto f10_have_109 ?_
        exact ih z1 z0.1 (y5 + 1) z0.2 _ hr hk
      clear hr
      have hr := hz1
      clear hz1
      refine mV_icmp_eq f10_have_99 (fun h1 => ?_) (fun h1 => ?_)
      · rw [if_pos h1] at hr
        have hr := Option.some.inj hr; subst hr
        exact keyz1
      · rw [if_neg h1] at hr
        refine mV_iload f10_have_102 rfl ?_
        refine mV_push f10_have_103 ?_
        refine mV_isub f10_have_104 ?_
        refine mV_istore (L' := [.ref 119, mX0, .int k2, .int (y3 - 1), .int z0.1, .int y5]) f10_have_105 (by decide) rfl rfl ?_
        have hr := Option.some.inj hr; subst hr
        exact keyz1
set_option maxHeartbeats 4000000 in
set_option maxRecDepth 100000 in
theorem w10_have (X : Nat × (Nat → Int32)) (I : mI) (s : Nat) (x0 : Int32) (x1 : Int32) (Q : mQ) {res : Int32 × mI} (hr : r10_have I x0 x1 = some res) (hQ : Q (some (.int res.1)) NN KK res.2 (PP s)) : mV X m10_have 3 0 0 0 [.ref 119, .int x0, .int x1, mX0, mX0, mX0] [] NN KK I (PP s) Q := by
  unfold r10_have at hr
  refine mV_aload f10_have_0 rfl ?_
  refine mV_push f10_have_1 ?_
  refine mV_putI f10_have_2 (by decide) kk_119 rfl rfl ?_
  refine mV_aload f10_have_5 rfl ?_
  refine mV_iload f10_have_6 rfl ?_
  refine mV_push f10_have_7 ?_
  refine mV_push f10_have_8 ?_
  refine mV_cV f10_have_10 tg_m10_isIn mCls10 (by decide) kk_119 (mC_deep (c10_isIn X (mW I 119 0 0) s x0 1 12 rfl) (by decide)) rfl rfl (Nat.le_of_ble_eq_true rfl) ?_
  refine mV_if_eq f10_have_13 (fun h0 => ?_) (fun h0 => ?_)
  · rw [if_pos h0] at hr
    refine mV_push f10_have_37 ?_
    have hr := Option.some.inj hr; subst hr
    exact mV_iret rfl rfl f10_have_38 hQ
  · rw [if_neg h0] at hr
    refine mV_iload f10_have_16 rfl ?_
    refine mV_if_eq f10_have_17 (fun h1 => ?_) (fun h1 => ?_)
    · rw [if_pos h1] at hr
      refine mV_push f10_have_39 ?_
      refine mV_istore (L' := [.ref 119, .int x0, .int x1, .int 0, mX0, mX0]) f10_have_40 (by decide) rfl rfl ?_
      obtain ⟨z0, hz0, hr⟩ := mBind hr
      refine t10_have_41 X Q s x0 x1 FU 0 (mW I 119 0 0) _ hz0 ?_
      refine mV_aload f10_have_60 rfl ?_
      refine mV_push f10_have_61 ?_
      obtain ⟨z1, hz1, hr⟩ := mBind hr
      refine mV_cV f10_have_62 tg_m10_mostHad mCls10 (by decide) kk_119 (mC_deep (c10_mostHad X z0 s 0 hz1) (by decide)) rfl rfl (Nat.le_of_ble_eq_true rfl) ?_
      refine mV_istore (L' := [.ref 119, .int x0, .int x1, .int z1, mX0, mX0]) f10_have_65 (by decide) rfl rfl ?_
      refine mV_iload f10_have_66 rfl ?_
      refine mV_if_ne f10_have_67 (fun h2 => ?_) (fun h2 => ?_)
      · rw [if_neg h2] at hr
        refine mV_push f10_have_72 ?_
        refine mV_istore (L' := [.ref 119, .int x0, .int x1, .int z1, .int (-1), mX0]) f10_have_73 (by decide) rfl rfl ?_
        refine mV_push f10_have_75 ?_
        refine mV_istore (L' := [.ref 119, .int x0, .int x1, .int z1, .int (-1), .int 0]) f10_have_76 (by decide) rfl rfl ?_
        obtain ⟨z2, hz2, hr⟩ := mBind hr
        refine mV_drop (L' := [.ref 119, mX0, .int x1, .int z1, .int (-1), .int 0]) (mSub_k (mSub_x (mSub_k (mSub_k (mSub_k (mSub_k mSub_n)))))) ?_
        refine t10_have_78 X Q s x1 FU z1 (-1) 0 z0 _ hz2 ?_
        refine mV_iload f10_have_112 rfl ?_
        have hr := Option.some.inj hr; subst hr
        exact mV_iret rfl rfl f10_have_114 hQ
      · rw [if_pos h2] at hr
        refine mV_iload f10_have_70 rfl ?_
        have hr := Option.some.inj hr; subst hr
        exact mV_iret rfl rfl f10_have_71 hQ
    · rw [if_neg h1] at hr
      refine mV_aload f10_have_20 rfl ?_
      refine mV_iload f10_have_21 rfl ?_
      refine mV_push f10_have_22 ?_
      refine mV_push f10_have_24 ?_
      refine mV_aload f10_have_26 rfl ?_
      refine mV_gI (I 119 6) f10_have_27 (by decide) kk_119 rfl rfl ?_
      refine mV_iadd f10_have_30 ?_
      refine mV_cV f10_have_31 tg_m10_isIn mCls10 (by decide) kk_119 (mC_deep (c10_isIn X (mW I 119 0 0) s x1 10 (9 + I 119 6) rfl) (by decide)) rfl rfl (Nat.le_of_ble_eq_true rfl) ?_
      refine mV_if_ne f10_have_34 (fun h3 => ?_) (fun h3 => ?_)
      · rw [if_neg h3] at hr
        refine mV_push f10_have_39 ?_
        refine mV_istore (L' := [.ref 119, .int x0, .int x1, .int 0, mX0, mX0]) f10_have_40 (by decide) rfl rfl ?_
        obtain ⟨z3, hz3, hr⟩ := mBind hr
        refine t10_have_41 X Q s x0 x1 FU 0 (mW I 119 0 0) _ hz3 ?_
        refine mV_aload f10_have_60 rfl ?_
        refine mV_push f10_have_61 ?_
        obtain ⟨z4, hz4, hr⟩ := mBind hr
        refine mV_cV f10_have_62 tg_m10_mostHad mCls10 (by decide) kk_119 (mC_deep (c10_mostHad X z3 s 0 hz4) (by decide)) rfl rfl (Nat.le_of_ble_eq_true rfl) ?_
        refine mV_istore (L' := [.ref 119, .int x0, .int x1, .int z4, mX0, mX0]) f10_have_65 (by decide) rfl rfl ?_
        refine mV_iload f10_have_66 rfl ?_
        refine mV_if_ne f10_have_67 (fun h4 => ?_) (fun h4 => ?_)
        · rw [if_neg h4] at hr
          refine mV_push f10_have_72 ?_
          refine mV_istore (L' := [.ref 119, .int x0, .int x1, .int z4, .int (-1), mX0]) f10_have_73 (by decide) rfl rfl ?_
          refine mV_push f10_have_75 ?_
          refine mV_istore (L' := [.ref 119, .int x0, .int x1, .int z4, .int (-1), .int 0]) f10_have_76 (by decide) rfl rfl ?_
          obtain ⟨z5, hz5, hr⟩ := mBind hr
          refine mV_drop (L' := [.ref 119, mX0, .int x1, .int z4, .int (-1), .int 0]) (mSub_k (mSub_x (mSub_k (mSub_k (mSub_k (mSub_k mSub_n)))))) ?_
          refine t10_have_78 X Q s x1 FU z4 (-1) 0 z3 _ hz5 ?_
          refine mV_iload f10_have_112 rfl ?_
          have hr := Option.some.inj hr; subst hr
          exact mV_iret rfl rfl f10_have_114 hQ
        · rw [if_pos h4] at hr
          refine mV_iload f10_have_70 rfl ?_
          have hr := Option.some.inj hr; subst hr
          exact mV_iret rfl rfl f10_have_71 hQ
      · rw [if_pos h3] at hr
        refine mV_push f10_have_37 ?_
        have hr := Option.some.inj hr; subst hr
        exact mV_iret rfl rfl f10_have_38 hQ
theorem c10_have (X : Nat × (Nat → Int32)) (I : mI) (s : Nat) (x0 : Int32) (x1 : Int32) {res : Int32 × mI} (hr : r10_have I x0 x1 = some res) : mC X m10_have 3 0 0 [.ref 119, .int x0, .int x1] NN KK I (PP s) (mRet (some (.int res.1)) NN KK res.2 (PP s)) :=
  mC_of (L0 := [.ref 119, .int x0, .int x1, mX0, mX0, mX0]) rfl (Nat.le_of_ble_eq_true rfl) (w10_have X I s x0 x1 _ hr (mRet_ok _ _ _ _ _))
def l10_groupOf_15 (I : mI) : Nat → Int32 → Int32 → Option (Int32)
  | 0, _, _ => none
  | f + 1, y2, y4 => if (I 119 6 : Int32) ≤ (y4 : Int32) then some y2 else (if ((r10_has y2 y4) : Int32) = (0 : Int32) then some y2 else (mLd I 141 24 y4).bind fun z1 => some (y2 ||| z1) : Option (Int32)).bind fun z0 => l10_groupOf_15 I f z0 (y4 + 1)
def l10_groupOf_6 (I : mI) : Nat → Int32 → Int32 → Option (Int32)
  | 0, _, _ => none
  | f + 1, y2, y3 => if (12 : Int32) ≤ (y3 : Int32) then some y2 else (l10_groupOf_15 I FU y2 0).bind fun z0 => l10_groupOf_6 I f z0 (y3 + 1)
def r10_groupOf (I : mI) (x0 : Int32) : Option (Int32) := (l10_groupOf_6 I FU (1 <<< (x0 &&& 31)) 0).bind fun z0 => some z0
set_option maxHeartbeats 4000000 in
set_option maxRecDepth 100000 in
theorem t10_groupOf_15 (X : Nat × (Nat → Int32)) (Q : mQ) (s : Nat) (I : mI) (k3 : Int32) : ∀ (f : Nat) (y2 : Int32) (y4 : Int32) (z : Int32), l10_groupOf_15 I f y2 y4 = some z → mV X m10_groupOf 1 0 0 50 [.ref 119, mX0, .int z, .int k3, mX0] [] NN KK I (PP s) Q → mV X m10_groupOf 1 0 0 15 [.ref 119, mX0, .int y2, .int k3, .int y4] [] NN KK I (PP s) Q := by
  intro f
  induction f with
  | zero => intro y2 y4 z hr hk; cases hr
  | succ f ih =>
    intro y2 y4 z hr hk
    unfold l10_groupOf_15 at hr
    refine mV_iload f10_groupOf_15 rfl ?_
    refine mV_aload f10_groupOf_17 rfl ?_
    refine mV_gI (I 119 6) f10_groupOf_18 (by decide) kk_119 rfl rfl ?_
    refine mV_icmp_ge f10_groupOf_21 (fun h0 => ?_) (fun h0 => ?_)
    · rw [if_pos h0] at hr
      have hr := Option.some.inj hr; subst hr
      refine mV_drop (L' := [.ref 119, mX0, .int y2, .int k3, mX0]) (mSub_k (mSub_x (mSub_k (mSub_k (mSub_x mSub_n))))) ?_
      exact hk
    · rw [if_neg h0] at hr
      refine mV_aload f10_groupOf_24 rfl ?_
      refine mV_iload f10_groupOf_25 rfl ?_
      refine mV_iload f10_groupOf_26 rfl ?_
      refine mV_cV f10_groupOf_28 tg_m10_has mCls10 (by decide) kk_119 (mC_deep (c10_has X I s y2 y4 rfl) (by decide)) rfl rfl (Nat.le_of_ble_eq_true rfl) ?_
      obtain ⟨z0, hz0, hr⟩ := mBind hr
      have keyz0 : mV X m10_groupOf 1 0 0 44 [.ref 119, mX0, .int z0, .int k3, .int y4] [] NN KK I (PP s) Q := by
        refine mV_iinc (y := (y4 + 1)) (L' := [.ref 119, mX0, .int z0, .int k3, .int (y4 + 1)]) f10_groupOf_44 rfl rfl (by decide) rfl rfl ?_
        refine mV_goto f10_groupOf_47 ?_
        exact ih z0 (y4 + 1) _ hr hk
      clear hr
      have hr := hz0
      clear hz0
      refine mV_if_eq f10_groupOf_31 (fun h1 => ?_) (fun h1 => ?_)
      · rw [if_pos h1] at hr
        have hr := Option.some.inj hr; subst hr
        exact keyz0
      · rw [if_neg h1] at hr
        refine mV_iload f10_groupOf_34 rfl ?_
        refine mV_aload f10_groupOf_35 rfl ?_
        refine mV_getP f10_groupOf_36 (by decide) kk_119 rfl (pp_119_42 _) ?_
        refine mV_iload f10_groupOf_39 rfl ?_
        obtain ⟨z1, hz1, hr⟩ := mBind hr
        refine mV_ldO f10_groupOf_41 (by decide) kk_141 hz1 ?_
        refine mV_ior f10_groupOf_42 ?_
        refine mV_istore (L' := [.ref 119, mX0, .int (y2 ||| z1), .int k3, .int y4]) f10_groupOf_43 (by decide) rfl rfl ?_
        have hr := Option.some.inj hr; subst hr
        exact keyz0
set_option maxHeartbeats 4000000 in
set_option maxRecDepth 100000 in
theorem t10_groupOf_6 (X : Nat × (Nat → Int32)) (Q : mQ) (s : Nat) (I : mI) : ∀ (f : Nat) (y2 : Int32) (y3 : Int32) (z : Int32), l10_groupOf_6 I f y2 y3 = some z → mV X m10_groupOf 1 0 0 56 [.ref 119, mX0, .int z, mX0, mX0] [] NN KK I (PP s) Q → mV X m10_groupOf 1 0 0 6 [.ref 119, mX0, .int y2, .int y3, mX0] [] NN KK I (PP s) Q := by
  intro f
  induction f with
  | zero => intro y2 y3 z hr hk; cases hr
  | succ f ih =>
    intro y2 y3 z hr hk
    unfold l10_groupOf_6 at hr
    refine mV_iload f10_groupOf_6 rfl ?_
    refine mV_push f10_groupOf_7 ?_
    refine mV_icmp_ge f10_groupOf_9 (fun h0 => ?_) (fun h0 => ?_)
    · rw [if_pos h0] at hr
      have hr := Option.some.inj hr; subst hr
      refine mV_drop (L' := [.ref 119, mX0, .int y2, mX0, mX0]) (mSub_k (mSub_x (mSub_k (mSub_x (mSub_x mSub_n))))) ?_
      exact hk
    · rw [if_neg h0] at hr
      refine mV_push f10_groupOf_12 ?_
      refine mV_istore (L' := [.ref 119, mX0, .int y2, .int y3, .int 0]) f10_groupOf_13 (by decide) rfl rfl ?_
      obtain ⟨z0, hz0, hr⟩ := mBind hr
      refine t10_groupOf_15 X Q s I y3 FU y2 0 _ hz0 ?_
      refine mV_iinc (y := (y3 + 1)) (L' := [.ref 119, mX0, .int z0, .int (y3 + 1), mX0]) f10_groupOf_50 rfl rfl (by decide) rfl rfl ?_
      refine mV_goto f10_groupOf_53 ?_
      exact ih z0 (y3 + 1) _ hr hk
set_option maxHeartbeats 4000000 in
set_option maxRecDepth 100000 in
theorem w10_groupOf (X : Nat × (Nat → Int32)) (I : mI) (s : Nat) (x0 : Int32) (Q : mQ) {res : Int32} (hr : r10_groupOf I x0 = some res) (hQ : Q (some (.int res)) NN KK I (PP s)) : mV X m10_groupOf 1 0 0 0 [.ref 119, .int x0, mX0, mX0, mX0] [] NN KK I (PP s) Q := by
  unfold r10_groupOf at hr
  refine mV_push f10_groupOf_0 ?_
  refine mV_iload f10_groupOf_1 rfl ?_
  refine mV_ishl f10_groupOf_2 ?_
  refine mV_istore (L' := [.ref 119, .int x0, .int (1 <<< (x0 &&& 31)), mX0, mX0]) f10_groupOf_3 (by decide) rfl rfl ?_
  refine mV_push f10_groupOf_4 ?_
  refine mV_istore (L' := [.ref 119, .int x0, .int (1 <<< (x0 &&& 31)), .int 0, mX0]) f10_groupOf_5 (by decide) rfl rfl ?_
  obtain ⟨z0, hz0, hr⟩ := mBind hr
  refine mV_drop (L' := [.ref 119, mX0, .int (1 <<< (x0 &&& 31)), .int 0, mX0]) (mSub_k (mSub_x (mSub_k (mSub_k (mSub_x mSub_n))))) ?_
  refine t10_groupOf_6 X Q s I FU (1 <<< (x0 &&& 31)) 0 _ hz0 ?_
  refine mV_iload f10_groupOf_56 rfl ?_
  have hr := Option.some.inj hr; subst hr
  exact mV_iret rfl rfl f10_groupOf_57 hQ
theorem c10_groupOf (X : Nat × (Nat → Int32)) (I : mI) (s : Nat) (x0 : Int32) {res : Int32} (hr : r10_groupOf I x0 = some res) : mC X m10_groupOf 1 0 0 [.ref 119, .int x0] NN KK I (PP s) (mRet (some (.int res)) NN KK I (PP s)) :=
  mC_of (L0 := [.ref 119, .int x0, mX0, mX0, mX0]) rfl (Nat.le_of_ble_eq_true rfl) (w10_groupOf X I s x0 _ hr (mRet_ok _ _ _ _ _))
def l10_alike_35 (I : mI) : Nat → Int32 → Int32 → Int32 → Option (Int32)
  | 0, _, _, _ => none
  | f + 1, y2, y3, y4 => if (I 119 6 : Int32) ≤ (y4 : Int32) then some y2 else (if ((r10_has y3 y4) : Int32) = (0 : Int32) then some (y2 + 1) else some y2 : Option (Int32)).bind fun z0 => (r10_groupOf I y4).bind fun z1 => l10_alike_35 I f z0 (y3 ||| z1) (y4 + 1)
def r10_alike (I : mI) (x0 : Int32) : Option (Int32 × mI) := if (x0 : Int32) = ((-1) : Int32) then (l10_alike_35 (mW I 119 0 0) FU 0 0 0).bind fun z0 => some (z0, (mW I 119 0 0)) else (if ((r10_isPiece (mW I 119 0 0) x0) : Int32) = (0 : Int32) then some (-1) else (r10_groupOf (mW I 119 0 0) x0).bind fun z2 => some z2 : Option (Int32)).bind fun z1 => some (z1, (mW I 119 0 0))
set_option maxHeartbeats 4000000 in
set_option maxRecDepth 100000 in
theorem t10_alike_35 (X : Nat × (Nat → Int32)) (Q : mQ) (s : Nat) (I : mI) : ∀ (f : Nat) (y2 : Int32) (y3 : Int32) (y4 : Int32) (z : Int32), l10_alike_35 I f y2 y3 y4 = some z → mV X m10_alike 2 0 0 73 [.ref 119, mX0, .int z, mX0, mX0] [] NN KK I (PP s) Q → mV X m10_alike 2 0 0 35 [.ref 119, mX0, .int y2, .int y3, .int y4] [] NN KK I (PP s) Q := by
  intro f
  induction f with
  | zero => intro y2 y3 y4 z hr hk; cases hr
  | succ f ih =>
    intro y2 y3 y4 z hr hk
    unfold l10_alike_35 at hr
    refine mV_iload f10_alike_35 rfl ?_
    refine mV_aload f10_alike_37 rfl ?_
    refine mV_gI (I 119 6) f10_alike_38 (by decide) kk_119 rfl rfl ?_
    refine mV_icmp_ge f10_alike_41 (fun h0 => ?_) (fun h0 => ?_)
    · rw [if_pos h0] at hr
      have hr := Option.some.inj hr; subst hr
      refine mV_drop (L' := [.ref 119, mX0, .int y2, mX0, mX0]) (mSub_k (mSub_x (mSub_k (mSub_x (mSub_x mSub_n))))) ?_
      exact hk
    · rw [if_neg h0] at hr
      refine mV_aload f10_alike_44 rfl ?_
      refine mV_iload f10_alike_45 rfl ?_
      refine mV_iload f10_alike_46 rfl ?_
      refine mV_cV f10_alike_48 tg_m10_has mCls10 (by decide) kk_119 (mC_deep (c10_has X I s y3 y4 rfl) (by decide)) rfl rfl (Nat.le_of_ble_eq_true rfl) ?_
      obtain ⟨z0, hz0, hr⟩ := mBind hr
      have keyz0 : mV X m10_alike 2 0 0 58 [.ref 119, mX0, .int z0, .int y3, .int y4] [] NN KK I (PP s) Q := by
        refine mV_iload f10_alike_58 rfl ?_
        refine mV_aload f10_alike_59 rfl ?_
        refine mV_iload f10_alike_60 rfl ?_
        obtain ⟨z1, hz1, hr⟩ := mBind hr
        refine mV_cV f10_alike_62 tg_m10_groupOf mCls10 (by decide) kk_119 (mC_deep (c10_groupOf X I s y4 hz1) (by decide)) rfl rfl (Nat.le_of_ble_eq_true rfl) ?_
        refine mV_ior f10_alike_65 ?_
        refine mV_istore (L' := [.ref 119, mX0, .int z0, .int (y3 ||| z1), .int y4]) f10_alike_66 (by decide) rfl rfl ?_
        refine mV_iinc (y := (y4 + 1)) (L' := [.ref 119, mX0, .int z0, .int (y3 ||| z1), .int (y4 + 1)]) f10_alike_67 rfl rfl (by decide) rfl rfl ?_
        refine mV_goto f10_alike_70 ?_
        exact ih z0 (y3 ||| z1) (y4 + 1) _ hr hk
      clear hr
      have hr := hz0
      clear hz0
      refine mV_if_ne f10_alike_51 (fun h1 => ?_) (fun h1 => ?_)
      · rw [if_neg h1] at hr
        have hr := Option.some.inj hr; subst hr
        exact keyz0
      · rw [if_pos h1] at hr
        refine mV_iload f10_alike_54 rfl ?_
        refine mV_push f10_alike_55 ?_
        refine mV_iadd f10_alike_56 ?_
        refine mV_istore (L' := [.ref 119, mX0, .int (y2 + 1), .int y3, .int y4]) f10_alike_57 (by decide) rfl rfl ?_
        have hr := Option.some.inj hr; subst hr
        exact keyz0
set_option maxHeartbeats 4000000 in
set_option maxRecDepth 100000 in
theorem w10_alike (X : Nat × (Nat → Int32)) (I : mI) (s : Nat) (x0 : Int32) (Q : mQ) {res : Int32 × mI} (hr : r10_alike I x0 = some res) (hQ : Q (some (.int res.1)) NN KK res.2 (PP s)) : mV X m10_alike 2 0 0 0 [.ref 119, .int x0, mX0, mX0, mX0] [] NN KK I (PP s) Q := by
  unfold r10_alike at hr
  refine mV_aload f10_alike_0 rfl ?_
  refine mV_push f10_alike_1 ?_
  refine mV_putI f10_alike_2 (by decide) kk_119 rfl rfl ?_
  refine mV_iload f10_alike_5 rfl ?_
  refine mV_push f10_alike_6 ?_
  refine mV_icmp_eq f10_alike_7 (fun h0 => ?_) (fun h0 => ?_)
  · rw [if_pos h0] at hr
    refine mV_push f10_alike_28 ?_
    refine mV_istore (L' := [.ref 119, .int x0, .int 0, mX0, mX0]) f10_alike_29 (by decide) rfl rfl ?_
    refine mV_push f10_alike_30 ?_
    refine mV_istore (L' := [.ref 119, .int x0, .int 0, .int 0, mX0]) f10_alike_31 (by decide) rfl rfl ?_
    refine mV_push f10_alike_32 ?_
    refine mV_istore (L' := [.ref 119, .int x0, .int 0, .int 0, .int 0]) f10_alike_33 (by decide) rfl rfl ?_
    obtain ⟨z0, hz0, hr⟩ := mBind hr
    refine mV_drop (L' := [.ref 119, mX0, .int 0, .int 0, .int 0]) (mSub_k (mSub_x (mSub_k (mSub_k (mSub_k mSub_n))))) ?_
    refine t10_alike_35 X Q s (mW I 119 0 0) FU 0 0 0 _ hz0 ?_
    refine mV_iload f10_alike_73 rfl ?_
    have hr := Option.some.inj hr; subst hr
    exact mV_iret rfl rfl f10_alike_74 hQ
  · rw [if_neg h0] at hr
    refine mV_aload f10_alike_10 rfl ?_
    refine mV_iload f10_alike_11 rfl ?_
    refine mV_cV f10_alike_12 tg_m10_isPiece mCls10 (by decide) kk_119 (mC_deep (c10_isPiece X (mW I 119 0 0) s x0 rfl) (by decide)) rfl rfl (Nat.le_of_ble_eq_true rfl) ?_
    obtain ⟨z1, hz1, hr⟩ := mBind hr
    have keyz1 : mV X m10_alike 2 0 0 27 [.ref 119, mX0, mX0, mX0, mX0] [.int z1] NN KK (mW I 119 0 0) (PP s) Q := by
      have hr := Option.some.inj hr; subst hr
      exact mV_iret rfl rfl f10_alike_27 hQ
    clear hr
    have hr := hz1
    clear hz1
    refine mV_if_eq f10_alike_15 (fun h1 => ?_) (fun h1 => ?_)
    · rw [if_pos h1] at hr
      refine mV_push f10_alike_26 ?_
      have hr := Option.some.inj hr; subst hr
      refine mV_drop (L' := [.ref 119, mX0, mX0, mX0, mX0]) (mSub_k (mSub_x (mSub_x (mSub_x (mSub_x mSub_n))))) ?_
      exact keyz1
    · rw [if_neg h1] at hr
      refine mV_aload f10_alike_18 rfl ?_
      refine mV_iload f10_alike_19 rfl ?_
      obtain ⟨z2, hz2, hr⟩ := mBind hr
      refine mV_cV f10_alike_20 tg_m10_groupOf mCls10 (by decide) kk_119 (mC_deep (c10_groupOf X (mW I 119 0 0) s x0 hz2) (by decide)) rfl rfl (Nat.le_of_ble_eq_true rfl) ?_
      refine mV_goto f10_alike_23 ?_
      have hr := Option.some.inj hr; subst hr
      refine mV_drop (L' := [.ref 119, mX0, mX0, mX0, mX0]) (mSub_k (mSub_x (mSub_x (mSub_x (mSub_x mSub_n))))) ?_
      exact keyz1
theorem c10_alike (X : Nat × (Nat → Int32)) (I : mI) (s : Nat) (x0 : Int32) {res : Int32 × mI} (hr : r10_alike I x0 = some res) : mC X m10_alike 2 0 0 [.ref 119, .int x0] NN KK I (PP s) (mRet (some (.int res.1)) NN KK res.2 (PP s)) :=
  mC_of (L0 := [.ref 119, .int x0, mX0, mX0, mX0]) rfl (Nat.le_of_ble_eq_true rfl) (w10_alike X I s x0 _ hr (mRet_ok _ _ _ _ _))
def l10_pages_57 (I : mI) (k1 : Int32) (k2 : Int32) (k3 : Int32) (k4 : Int32) : Nat → Int32 → Int32 → Option (Int32)
  | 0, _, _ => none
  | f + 1, y5, y6 => if (k1 : Int32) < (y6 : Int32) then some y5 else (mRemO y6 k2).bind fun z0 => (if (z0 : Int32) = (0 : Int32) then some 1 else some 0 : Option (Int32)).bind fun z1 => (mRemO y6 k3).bind fun z2 => (if (z2 : Int32) = (0 : Int32) then some 1 else some 0 : Option (Int32)).bind fun z3 => (if ((z1 + z3) : Int32) = ((1 - k4) : Int32) then some (y5 + 1) else some y5 : Option (Int32)).bind fun z4 => l10_pages_57 I k1 k2 k3 k4 f z4 (y6 + 1)
def r10_pages (I : mI) (x0 : Int32) (x1 : Int32) (x2 : Int32) (x3 : Int32) : Option (Int32 × mI) := if ((r10_isIn x0 1 60) : Int32) = (0 : Int32) then some ((-1), (mW I 119 0 0)) else if ((r10_isIn x1 1 9) : Int32) = (0 : Int32) then some ((-1), (mW I 119 0 0)) else if ((r10_isIn x2 1 9) : Int32) = (0 : Int32) then some ((-1), (mW I 119 0 0)) else if ((r10_isIn x3 0 1) : Int32) = (0 : Int32) then some ((-1), (mW I 119 0 0)) else (l10_pages_57 (mW I 119 0 0) x0 x1 x2 x3 FU 0 1).bind fun z0 => some (z0, (mW I 119 0 0))
set_option maxHeartbeats 4000000 in
set_option maxRecDepth 100000 in
theorem t10_pages_57 (X : Nat × (Nat → Int32)) (Q : mQ) (s : Nat) (I : mI) (k1 : Int32) (k2 : Int32) (k3 : Int32) (k4 : Int32) : ∀ (f : Nat) (y5 : Int32) (y6 : Int32) (z : Int32), l10_pages_57 I k1 k2 k3 k4 f y5 y6 = some z → mV X m10_pages 1 0 0 111 [.ref 119, .int k1, .int k2, .int k3, .int k4, .int z, mX0, mX0] [] NN KK I (PP s) Q → mV X m10_pages 1 0 0 57 [.ref 119, .int k1, .int k2, .int k3, .int k4, .int y5, .int y6, mX0] [] NN KK I (PP s) Q := by
  intro f
  induction f with
  | zero => intro y5 y6 z hr hk; cases hr
  | succ f ih =>
    intro y5 y6 z hr hk
    unfold l10_pages_57 at hr
    refine mV_iload f10_pages_57 rfl ?_
    refine mV_iload f10_pages_59 rfl ?_
    refine mV_icmp_gt f10_pages_60 (fun h0 => ?_) (fun h0 => ?_)
    · rw [if_pos h0] at hr
      have hr := Option.some.inj hr; subst hr
      refine mV_drop (L' := [.ref 119, .int k1, .int k2, .int k3, .int k4, .int y5, mX0, mX0]) (mSub_k (mSub_k (mSub_k (mSub_k (mSub_k (mSub_k (mSub_x (mSub_x mSub_n)))))))) ?_
      exact hk
    · rw [if_neg h0] at hr
      refine mV_iload f10_pages_63 rfl ?_
      refine mV_iload f10_pages_65 rfl ?_
      obtain ⟨z0, hz0, hr⟩ := mBind hr
      refine mV_remO f10_pages_66 hz0 ?_
      obtain ⟨z1, hz1, hr⟩ := mBind hr
      have keyz1 : mV X m10_pages 1 0 0 75 [.ref 119, .int k1, .int k2, .int k3, .int k4, .int y5, .int y6, mX0] [.int z1] NN KK I (PP s) Q := by
        refine mV_iload f10_pages_75 rfl ?_
        refine mV_iload f10_pages_77 rfl ?_
        obtain ⟨z2, hz2, hr⟩ := mBind hr
        refine mV_remO f10_pages_78 hz2 ?_
        obtain ⟨z3, hz3, hr⟩ := mBind hr
        have keyz3 : mV X m10_pages 1 0 0 87 [.ref 119, .int k1, .int k2, .int k3, .int k4, .int y5, .int y6, mX0] [.int z3, .int z1] NN KK I (PP s) Q := by
          refine mV_iadd f10_pages_87 ?_
          refine mV_istore (L' := [.ref 119, .int k1, .int k2, .int k3, .int k4, .int y5, .int y6, .int (z1 + z3)]) f10_pages_88 (by decide) rfl rfl ?_
          refine mV_iload f10_pages_90 rfl ?_
          refine mV_push f10_pages_92 ?_
          refine mV_iload f10_pages_93 rfl ?_
          refine mV_isub f10_pages_95 ?_
          obtain ⟨z4, hz4, hr⟩ := mBind hr
          have keyz4 : mV X m10_pages 1 0 0 105 [.ref 119, .int k1, .int k2, .int k3, .int k4, .int z4, .int y6, mX0] [] NN KK I (PP s) Q := by
            refine mV_iinc (y := (y6 + 1)) (L' := [.ref 119, .int k1, .int k2, .int k3, .int k4, .int z4, .int (y6 + 1), mX0]) f10_pages_105 rfl rfl (by decide) rfl rfl ?_
            refine mV_goto f10_pages_108 ?_
            exact ih z4 (y6 + 1) _ hr hk
          clear hr
          have hr := hz4
          clear hz4
          refine mV_icmp_ne f10_pages_96 (fun h3 => ?_) (fun h3 => ?_)
          · rw [if_neg h3] at hr
            have hr := Option.some.inj hr; subst hr
            refine mV_drop (L' := [.ref 119, .int k1, .int k2, .int k3, .int k4, .int y5, .int y6, mX0]) (mSub_k (mSub_k (mSub_k (mSub_k (mSub_k (mSub_k (mSub_k (mSub_x mSub_n)))))))) ?_
            exact keyz4
          · rw [if_pos h3] at hr
            refine mV_iload f10_pages_99 rfl ?_
            refine mV_push f10_pages_101 ?_
            refine mV_iadd f10_pages_102 ?_
            refine mV_istore (L' := [.ref 119, .int k1, .int k2, .int k3, .int k4, .int (y5 + 1), .int y6, .int (z1 + z3)]) f10_pages_103 (by decide) rfl rfl ?_
            have hr := Option.some.inj hr; subst hr
            refine mV_drop (L' := [.ref 119, .int k1, .int k2, .int k3, .int k4, .int (y5 + 1), .int y6, mX0]) (mSub_k (mSub_k (mSub_k (mSub_k (mSub_k (mSub_k (mSub_k (mSub_x mSub_n)))))))) ?_
            exact keyz4
        clear hr
        have hr := hz3
        clear hz3
        refine mV_if_ne f10_pages_79 (fun h2 => ?_) (fun h2 => ?_)
        · rw [if_neg h2] at hr
          refine mV_push f10_pages_86 ?_
          have hr := Option.some.inj hr; subst hr
          exact keyz3
        · rw [if_pos h2] at hr
          refine mV_push f10_pages_82 ?_
          refine mV_goto f10_pages_83 ?_
          have hr := Option.some.inj hr; subst hr
          exact keyz3
      clear hr
      have hr := hz1
      clear hz1
      refine mV_if_ne f10_pages_67 (fun h1 => ?_) (fun h1 => ?_)
      · rw [if_neg h1] at hr
        refine mV_push f10_pages_74 ?_
        have hr := Option.some.inj hr; subst hr
        exact keyz1
      · rw [if_pos h1] at hr
        refine mV_push f10_pages_70 ?_
        refine mV_goto f10_pages_71 ?_
        have hr := Option.some.inj hr; subst hr
        exact keyz1
set_option maxHeartbeats 4000000 in
set_option maxRecDepth 100000 in
theorem w10_pages (X : Nat × (Nat → Int32)) (I : mI) (s : Nat) (x0 : Int32) (x1 : Int32) (x2 : Int32) (x3 : Int32) (Q : mQ) {res : Int32 × mI} (hr : r10_pages I x0 x1 x2 x3 = some res) (hQ : Q (some (.int res.1)) NN KK res.2 (PP s)) : mV X m10_pages 1 0 0 0 [.ref 119, .int x0, .int x1, .int x2, .int x3, mX0, mX0, mX0] [] NN KK I (PP s) Q := by
  unfold r10_pages at hr
  refine mV_aload f10_pages_0 rfl ?_
  refine mV_push f10_pages_1 ?_
  refine mV_putI f10_pages_2 (by decide) kk_119 rfl rfl ?_
  refine mV_aload f10_pages_5 rfl ?_
  refine mV_iload f10_pages_6 rfl ?_
  refine mV_push f10_pages_7 ?_
  refine mV_push f10_pages_8 ?_
  refine mV_cV f10_pages_10 tg_m10_isIn mCls10 (by decide) kk_119 (mC_deep (c10_isIn X (mW I 119 0 0) s x0 1 60 rfl) (by decide)) rfl rfl (Nat.le_of_ble_eq_true rfl) ?_
  refine mV_if_eq f10_pages_13 (fun h0 => ?_) (fun h0 => ?_)
  · rw [if_pos h0] at hr
    refine mV_push f10_pages_49 ?_
    have hr := Option.some.inj hr; subst hr
    exact mV_iret rfl rfl f10_pages_50 hQ
  · rw [if_neg h0] at hr
    refine mV_aload f10_pages_16 rfl ?_
    refine mV_iload f10_pages_17 rfl ?_
    refine mV_push f10_pages_18 ?_
    refine mV_push f10_pages_19 ?_
    refine mV_cV f10_pages_21 tg_m10_isIn mCls10 (by decide) kk_119 (mC_deep (c10_isIn X (mW I 119 0 0) s x1 1 9 rfl) (by decide)) rfl rfl (Nat.le_of_ble_eq_true rfl) ?_
    refine mV_if_eq f10_pages_24 (fun h1 => ?_) (fun h1 => ?_)
    · rw [if_pos h1] at hr
      refine mV_push f10_pages_49 ?_
      have hr := Option.some.inj hr; subst hr
      exact mV_iret rfl rfl f10_pages_50 hQ
    · rw [if_neg h1] at hr
      refine mV_aload f10_pages_27 rfl ?_
      refine mV_iload f10_pages_28 rfl ?_
      refine mV_push f10_pages_29 ?_
      refine mV_push f10_pages_30 ?_
      refine mV_cV f10_pages_32 tg_m10_isIn mCls10 (by decide) kk_119 (mC_deep (c10_isIn X (mW I 119 0 0) s x2 1 9 rfl) (by decide)) rfl rfl (Nat.le_of_ble_eq_true rfl) ?_
      refine mV_if_eq f10_pages_35 (fun h2 => ?_) (fun h2 => ?_)
      · rw [if_pos h2] at hr
        refine mV_push f10_pages_49 ?_
        have hr := Option.some.inj hr; subst hr
        exact mV_iret rfl rfl f10_pages_50 hQ
      · rw [if_neg h2] at hr
        refine mV_aload f10_pages_38 rfl ?_
        refine mV_iload f10_pages_39 rfl ?_
        refine mV_push f10_pages_41 ?_
        refine mV_push f10_pages_42 ?_
        refine mV_cV f10_pages_43 tg_m10_isIn mCls10 (by decide) kk_119 (mC_deep (c10_isIn X (mW I 119 0 0) s x3 0 1 rfl) (by decide)) rfl rfl (Nat.le_of_ble_eq_true rfl) ?_
        refine mV_if_ne f10_pages_46 (fun h3 => ?_) (fun h3 => ?_)
        · rw [if_neg h3] at hr
          refine mV_push f10_pages_51 ?_
          refine mV_istore (L' := [.ref 119, .int x0, .int x1, .int x2, .int x3, .int 0, mX0, mX0]) f10_pages_52 (by decide) rfl rfl ?_
          refine mV_push f10_pages_54 ?_
          refine mV_istore (L' := [.ref 119, .int x0, .int x1, .int x2, .int x3, .int 0, .int 1, mX0]) f10_pages_55 (by decide) rfl rfl ?_
          obtain ⟨z0, hz0, hr⟩ := mBind hr
          refine t10_pages_57 X Q s (mW I 119 0 0) x0 x1 x2 x3 FU 0 1 _ hz0 ?_
          refine mV_iload f10_pages_111 rfl ?_
          have hr := Option.some.inj hr; subst hr
          exact mV_iret rfl rfl f10_pages_113 hQ
        · rw [if_pos h3] at hr
          refine mV_push f10_pages_49 ?_
          have hr := Option.some.inj hr; subst hr
          exact mV_iret rfl rfl f10_pages_50 hQ
theorem c10_pages (X : Nat × (Nat → Int32)) (I : mI) (s : Nat) (x0 : Int32) (x1 : Int32) (x2 : Int32) (x3 : Int32) {res : Int32 × mI} (hr : r10_pages I x0 x1 x2 x3 = some res) : mC X m10_pages 1 0 0 [.ref 119, .int x0, .int x1, .int x2, .int x3] NN KK I (PP s) (mRet (some (.int res.1)) NN KK res.2 (PP s)) :=
  mC_of (L0 := [.ref 119, .int x0, .int x1, .int x2, .int x3, mX0, mX0, mX0]) rfl (Nat.le_of_ble_eq_true rfl) (w10_pages X I s x0 x1 x2 x3 _ hr (mRet_ok _ _ _ _ _))
def l10_game_21 (I : mI) : Nat → Int32 → Int32 → Option (Int32)
  | 0, _, _ => none
  | f + 1, y2, y3 => if (8 : Int32) ≤ (y3 : Int32) then some y2 else (mLd I 120 47 (9 + y3)).bind fun z0 => l10_game_21 I f (y2 ^^^ (mRm z0 3)) (y3 + 1)
def l10_game_77 (I : mI) (k1 : Int32) (k3 : Int32) (k4 : Int32) (k5 : Int32) : Nat → Int32 → Option ((Int32 × mI) ⊕ (Unit))
  | 0, _ => none
  | f + 1, y6 => if ((r10_lesser k4 4) : Int32) < (y6 : Int32) then some (.inr ()) else if ((mRm (k4 - y6) 3) : Int32) = (k5 : Int32) then (if (k1 : Int32) = (0 : Int32) then some k3 else some y6 : Option (Int32)).bind fun z0 => some (.inl (z0, I)) else l10_game_77 I k1 k3 k4 k5 f (y6 + y6)
def l10_game_49 (I : mI) (k1 : Int32) (k2 : Int32) : Nat → Int32 → Option ((Int32 × mI) ⊕ (Unit))
  | 0, _ => none
  | f + 1, y3 => if (8 : Int32) ≤ (y3 : Int32) then some (.inr ()) else (mLd I 120 47 (9 + y3)).bind fun z0 => (l10_game_77 I k1 y3 z0 (k2 ^^^ (mRm z0 3)) FU 1).bind fun z1 => match z1 with | .inl rz1 => some (.inl rz1) | .inr wz1 => l10_game_49 I k1 k2 f (y3 + 1)
def r10_game (I : mI) (x0 : Int32) : Option (Int32 × mI) := if ((r10_isIn x0 0 1) : Int32) = (0 : Int32) then some ((-1), (mW I 119 0 0)) else (l10_game_21 (mW I 119 0 0) FU 0 0).bind fun z0 => (l10_game_49 (mW I 119 0 0) x0 z0 FU 0).bind fun z1 => match z1 with | .inl rz1 => some rz1 | .inr wz1 => some ((-1), (mW I 119 0 0))
set_option maxHeartbeats 4000000 in
set_option maxRecDepth 100000 in
theorem t10_game_21 (X : Nat × (Nat → Int32)) (Q : mQ) (s : Nat) (I : mI) (k1 : Int32) : ∀ (f : Nat) (y2 : Int32) (y3 : Int32) (z : Int32), l10_game_21 I f y2 y3 = some z → mV X m10_game 1 0 0 47 [.ref 119, .int k1, .int z, mX0, mX0, mX0, mX0] [] NN KK I (PP s) Q → mV X m10_game 1 0 0 21 [.ref 119, .int k1, .int y2, .int y3, mX0, mX0, mX0] [] NN KK I (PP s) Q := by
  intro f
  induction f with
  | zero => intro y2 y3 z hr hk; cases hr
  | succ f ih =>
    intro y2 y3 z hr hk
    unfold l10_game_21 at hr
    refine mV_iload f10_game_21 rfl ?_
    refine mV_push f10_game_22 ?_
    refine mV_icmp_ge f10_game_24 (fun h0 => ?_) (fun h0 => ?_)
    · rw [if_pos h0] at hr
      have hr := Option.some.inj hr; subst hr
      refine mV_drop (L' := [.ref 119, .int k1, .int y2, mX0, mX0, mX0, mX0]) (mSub_k (mSub_k (mSub_k (mSub_x (mSub_x (mSub_x (mSub_x mSub_n))))))) ?_
      exact hk
    · rw [if_neg h0] at hr
      refine mV_iload f10_game_27 rfl ?_
      refine mV_aload f10_game_28 rfl ?_
      refine mV_getP f10_game_29 (by decide) kk_119 rfl (pp_119_1 _) ?_
      refine mV_push f10_game_32 ?_
      refine mV_iload f10_game_34 rfl ?_
      refine mV_iadd f10_game_35 ?_
      obtain ⟨z0, hz0, hr⟩ := mBind hr
      refine mV_ldO f10_game_36 (by decide) kk_120 hz0 ?_
      refine mV_push f10_game_37 ?_
      refine mV_remC f10_game_38 (by decide) ?_
      refine mV_ixor f10_game_39 ?_
      refine mV_istore (L' := [.ref 119, .int k1, .int (y2 ^^^ (mRm z0 3)), .int y3, mX0, mX0, mX0]) f10_game_40 (by decide) rfl rfl ?_
      refine mV_iinc (y := (y3 + 1)) (L' := [.ref 119, .int k1, .int (y2 ^^^ (mRm z0 3)), .int (y3 + 1), mX0, mX0, mX0]) f10_game_41 rfl rfl (by decide) rfl rfl ?_
      refine mV_goto f10_game_44 ?_
      exact ih (y2 ^^^ (mRm z0 3)) (y3 + 1) _ hr hk
set_option maxHeartbeats 4000000 in
set_option maxRecDepth 100000 in
theorem t10_game_77 (X : Nat × (Nat → Int32)) (Q : mQ) (s : Nat) (I : mI) (k1 : Int32) (k2 : Int32) (k3 : Int32) (k4 : Int32) (k5 : Int32) : ∀ (f : Nat) (y6 : Int32) (z : (Int32 × mI) ⊕ (Unit)), l10_game_77 I k1 k3 k4 k5 f y6 = some z → (∀ res, z = .inl res → Q (some (.int res.1)) NN KK res.2 (PP s)) → (∀ w, z = .inr w → mV X m10_game 1 0 0 122 [.ref 119, .int k1, .int k2, .int k3, .int k4, .int k5, mX0] [] NN KK I (PP s) Q) → mV X m10_game 1 0 0 77 [.ref 119, .int k1, .int k2, .int k3, .int k4, .int k5, .int y6] [] NN KK I (PP s) Q := by
  intro f
  induction f with
  | zero => intro y6 z hr hret hk; cases hr
  | succ f ih =>
    intro y6 z hr hret hk
    unfold l10_game_77 at hr
    refine mV_iload f10_game_77 rfl ?_
    refine mV_aload f10_game_79 rfl ?_
    refine mV_iload f10_game_80 rfl ?_
    refine mV_push f10_game_82 ?_
    refine mV_cV f10_game_83 tg_m10_lesser mCls10 (by decide) kk_119 (mC_deep (c10_lesser X I s k4 4 rfl) (by decide)) rfl rfl (Nat.le_of_ble_eq_true rfl) ?_
    refine mV_icmp_gt f10_game_86 (fun h0 => ?_) (fun h0 => ?_)
    · rw [if_pos h0] at hr
      have hr := Option.some.inj hr; subst hr
      refine mV_drop (L' := [.ref 119, .int k1, .int k2, .int k3, .int k4, .int k5, mX0]) (mSub_k (mSub_k (mSub_k (mSub_k (mSub_k (mSub_k (mSub_x mSub_n))))))) ?_
      exact hk _ rfl
    · rw [if_neg h0] at hr
      refine mV_iload f10_game_89 rfl ?_
      refine mV_iload f10_game_91 rfl ?_
      refine mV_isub f10_game_93 ?_
      refine mV_push f10_game_94 ?_
      refine mV_remC f10_game_95 (by decide) ?_
      refine mV_iload f10_game_96 rfl ?_
      refine mV_icmp_ne f10_game_98 (fun h1 => ?_) (fun h1 => ?_)
      · rw [if_neg h1] at hr
        refine mV_iload f10_game_112 rfl ?_
        refine mV_iload f10_game_114 rfl ?_
        refine mV_iadd f10_game_116 ?_
        refine mV_istore (L' := [.ref 119, .int k1, .int k2, .int k3, .int k4, .int k5, .int (y6 + y6)]) f10_game_117 (by decide) rfl rfl ?_
        refine mV_goto f10_game_119 ?_
        exact ih (y6 + y6) _ hr hret hk
      · rw [if_pos h1] at hr
        refine mV_iload f10_game_101 rfl ?_
        obtain ⟨z0, hz0, hr⟩ := mBind hr
        have keyz0 : mV X m10_game 1 0 0 111 [.ref 119, mX0, mX0, mX0, mX0, mX0, mX0] [.int z0] NN KK I (PP s) Q := by
          have hr := Option.some.inj hr; subst hr; have hQ := hret _ rfl
          exact mV_iret rfl rfl f10_game_111 hQ
        clear hr
        have hr := hz0
        clear hz0
        refine mV_if_ne f10_game_102 (fun h2 => ?_) (fun h2 => ?_)
        · rw [if_neg h2] at hr
          refine mV_iload f10_game_109 rfl ?_
          have hr := Option.some.inj hr; subst hr
          refine mV_drop (L' := [.ref 119, mX0, mX0, mX0, mX0, mX0, mX0]) (mSub_k (mSub_x (mSub_x (mSub_x (mSub_x (mSub_x (mSub_x mSub_n))))))) ?_
          exact keyz0
        · rw [if_pos h2] at hr
          refine mV_iload f10_game_105 rfl ?_
          refine mV_goto f10_game_106 ?_
          have hr := Option.some.inj hr; subst hr
          refine mV_drop (L' := [.ref 119, mX0, mX0, mX0, mX0, mX0, mX0]) (mSub_k (mSub_x (mSub_x (mSub_x (mSub_x (mSub_x (mSub_x mSub_n))))))) ?_
          exact keyz0
set_option maxHeartbeats 4000000 in
set_option maxRecDepth 100000 in
theorem t10_game_49 (X : Nat × (Nat → Int32)) (Q : mQ) (s : Nat) (I : mI) (k1 : Int32) (k2 : Int32) : ∀ (f : Nat) (y3 : Int32) (z : (Int32 × mI) ⊕ (Unit)), l10_game_49 I k1 k2 f y3 = some z → (∀ res, z = .inl res → Q (some (.int res.1)) NN KK res.2 (PP s)) → (∀ w, z = .inr w → mV X m10_game 1 0 0 128 [.ref 119, .int k1, .int k2, mX0, mX0, mX0, mX0] [] NN KK I (PP s) Q) → mV X m10_game 1 0 0 49 [.ref 119, .int k1, .int k2, .int y3, mX0, mX0, mX0] [] NN KK I (PP s) Q := by
  intro f
  induction f with
  | zero => intro y3 z hr hret hk; cases hr
  | succ f ih =>
    intro y3 z hr hret hk
    unfold l10_game_49 at hr
    refine mV_iload f10_game_49 rfl ?_
    refine mV_push f10_game_50 ?_
    refine mV_icmp_ge f10_game_52 (fun h0 => ?_) (fun h0 => ?_)
    · rw [if_pos h0] at hr
      have hr := Option.some.inj hr; subst hr
      refine mV_drop (L' := [.ref 119, .int k1, .int k2, mX0, mX0, mX0, mX0]) (mSub_k (mSub_k (mSub_k (mSub_x (mSub_x (mSub_x (mSub_x mSub_n))))))) ?_
      exact hk _ rfl
    · rw [if_neg h0] at hr
      refine mV_aload f10_game_55 rfl ?_
      refine mV_getP f10_game_56 (by decide) kk_119 rfl (pp_119_1 _) ?_
      refine mV_push f10_game_59 ?_
      refine mV_iload f10_game_61 rfl ?_
      refine mV_iadd f10_game_62 ?_
      obtain ⟨z0, hz0, hr⟩ := mBind hr
      refine mV_ldO f10_game_63 (by decide) kk_120 hz0 ?_
      refine mV_istore (L' := [.ref 119, .int k1, .int k2, .int y3, .int z0, mX0, mX0]) f10_game_64 (by decide) rfl rfl ?_
      refine mV_iload f10_game_66 rfl ?_
      refine mV_iload f10_game_67 rfl ?_
      refine mV_push f10_game_69 ?_
      refine mV_remC f10_game_70 (by decide) ?_
      refine mV_ixor f10_game_71 ?_
      refine mV_istore (L' := [.ref 119, .int k1, .int k2, .int y3, .int z0, .int (k2 ^^^ (mRm z0 3)), mX0]) f10_game_72 (by decide) rfl rfl ?_
      refine mV_push f10_game_74 ?_
      refine mV_istore (L' := [.ref 119, .int k1, .int k2, .int y3, .int z0, .int (k2 ^^^ (mRm z0 3)), .int 1]) f10_game_75 (by decide) rfl rfl ?_
      obtain ⟨z1, hz1, hr⟩ := mBind hr
      refine t10_game_77 X Q s I k1 k2 y3 z0 (k2 ^^^ (mRm z0 3)) FU 1 _ hz1 (fun res ez1 => ?_) (fun wz1 ez1 => ?_)
      · rw [ez1] at hr; have hr := Option.some.inj hr; subst hr; exact hret _ rfl
      rw [ez1] at hr
      dsimp only at hr
      refine mV_iinc (y := (y3 + 1)) (L' := [.ref 119, .int k1, .int k2, .int (y3 + 1), .int z0, .int (k2 ^^^ (mRm z0 3)), mX0]) f10_game_122 rfl rfl (by decide) rfl rfl ?_
      refine mV_goto f10_game_125 ?_
      refine mV_drop (L' := [.ref 119, .int k1, .int k2, .int (y3 + 1), mX0, mX0, mX0]) (mSub_k (mSub_k (mSub_k (mSub_k (mSub_x (mSub_x (mSub_x mSub_n))))))) ?_
      exact ih (y3 + 1) _ hr hret hk
set_option maxHeartbeats 4000000 in
set_option maxRecDepth 100000 in
theorem w10_game (X : Nat × (Nat → Int32)) (I : mI) (s : Nat) (x0 : Int32) (Q : mQ) {res : Int32 × mI} (hr : r10_game I x0 = some res) (hQ : Q (some (.int res.1)) NN KK res.2 (PP s)) : mV X m10_game 1 0 0 0 [.ref 119, .int x0, mX0, mX0, mX0, mX0, mX0] [] NN KK I (PP s) Q := by
  unfold r10_game at hr
  refine mV_aload f10_game_0 rfl ?_
  refine mV_push f10_game_1 ?_
  refine mV_putI f10_game_2 (by decide) kk_119 rfl rfl ?_
  refine mV_aload f10_game_5 rfl ?_
  refine mV_iload f10_game_6 rfl ?_
  refine mV_push f10_game_7 ?_
  refine mV_push f10_game_8 ?_
  refine mV_cV f10_game_9 tg_m10_isIn mCls10 (by decide) kk_119 (mC_deep (c10_isIn X (mW I 119 0 0) s x0 0 1 rfl) (by decide)) rfl rfl (Nat.le_of_ble_eq_true rfl) ?_
  refine mV_if_ne f10_game_12 (fun h0 => ?_) (fun h0 => ?_)
  · rw [if_neg h0] at hr
    refine mV_push f10_game_17 ?_
    refine mV_istore (L' := [.ref 119, .int x0, .int 0, mX0, mX0, mX0, mX0]) f10_game_18 (by decide) rfl rfl ?_
    refine mV_push f10_game_19 ?_
    refine mV_istore (L' := [.ref 119, .int x0, .int 0, .int 0, mX0, mX0, mX0]) f10_game_20 (by decide) rfl rfl ?_
    obtain ⟨z0, hz0, hr⟩ := mBind hr
    refine t10_game_21 X Q s (mW I 119 0 0) x0 FU 0 0 _ hz0 ?_
    refine mV_push f10_game_47 ?_
    refine mV_istore (L' := [.ref 119, .int x0, .int z0, .int 0, mX0, mX0, mX0]) f10_game_48 (by decide) rfl rfl ?_
    obtain ⟨z1, hz1, hr⟩ := mBind hr
    refine t10_game_49 X Q s (mW I 119 0 0) x0 z0 FU 0 _ hz1 (fun res ez1 => ?_) (fun wz1 ez1 => ?_)
    · rw [ez1] at hr; have hr := Option.some.inj hr; subst hr; exact hQ
    rw [ez1] at hr
    dsimp only at hr
    refine mV_push f10_game_128 ?_
    have hr := Option.some.inj hr; subst hr
    exact mV_iret rfl rfl f10_game_129 hQ
  · rw [if_pos h0] at hr
    refine mV_push f10_game_15 ?_
    have hr := Option.some.inj hr; subst hr
    exact mV_iret rfl rfl f10_game_16 hQ
theorem c10_game (X : Nat × (Nat → Int32)) (I : mI) (s : Nat) (x0 : Int32) {res : Int32 × mI} (hr : r10_game I x0 = some res) : mC X m10_game 1 0 0 [.ref 119, .int x0] NN KK I (PP s) (mRet (some (.int res.1)) NN KK res.2 (PP s)) :=
  mC_of (L0 := [.ref 119, .int x0, mX0, mX0, mX0, mX0, mX0]) rfl (Nat.le_of_ble_eq_true rfl) (w10_game X I s x0 _ hr (mRet_ok _ _ _ _ _))
def r10_keeps (I : mI) (x0 : Int32) : Option (Int32 × mI) := if (I 119 58 : Int32) = (0 : Int32) then (mLd (mW I 119 60 (I 119 60 + 1)) 154 2300 ((I 119 60 + 1) - 1)).bind fun z1 => some (z1, (mW I 119 60 (I 119 60 + 1))) else (mSto (mW I 119 60 (I 119 60 + 1)) 154 2300 ((I 119 60 + 1) - 1) x0).bind fun z0 => some (x0, z0)
set_option maxHeartbeats 4000000 in
set_option maxRecDepth 100000 in
theorem w10_keeps (X : Nat × (Nat → Int32)) (I : mI) (s : Nat) (x0 : Int32) (Q : mQ) {res : Int32 × mI} (hr : r10_keeps I x0 = some res) (hQ : Q (some (.int res.1)) NN KK res.2 (PP s)) : mV X m10_keeps 0 0 0 0 [.ref 119, .int x0] [] NN KK I (PP s) Q := by
  unfold r10_keeps at hr
  refine mV_aload f10_keeps_0 rfl ?_
  refine mV_aload f10_keeps_1 rfl ?_
  refine mV_gI (I 119 60) f10_keeps_2 (by decide) kk_119 rfl rfl ?_
  refine mV_push f10_keeps_5 ?_
  refine mV_iadd f10_keeps_6 ?_
  refine mV_putI f10_keeps_7 (by decide) kk_119 rfl rfl ?_
  refine mV_aload f10_keeps_10 rfl ?_
  refine mV_gI (I 119 58) f10_keeps_11 (by decide) kk_119 rfl rfl ?_
  refine mV_if_ne f10_keeps_14 (fun h0 => ?_) (fun h0 => ?_)
  · rw [if_neg h0] at hr
    refine mV_aload f10_keeps_29 rfl ?_
    refine mV_getP f10_keeps_30 (by decide) kk_119 rfl (pp_119_61 _) ?_
    refine mV_aload f10_keeps_33 rfl ?_
    refine mV_gI (I 119 60 + 1) f10_keeps_34 (by decide) kk_119 rfl rfl ?_
    refine mV_push f10_keeps_37 ?_
    refine mV_isub f10_keeps_38 ?_
    refine mV_iload f10_keeps_39 rfl ?_
    obtain ⟨z0, hz0, hr⟩ := mBind hr
    refine mV_stO f10_keeps_40 (by decide) kk_154 hz0 ?_
    refine mV_iload f10_keeps_41 rfl ?_
    have hr := Option.some.inj hr; subst hr
    exact mV_iret rfl rfl f10_keeps_42 hQ
  · rw [if_pos h0] at hr
    refine mV_aload f10_keeps_17 rfl ?_
    refine mV_getP f10_keeps_18 (by decide) kk_119 rfl (pp_119_61 _) ?_
    refine mV_aload f10_keeps_21 rfl ?_
    refine mV_gI (I 119 60 + 1) f10_keeps_22 (by decide) kk_119 rfl rfl ?_
    refine mV_push f10_keeps_25 ?_
    refine mV_isub f10_keeps_26 ?_
    obtain ⟨z1, hz1, hr⟩ := mBind hr
    refine mV_ldO f10_keeps_27 (by decide) kk_154 hz1 ?_
    have hr := Option.some.inj hr; subst hr
    exact mV_iret rfl rfl f10_keeps_28 hQ
theorem c10_keeps (X : Nat × (Nat → Int32)) (I : mI) (s : Nat) (x0 : Int32) {res : Int32 × mI} (hr : r10_keeps I x0 = some res) : mC X m10_keeps 0 0 0 [.ref 119, .int x0] NN KK I (PP s) (mRet (some (.int res.1)) NN KK res.2 (PP s)) :=
  mC_of (L0 := [.ref 119, .int x0]) rfl (Nat.le_of_ble_eq_true rfl) (w10_keeps X I s x0 _ hr (mRet_ok _ _ _ _ _))
def l10_keepsLaw_18 : Nat → Int32 → mI → Option (mI)
  | 0, _, _ => none
  | f + 1, y1, I => if (16 : Int32) ≤ (y1 : Int32) then some I else (mLd I 132 48 y1).bind fun z0 => (r10_keeps I z0).bind fun z1 => (mSto z1.2 132 48 y1 z1.1).bind fun z2 => (mLd z2 133 48 y1).bind fun z3 => (r10_keeps z2 z3).bind fun z4 => (mSto z4.2 133 48 y1 z4.1).bind fun z5 => (mLd z5 134 48 y1).bind fun z6 => (r10_keeps z5 z6).bind fun z7 => (mSto z7.2 134 48 y1 z7.1).bind fun z8 => (mLd z8 135 48 y1).bind fun z9 => (r10_keeps z8 z9).bind fun z10 => (mSto z10.2 135 48 y1 z10.1).bind fun z11 => l10_keepsLaw_18 f (y1 + 1) z11
def l10_keepsLaw_96 : Nat → Int32 → mI → Option (mI)
  | 0, _, _ => none
  | f + 1, y1, I => if (400 : Int32) ≤ (y1 : Int32) then some I else (mLd I 136 1200 y1).bind fun z0 => (r10_keeps I z0).bind fun z1 => (mSto z1.2 136 1200 y1 z1.1).bind fun z2 => (mLd z2 137 1200 y1).bind fun z3 => (r10_keeps z2 z3).bind fun z4 => (mSto z4.2 137 1200 y1 z4.1).bind fun z5 => l10_keepsLaw_96 f (y1 + 1) z5
def r10_keepsLaw (I : mI) : Option (mI) := (r10_keeps I (I 131 0)).bind fun z0 => (l10_keepsLaw_18 FU 0 (mW z0.2 131 0 z0.1)).bind fun z1 => (l10_keepsLaw_96 FU 0 z1).bind fun z2 => some z2
set_option maxHeartbeats 4000000 in
set_option maxRecDepth 100000 in
theorem t10_keepsLaw_18 (X : Nat × (Nat → Int32)) (Q : mQ) (s : Nat) : ∀ (f : Nat) (y1 : Int32) (I : mI) (z : mI), l10_keepsLaw_18 f y1 I = some z → mV X m10_keepsLaw 1 0 0 94 [.ref 119, mX0] [] NN KK z (PP s) Q → mV X m10_keepsLaw 1 0 0 18 [.ref 119, .int y1] [] NN KK I (PP s) Q := by
  intro f
  induction f with
  | zero => intro y1 I z hr hk; cases hr
  | succ f ih =>
    intro y1 I z hr hk
    unfold l10_keepsLaw_18 at hr
    refine mV_iload f10_keepsLaw_18 rfl ?_
    refine mV_push f10_keepsLaw_19 ?_
    refine mV_icmp_ge f10_keepsLaw_21 (fun h0 => ?_) (fun h0 => ?_)
    · rw [if_pos h0] at hr
      have hr := Option.some.inj hr; subst hr
      refine mV_drop (L' := [.ref 119, mX0]) (mSub_k (mSub_x mSub_n)) ?_
      exact hk
    · rw [if_neg h0] at hr
      refine mV_aload f10_keepsLaw_24 rfl ?_
      refine mV_getP f10_keepsLaw_25 (by decide) kk_119 rfl (pp_119_22 _) ?_
      refine mV_iload f10_keepsLaw_28 rfl ?_
      refine mV_aload f10_keepsLaw_29 rfl ?_
      refine mV_aload f10_keepsLaw_30 rfl ?_
      refine mV_getP f10_keepsLaw_31 (by decide) kk_119 rfl (pp_119_22 _) ?_
      refine mV_iload f10_keepsLaw_34 rfl ?_
      obtain ⟨z0, hz0, hr⟩ := mBind hr
      refine mV_ldO f10_keepsLaw_35 (by decide) kk_132 hz0 ?_
      obtain ⟨z1, hz1, hr⟩ := mBind hr
      refine mV_cV f10_keepsLaw_36 tg_m10_keeps mCls10 (by decide) kk_119 (mC_deep (c10_keeps X I s z0 hz1) (by decide)) rfl rfl (Nat.le_of_ble_eq_true rfl) ?_
      obtain ⟨z2, hz2, hr⟩ := mBind hr
      refine mV_stO f10_keepsLaw_39 (by decide) kk_132 hz2 ?_
      refine mV_aload f10_keepsLaw_40 rfl ?_
      refine mV_getP f10_keepsLaw_41 (by decide) kk_119 rfl (pp_119_23 _) ?_
      refine mV_iload f10_keepsLaw_44 rfl ?_
      refine mV_aload f10_keepsLaw_45 rfl ?_
      refine mV_aload f10_keepsLaw_46 rfl ?_
      refine mV_getP f10_keepsLaw_47 (by decide) kk_119 rfl (pp_119_23 _) ?_
      refine mV_iload f10_keepsLaw_50 rfl ?_
      obtain ⟨z3, hz3, hr⟩ := mBind hr
      refine mV_ldO f10_keepsLaw_51 (by decide) kk_133 hz3 ?_
      obtain ⟨z4, hz4, hr⟩ := mBind hr
      refine mV_cV f10_keepsLaw_52 tg_m10_keeps mCls10 (by decide) kk_119 (mC_deep (c10_keeps X z2 s z3 hz4) (by decide)) rfl rfl (Nat.le_of_ble_eq_true rfl) ?_
      obtain ⟨z5, hz5, hr⟩ := mBind hr
      refine mV_stO f10_keepsLaw_55 (by decide) kk_133 hz5 ?_
      refine mV_aload f10_keepsLaw_56 rfl ?_
      refine mV_getP f10_keepsLaw_57 (by decide) kk_119 rfl (pp_119_24 _) ?_
      refine mV_iload f10_keepsLaw_60 rfl ?_
      refine mV_aload f10_keepsLaw_61 rfl ?_
      refine mV_aload f10_keepsLaw_62 rfl ?_
      refine mV_getP f10_keepsLaw_63 (by decide) kk_119 rfl (pp_119_24 _) ?_
      refine mV_iload f10_keepsLaw_66 rfl ?_
      obtain ⟨z6, hz6, hr⟩ := mBind hr
      refine mV_ldO f10_keepsLaw_67 (by decide) kk_134 hz6 ?_
      obtain ⟨z7, hz7, hr⟩ := mBind hr
      refine mV_cV f10_keepsLaw_68 tg_m10_keeps mCls10 (by decide) kk_119 (mC_deep (c10_keeps X z5 s z6 hz7) (by decide)) rfl rfl (Nat.le_of_ble_eq_true rfl) ?_
      obtain ⟨z8, hz8, hr⟩ := mBind hr
      refine mV_stO f10_keepsLaw_71 (by decide) kk_134 hz8 ?_
      refine mV_aload f10_keepsLaw_72 rfl ?_
      refine mV_getP f10_keepsLaw_73 (by decide) kk_119 rfl (pp_119_25 _) ?_
      refine mV_iload f10_keepsLaw_76 rfl ?_
      refine mV_aload f10_keepsLaw_77 rfl ?_
      refine mV_aload f10_keepsLaw_78 rfl ?_
      refine mV_getP f10_keepsLaw_79 (by decide) kk_119 rfl (pp_119_25 _) ?_
      refine mV_iload f10_keepsLaw_82 rfl ?_
      obtain ⟨z9, hz9, hr⟩ := mBind hr
      refine mV_ldO f10_keepsLaw_83 (by decide) kk_135 hz9 ?_
      obtain ⟨z10, hz10, hr⟩ := mBind hr
      refine mV_cV f10_keepsLaw_84 tg_m10_keeps mCls10 (by decide) kk_119 (mC_deep (c10_keeps X z8 s z9 hz10) (by decide)) rfl rfl (Nat.le_of_ble_eq_true rfl) ?_
      obtain ⟨z11, hz11, hr⟩ := mBind hr
      refine mV_stO f10_keepsLaw_87 (by decide) kk_135 hz11 ?_
      refine mV_iinc (y := (y1 + 1)) (L' := [.ref 119, .int (y1 + 1)]) f10_keepsLaw_88 rfl rfl (by decide) rfl rfl ?_
      refine mV_goto f10_keepsLaw_91 ?_
      exact ih (y1 + 1) z11 _ hr hk
set_option maxHeartbeats 4000000 in
set_option maxRecDepth 100000 in
theorem t10_keepsLaw_96 (X : Nat × (Nat → Int32)) (Q : mQ) (s : Nat) : ∀ (f : Nat) (y1 : Int32) (I : mI) (z : mI), l10_keepsLaw_96 f y1 I = some z → mV X m10_keepsLaw 1 0 0 141 [.ref 119, mX0] [] NN KK z (PP s) Q → mV X m10_keepsLaw 1 0 0 96 [.ref 119, .int y1] [] NN KK I (PP s) Q := by
  intro f
  induction f with
  | zero => intro y1 I z hr hk; cases hr
  | succ f ih =>
    intro y1 I z hr hk
    unfold l10_keepsLaw_96 at hr
    refine mV_iload f10_keepsLaw_96 rfl ?_
    refine mV_push f10_keepsLaw_97 ?_
    refine mV_icmp_ge f10_keepsLaw_100 (fun h0 => ?_) (fun h0 => ?_)
    · rw [if_pos h0] at hr
      have hr := Option.some.inj hr; subst hr
      refine mV_drop (L' := [.ref 119, mX0]) (mSub_k (mSub_x mSub_n)) ?_
      exact hk
    · rw [if_neg h0] at hr
      refine mV_aload f10_keepsLaw_103 rfl ?_
      refine mV_getP f10_keepsLaw_104 (by decide) kk_119 rfl (pp_119_26 _) ?_
      refine mV_iload f10_keepsLaw_107 rfl ?_
      refine mV_aload f10_keepsLaw_108 rfl ?_
      refine mV_aload f10_keepsLaw_109 rfl ?_
      refine mV_getP f10_keepsLaw_110 (by decide) kk_119 rfl (pp_119_26 _) ?_
      refine mV_iload f10_keepsLaw_113 rfl ?_
      obtain ⟨z0, hz0, hr⟩ := mBind hr
      refine mV_ldO f10_keepsLaw_114 (by decide) kk_136 hz0 ?_
      obtain ⟨z1, hz1, hr⟩ := mBind hr
      refine mV_cV f10_keepsLaw_115 tg_m10_keeps mCls10 (by decide) kk_119 (mC_deep (c10_keeps X I s z0 hz1) (by decide)) rfl rfl (Nat.le_of_ble_eq_true rfl) ?_
      obtain ⟨z2, hz2, hr⟩ := mBind hr
      refine mV_stO f10_keepsLaw_118 (by decide) kk_136 hz2 ?_
      refine mV_aload f10_keepsLaw_119 rfl ?_
      refine mV_getP f10_keepsLaw_120 (by decide) kk_119 rfl (pp_119_27 _) ?_
      refine mV_iload f10_keepsLaw_123 rfl ?_
      refine mV_aload f10_keepsLaw_124 rfl ?_
      refine mV_aload f10_keepsLaw_125 rfl ?_
      refine mV_getP f10_keepsLaw_126 (by decide) kk_119 rfl (pp_119_27 _) ?_
      refine mV_iload f10_keepsLaw_129 rfl ?_
      obtain ⟨z3, hz3, hr⟩ := mBind hr
      refine mV_ldO f10_keepsLaw_130 (by decide) kk_137 hz3 ?_
      obtain ⟨z4, hz4, hr⟩ := mBind hr
      refine mV_cV f10_keepsLaw_131 tg_m10_keeps mCls10 (by decide) kk_119 (mC_deep (c10_keeps X z2 s z3 hz4) (by decide)) rfl rfl (Nat.le_of_ble_eq_true rfl) ?_
      obtain ⟨z5, hz5, hr⟩ := mBind hr
      refine mV_stO f10_keepsLaw_134 (by decide) kk_137 hz5 ?_
      refine mV_iinc (y := (y1 + 1)) (L' := [.ref 119, .int (y1 + 1)]) f10_keepsLaw_135 rfl rfl (by decide) rfl rfl ?_
      refine mV_goto f10_keepsLaw_138 ?_
      exact ih (y1 + 1) z5 _ hr hk
set_option maxHeartbeats 4000000 in
set_option maxRecDepth 100000 in
theorem w10_keepsLaw (X : Nat × (Nat → Int32)) (I : mI) (s : Nat) (Q : mQ) {res : mI} (hr : r10_keepsLaw I = some res) (hQ : Q none NN KK res (PP s)) : mV X m10_keepsLaw 1 0 0 0 [.ref 119, mX0] [] NN KK I (PP s) Q := by
  unfold r10_keepsLaw at hr
  refine mV_aload f10_keepsLaw_0 rfl ?_
  refine mV_getP f10_keepsLaw_1 (by decide) kk_119 rfl (pp_119_21 _) ?_
  refine mV_push f10_keepsLaw_4 ?_
  refine mV_aload f10_keepsLaw_5 rfl ?_
  refine mV_aload f10_keepsLaw_6 rfl ?_
  refine mV_getP f10_keepsLaw_7 (by decide) kk_119 rfl (pp_119_21 _) ?_
  refine mV_push f10_keepsLaw_10 ?_
  refine mV_ld (I 131 0) 0 f10_keepsLaw_11 (by decide) kk_131 (by decide) rfl ?_
  obtain ⟨z0, hz0, hr⟩ := mBind hr
  refine mV_cV f10_keepsLaw_12 tg_m10_keeps mCls10 (by decide) kk_119 (mC_deep (c10_keeps X I s (I 131 0) hz0) (by decide)) rfl rfl (Nat.le_of_ble_eq_true rfl) ?_
  refine mV_sto 0 f10_keepsLaw_15 (by decide) kk_131 (by decide) ?_
  refine mV_push f10_keepsLaw_16 ?_
  refine mV_istore (L' := [.ref 119, .int 0]) f10_keepsLaw_17 (by decide) rfl rfl ?_
  obtain ⟨z1, hz1, hr⟩ := mBind hr
  refine t10_keepsLaw_18 X Q s FU 0 (mW z0.2 131 0 z0.1) _ hz1 ?_
  refine mV_push f10_keepsLaw_94 ?_
  refine mV_istore (L' := [.ref 119, .int 0]) f10_keepsLaw_95 (by decide) rfl rfl ?_
  obtain ⟨z2, hz2, hr⟩ := mBind hr
  refine t10_keepsLaw_96 X Q s FU 0 z1 _ hz2 ?_
  have hr := Option.some.inj hr; subst hr
  exact mV_vret rfl f10_keepsLaw_141 hQ
theorem c10_keepsLaw (X : Nat × (Nat → Int32)) (I : mI) (s : Nat) {res : mI} (hr : r10_keepsLaw I = some res) : mC X m10_keepsLaw 1 0 0 [.ref 119] NN KK I (PP s) (mRet none NN KK res (PP s)) :=
  mC_of (L0 := [.ref 119, mX0]) rfl (Nat.le_of_ble_eq_true rfl) (w10_keepsLaw X I s _ hr (mRet_ok _ _ _ _ _))
def r10_keepsMany (I : mI) : Option (mI) := (r10_keeps I (I 119 6)).bind fun z0 => (r10_keeps (mW z0.2 119 6 z0.1) (z0.2 119 7)).bind fun z1 => (r10_keeps (mW z1.2 119 7 z1.1) (z1.2 119 37)).bind fun z2 => (r10_keeps (mW z2.2 119 37 z2.1) (z2.2 119 39)).bind fun z3 => (r10_keeps (mW z3.2 119 39 z3.1) (z3.2 119 41)).bind fun z4 => (r10_keeps (mW z4.2 119 41 z4.1) (z4.2 119 48)).bind fun z5 => (r10_keeps (mW z5.2 119 48 z5.1) (z5.2 119 53)).bind fun z6 => some (mW z6.2 119 53 z6.1)
set_option maxHeartbeats 4000000 in
set_option maxRecDepth 100000 in
theorem w10_keepsMany (X : Nat × (Nat → Int32)) (I : mI) (s : Nat) (Q : mQ) {res : mI} (hr : r10_keepsMany I = some res) (hQ : Q none NN KK res (PP s)) : mV X m10_keepsMany 1 0 0 0 [.ref 119] [] NN KK I (PP s) Q := by
  unfold r10_keepsMany at hr
  refine mV_aload f10_keepsMany_0 rfl ?_
  refine mV_aload f10_keepsMany_1 rfl ?_
  refine mV_aload f10_keepsMany_2 rfl ?_
  refine mV_gI (I 119 6) f10_keepsMany_3 (by decide) kk_119 rfl rfl ?_
  obtain ⟨z0, hz0, hr⟩ := mBind hr
  refine mV_cV f10_keepsMany_6 tg_m10_keeps mCls10 (by decide) kk_119 (mC_deep (c10_keeps X I s (I 119 6) hz0) (by decide)) rfl rfl (Nat.le_of_ble_eq_true rfl) ?_
  refine mV_putI f10_keepsMany_9 (by decide) kk_119 rfl rfl ?_
  refine mV_aload f10_keepsMany_12 rfl ?_
  refine mV_aload f10_keepsMany_13 rfl ?_
  refine mV_aload f10_keepsMany_14 rfl ?_
  refine mV_gI (z0.2 119 7) f10_keepsMany_15 (by decide) kk_119 rfl rfl ?_
  obtain ⟨z1, hz1, hr⟩ := mBind hr
  refine mV_cV f10_keepsMany_18 tg_m10_keeps mCls10 (by decide) kk_119 (mC_deep (c10_keeps X (mW z0.2 119 6 z0.1) s (z0.2 119 7) hz1) (by decide)) rfl rfl (Nat.le_of_ble_eq_true rfl) ?_
  refine mV_putI f10_keepsMany_21 (by decide) kk_119 rfl rfl ?_
  refine mV_aload f10_keepsMany_24 rfl ?_
  refine mV_aload f10_keepsMany_25 rfl ?_
  refine mV_aload f10_keepsMany_26 rfl ?_
  refine mV_gI (z1.2 119 37) f10_keepsMany_27 (by decide) kk_119 rfl rfl ?_
  obtain ⟨z2, hz2, hr⟩ := mBind hr
  refine mV_cV f10_keepsMany_30 tg_m10_keeps mCls10 (by decide) kk_119 (mC_deep (c10_keeps X (mW z1.2 119 7 z1.1) s (z1.2 119 37) hz2) (by decide)) rfl rfl (Nat.le_of_ble_eq_true rfl) ?_
  refine mV_putI f10_keepsMany_33 (by decide) kk_119 rfl rfl ?_
  refine mV_aload f10_keepsMany_36 rfl ?_
  refine mV_aload f10_keepsMany_37 rfl ?_
  refine mV_aload f10_keepsMany_38 rfl ?_
  refine mV_gI (z2.2 119 39) f10_keepsMany_39 (by decide) kk_119 rfl rfl ?_
  obtain ⟨z3, hz3, hr⟩ := mBind hr
  refine mV_cV f10_keepsMany_42 tg_m10_keeps mCls10 (by decide) kk_119 (mC_deep (c10_keeps X (mW z2.2 119 37 z2.1) s (z2.2 119 39) hz3) (by decide)) rfl rfl (Nat.le_of_ble_eq_true rfl) ?_
  refine mV_putI f10_keepsMany_45 (by decide) kk_119 rfl rfl ?_
  refine mV_aload f10_keepsMany_48 rfl ?_
  refine mV_aload f10_keepsMany_49 rfl ?_
  refine mV_aload f10_keepsMany_50 rfl ?_
  refine mV_gI (z3.2 119 41) f10_keepsMany_51 (by decide) kk_119 rfl rfl ?_
  obtain ⟨z4, hz4, hr⟩ := mBind hr
  refine mV_cV f10_keepsMany_54 tg_m10_keeps mCls10 (by decide) kk_119 (mC_deep (c10_keeps X (mW z3.2 119 39 z3.1) s (z3.2 119 41) hz4) (by decide)) rfl rfl (Nat.le_of_ble_eq_true rfl) ?_
  refine mV_putI f10_keepsMany_57 (by decide) kk_119 rfl rfl ?_
  refine mV_aload f10_keepsMany_60 rfl ?_
  refine mV_aload f10_keepsMany_61 rfl ?_
  refine mV_aload f10_keepsMany_62 rfl ?_
  refine mV_gI (z4.2 119 48) f10_keepsMany_63 (by decide) kk_119 rfl rfl ?_
  obtain ⟨z5, hz5, hr⟩ := mBind hr
  refine mV_cV f10_keepsMany_66 tg_m10_keeps mCls10 (by decide) kk_119 (mC_deep (c10_keeps X (mW z4.2 119 41 z4.1) s (z4.2 119 48) hz5) (by decide)) rfl rfl (Nat.le_of_ble_eq_true rfl) ?_
  refine mV_putI f10_keepsMany_69 (by decide) kk_119 rfl rfl ?_
  refine mV_aload f10_keepsMany_72 rfl ?_
  refine mV_aload f10_keepsMany_73 rfl ?_
  refine mV_aload f10_keepsMany_74 rfl ?_
  refine mV_gI (z5.2 119 53) f10_keepsMany_75 (by decide) kk_119 rfl rfl ?_
  obtain ⟨z6, hz6, hr⟩ := mBind hr
  refine mV_cV f10_keepsMany_78 tg_m10_keeps mCls10 (by decide) kk_119 (mC_deep (c10_keeps X (mW z5.2 119 48 z5.1) s (z5.2 119 53) hz6) (by decide)) rfl rfl (Nat.le_of_ble_eq_true rfl) ?_
  refine mV_putI f10_keepsMany_81 (by decide) kk_119 rfl rfl ?_
  have hr := Option.some.inj hr; subst hr
  exact mV_vret rfl f10_keepsMany_84 hQ
theorem c10_keepsMany (X : Nat × (Nat → Int32)) (I : mI) (s : Nat) {res : mI} (hr : r10_keepsMany I = some res) : mC X m10_keepsMany 1 0 0 [.ref 119] NN KK I (PP s) (mRet none NN KK res (PP s)) :=
  mC_of (L0 := [.ref 119]) rfl (Nat.le_of_ble_eq_true rfl) (w10_keepsMany X I s _ hr (mRet_ok _ _ _ _ _))
def l10_keepsTold_2 : Nat → Int32 → mI → Option (mI)
  | 0, _, _ => none
  | f + 1, y1, I => if (12 : Int32) ≤ (y1 : Int32) then some I else (mLd I 123 12 y1).bind fun z0 => (r10_keeps I z0).bind fun z1 => (mSto z1.2 123 12 y1 z1.1).bind fun z2 => (mLd z2 124 12 y1).bind fun z3 => (r10_keeps z2 z3).bind fun z4 => (mSto z4.2 124 12 y1 z4.1).bind fun z5 => (mLd z5 125 12 y1).bind fun z6 => (r10_keeps z5 z6).bind fun z7 => (mSto z7.2 125 12 y1 z7.1).bind fun z8 => (mLd z8 141 24 y1).bind fun z9 => (r10_keeps z8 z9).bind fun z10 => (mSto z10.2 141 24 y1 z10.1).bind fun z11 => l10_keepsTold_2 f (y1 + 1) z11
def l10_keepsTold_80 : Nat → Int32 → mI → Option (mI)
  | 0, _, _ => none
  | f + 1, y1, I => if (6 : Int32) ≤ (y1 : Int32) then some I else (mLd I 126 6 y1).bind fun z0 => (r10_keeps I z0).bind fun z1 => (mSto z1.2 126 6 y1 z1.1).bind fun z2 => (mLd z2 127 6 y1).bind fun z3 => (r10_keeps z2 z3).bind fun z4 => (mSto z4.2 127 6 y1 z4.1).bind fun z5 => l10_keepsTold_80 f (y1 + 1) z5
def l10_keepsTold_126 : Nat → Int32 → mI → Option (mI)
  | 0, _, _ => none
  | f + 1, y1, I => if (8 : Int32) ≤ (y1 : Int32) then some I else (mLd I 149 8 y1).bind fun z0 => (r10_keeps I z0).bind fun z1 => (mSto z1.2 149 8 y1 z1.1).bind fun z2 => l10_keepsTold_126 f (y1 + 1) z2
def l10_keepsTold_156 : Nat → Int32 → mI → Option (mI)
  | 0, _, _ => none
  | f + 1, y1, I => if (16 : Int32) ≤ (y1 : Int32) then some I else (mLd I 146 16 y1).bind fun z0 => (r10_keeps I z0).bind fun z1 => (mSto z1.2 146 16 y1 z1.1).bind fun z2 => l10_keepsTold_156 f (y1 + 1) z2
def l10_keepsTold_186 : Nat → Int32 → mI → Option (mI)
  | 0, _, _ => none
  | f + 1, y1, I => if (9 : Int32) ≤ (y1 : Int32) then some I else (mLd I 150 9 y1).bind fun z0 => (r10_keeps I z0).bind fun z1 => (mSto z1.2 150 9 y1 z1.1).bind fun z2 => (mLd z2 151 9 y1).bind fun z3 => (r10_keeps z2 z3).bind fun z4 => (mSto z4.2 151 9 y1 z4.1).bind fun z5 => (mLd z5 152 9 y1).bind fun z6 => (r10_keeps z5 z6).bind fun z7 => (mSto z7.2 152 9 y1 z7.1).bind fun z8 => l10_keepsTold_186 f (y1 + 1) z8
def l10_keepsTold_248 : Nat → Int32 → mI → Option (mI)
  | 0, _, _ => none
  | f + 1, y1, I => if (144 : Int32) ≤ (y1 : Int32) then some I else (mLd I 139 288 y1).bind fun z0 => (r10_keeps I z0).bind fun z1 => (mSto z1.2 139 288 y1 z1.1).bind fun z2 => l10_keepsTold_248 f (y1 + 1) z2
def l10_keepsTold_279 : Nat → Int32 → mI → Option (mI)
  | 0, _, _ => none
  | f + 1, y1, I => if (48 : Int32) ≤ (y1 : Int32) then some I else (mLd I 140 96 y1).bind fun z0 => (r10_keeps I z0).bind fun z1 => (mSto z1.2 140 96 y1 z1.1).bind fun z2 => l10_keepsTold_279 f (y1 + 1) z2
def r10_keepsTold (I : mI) : Option (mI) := (l10_keepsTold_2 FU 0 I).bind fun z0 => (l10_keepsTold_80 FU 0 z0).bind fun z1 => (l10_keepsTold_126 FU 0 z1).bind fun z2 => (l10_keepsTold_156 FU 0 z2).bind fun z3 => (l10_keepsTold_186 FU 0 z3).bind fun z4 => (l10_keepsTold_248 FU 0 z4).bind fun z5 => (l10_keepsTold_279 FU 0 z5).bind fun z6 => some z6
set_option maxHeartbeats 4000000 in
set_option maxRecDepth 100000 in
theorem t10_keepsTold_2 (X : Nat × (Nat → Int32)) (Q : mQ) (s : Nat) : ∀ (f : Nat) (y1 : Int32) (I : mI) (z : mI), l10_keepsTold_2 f y1 I = some z → mV X m10_keepsTold 1 0 0 78 [.ref 119, mX0] [] NN KK z (PP s) Q → mV X m10_keepsTold 1 0 0 2 [.ref 119, .int y1] [] NN KK I (PP s) Q := by
  intro f
  induction f with
  | zero => intro y1 I z hr hk; cases hr
  | succ f ih =>
    intro y1 I z hr hk
    unfold l10_keepsTold_2 at hr
    refine mV_iload f10_keepsTold_2 rfl ?_
    refine mV_push f10_keepsTold_3 ?_
    refine mV_icmp_ge f10_keepsTold_5 (fun h0 => ?_) (fun h0 => ?_)
    · rw [if_pos h0] at hr
      have hr := Option.some.inj hr; subst hr
      refine mV_drop (L' := [.ref 119, mX0]) (mSub_k (mSub_x mSub_n)) ?_
      exact hk
    · rw [if_neg h0] at hr
      refine mV_aload f10_keepsTold_8 rfl ?_
      refine mV_getP f10_keepsTold_9 (by decide) kk_119 rfl (pp_119_8 _) ?_
      refine mV_iload f10_keepsTold_12 rfl ?_
      refine mV_aload f10_keepsTold_13 rfl ?_
      refine mV_aload f10_keepsTold_14 rfl ?_
      refine mV_getP f10_keepsTold_15 (by decide) kk_119 rfl (pp_119_8 _) ?_
      refine mV_iload f10_keepsTold_18 rfl ?_
      obtain ⟨z0, hz0, hr⟩ := mBind hr
      refine mV_ldO f10_keepsTold_19 (by decide) kk_123 hz0 ?_
      obtain ⟨z1, hz1, hr⟩ := mBind hr
      refine mV_cV f10_keepsTold_20 tg_m10_keeps mCls10 (by decide) kk_119 (mC_deep (c10_keeps X I s z0 hz1) (by decide)) rfl rfl (Nat.le_of_ble_eq_true rfl) ?_
      obtain ⟨z2, hz2, hr⟩ := mBind hr
      refine mV_stO f10_keepsTold_23 (by decide) kk_123 hz2 ?_
      refine mV_aload f10_keepsTold_24 rfl ?_
      refine mV_getP f10_keepsTold_25 (by decide) kk_119 rfl (pp_119_9 _) ?_
      refine mV_iload f10_keepsTold_28 rfl ?_
      refine mV_aload f10_keepsTold_29 rfl ?_
      refine mV_aload f10_keepsTold_30 rfl ?_
      refine mV_getP f10_keepsTold_31 (by decide) kk_119 rfl (pp_119_9 _) ?_
      refine mV_iload f10_keepsTold_34 rfl ?_
      obtain ⟨z3, hz3, hr⟩ := mBind hr
      refine mV_ldO f10_keepsTold_35 (by decide) kk_124 hz3 ?_
      obtain ⟨z4, hz4, hr⟩ := mBind hr
      refine mV_cV f10_keepsTold_36 tg_m10_keeps mCls10 (by decide) kk_119 (mC_deep (c10_keeps X z2 s z3 hz4) (by decide)) rfl rfl (Nat.le_of_ble_eq_true rfl) ?_
      obtain ⟨z5, hz5, hr⟩ := mBind hr
      refine mV_stO f10_keepsTold_39 (by decide) kk_124 hz5 ?_
      refine mV_aload f10_keepsTold_40 rfl ?_
      refine mV_getP f10_keepsTold_41 (by decide) kk_119 rfl (pp_119_10 _) ?_
      refine mV_iload f10_keepsTold_44 rfl ?_
      refine mV_aload f10_keepsTold_45 rfl ?_
      refine mV_aload f10_keepsTold_46 rfl ?_
      refine mV_getP f10_keepsTold_47 (by decide) kk_119 rfl (pp_119_10 _) ?_
      refine mV_iload f10_keepsTold_50 rfl ?_
      obtain ⟨z6, hz6, hr⟩ := mBind hr
      refine mV_ldO f10_keepsTold_51 (by decide) kk_125 hz6 ?_
      obtain ⟨z7, hz7, hr⟩ := mBind hr
      refine mV_cV f10_keepsTold_52 tg_m10_keeps mCls10 (by decide) kk_119 (mC_deep (c10_keeps X z5 s z6 hz7) (by decide)) rfl rfl (Nat.le_of_ble_eq_true rfl) ?_
      obtain ⟨z8, hz8, hr⟩ := mBind hr
      refine mV_stO f10_keepsTold_55 (by decide) kk_125 hz8 ?_
      refine mV_aload f10_keepsTold_56 rfl ?_
      refine mV_getP f10_keepsTold_57 (by decide) kk_119 rfl (pp_119_42 _) ?_
      refine mV_iload f10_keepsTold_60 rfl ?_
      refine mV_aload f10_keepsTold_61 rfl ?_
      refine mV_aload f10_keepsTold_62 rfl ?_
      refine mV_getP f10_keepsTold_63 (by decide) kk_119 rfl (pp_119_42 _) ?_
      refine mV_iload f10_keepsTold_66 rfl ?_
      obtain ⟨z9, hz9, hr⟩ := mBind hr
      refine mV_ldO f10_keepsTold_67 (by decide) kk_141 hz9 ?_
      obtain ⟨z10, hz10, hr⟩ := mBind hr
      refine mV_cV f10_keepsTold_68 tg_m10_keeps mCls10 (by decide) kk_119 (mC_deep (c10_keeps X z8 s z9 hz10) (by decide)) rfl rfl (Nat.le_of_ble_eq_true rfl) ?_
      obtain ⟨z11, hz11, hr⟩ := mBind hr
      refine mV_stO f10_keepsTold_71 (by decide) kk_141 hz11 ?_
      refine mV_iinc (y := (y1 + 1)) (L' := [.ref 119, .int (y1 + 1)]) f10_keepsTold_72 rfl rfl (by decide) rfl rfl ?_
      refine mV_goto f10_keepsTold_75 ?_
      exact ih (y1 + 1) z11 _ hr hk
set_option maxHeartbeats 4000000 in
set_option maxRecDepth 100000 in
theorem t10_keepsTold_80 (X : Nat × (Nat → Int32)) (Q : mQ) (s : Nat) : ∀ (f : Nat) (y1 : Int32) (I : mI) (z : mI), l10_keepsTold_80 f y1 I = some z → mV X m10_keepsTold 1 0 0 124 [.ref 119, mX0] [] NN KK z (PP s) Q → mV X m10_keepsTold 1 0 0 80 [.ref 119, .int y1] [] NN KK I (PP s) Q := by
  intro f
  induction f with
  | zero => intro y1 I z hr hk; cases hr
  | succ f ih =>
    intro y1 I z hr hk
    unfold l10_keepsTold_80 at hr
    refine mV_iload f10_keepsTold_80 rfl ?_
    refine mV_push f10_keepsTold_81 ?_
    refine mV_icmp_ge f10_keepsTold_83 (fun h0 => ?_) (fun h0 => ?_)
    · rw [if_pos h0] at hr
      have hr := Option.some.inj hr; subst hr
      refine mV_drop (L' := [.ref 119, mX0]) (mSub_k (mSub_x mSub_n)) ?_
      exact hk
    · rw [if_neg h0] at hr
      refine mV_aload f10_keepsTold_86 rfl ?_
      refine mV_getP f10_keepsTold_87 (by decide) kk_119 rfl (pp_119_11 _) ?_
      refine mV_iload f10_keepsTold_90 rfl ?_
      refine mV_aload f10_keepsTold_91 rfl ?_
      refine mV_aload f10_keepsTold_92 rfl ?_
      refine mV_getP f10_keepsTold_93 (by decide) kk_119 rfl (pp_119_11 _) ?_
      refine mV_iload f10_keepsTold_96 rfl ?_
      obtain ⟨z0, hz0, hr⟩ := mBind hr
      refine mV_ldO f10_keepsTold_97 (by decide) kk_126 hz0 ?_
      obtain ⟨z1, hz1, hr⟩ := mBind hr
      refine mV_cV f10_keepsTold_98 tg_m10_keeps mCls10 (by decide) kk_119 (mC_deep (c10_keeps X I s z0 hz1) (by decide)) rfl rfl (Nat.le_of_ble_eq_true rfl) ?_
      obtain ⟨z2, hz2, hr⟩ := mBind hr
      refine mV_stO f10_keepsTold_101 (by decide) kk_126 hz2 ?_
      refine mV_aload f10_keepsTold_102 rfl ?_
      refine mV_getP f10_keepsTold_103 (by decide) kk_119 rfl (pp_119_12 _) ?_
      refine mV_iload f10_keepsTold_106 rfl ?_
      refine mV_aload f10_keepsTold_107 rfl ?_
      refine mV_aload f10_keepsTold_108 rfl ?_
      refine mV_getP f10_keepsTold_109 (by decide) kk_119 rfl (pp_119_12 _) ?_
      refine mV_iload f10_keepsTold_112 rfl ?_
      obtain ⟨z3, hz3, hr⟩ := mBind hr
      refine mV_ldO f10_keepsTold_113 (by decide) kk_127 hz3 ?_
      obtain ⟨z4, hz4, hr⟩ := mBind hr
      refine mV_cV f10_keepsTold_114 tg_m10_keeps mCls10 (by decide) kk_119 (mC_deep (c10_keeps X z2 s z3 hz4) (by decide)) rfl rfl (Nat.le_of_ble_eq_true rfl) ?_
      obtain ⟨z5, hz5, hr⟩ := mBind hr
      refine mV_stO f10_keepsTold_117 (by decide) kk_127 hz5 ?_
      refine mV_iinc (y := (y1 + 1)) (L' := [.ref 119, .int (y1 + 1)]) f10_keepsTold_118 rfl rfl (by decide) rfl rfl ?_
      refine mV_goto f10_keepsTold_121 ?_
      exact ih (y1 + 1) z5 _ hr hk
set_option maxHeartbeats 4000000 in
set_option maxRecDepth 100000 in
theorem t10_keepsTold_126 (X : Nat × (Nat → Int32)) (Q : mQ) (s : Nat) : ∀ (f : Nat) (y1 : Int32) (I : mI) (z : mI), l10_keepsTold_126 f y1 I = some z → mV X m10_keepsTold 1 0 0 154 [.ref 119, mX0] [] NN KK z (PP s) Q → mV X m10_keepsTold 1 0 0 126 [.ref 119, .int y1] [] NN KK I (PP s) Q := by
  intro f
  induction f with
  | zero => intro y1 I z hr hk; cases hr
  | succ f ih =>
    intro y1 I z hr hk
    unfold l10_keepsTold_126 at hr
    refine mV_iload f10_keepsTold_126 rfl ?_
    refine mV_push f10_keepsTold_127 ?_
    refine mV_icmp_ge f10_keepsTold_129 (fun h0 => ?_) (fun h0 => ?_)
    · rw [if_pos h0] at hr
      have hr := Option.some.inj hr; subst hr
      refine mV_drop (L' := [.ref 119, mX0]) (mSub_k (mSub_x mSub_n)) ?_
      exact hk
    · rw [if_neg h0] at hr
      refine mV_aload f10_keepsTold_132 rfl ?_
      refine mV_getP f10_keepsTold_133 (by decide) kk_119 rfl (pp_119_52 _) ?_
      refine mV_iload f10_keepsTold_136 rfl ?_
      refine mV_aload f10_keepsTold_137 rfl ?_
      refine mV_aload f10_keepsTold_138 rfl ?_
      refine mV_getP f10_keepsTold_139 (by decide) kk_119 rfl (pp_119_52 _) ?_
      refine mV_iload f10_keepsTold_142 rfl ?_
      obtain ⟨z0, hz0, hr⟩ := mBind hr
      refine mV_ldO f10_keepsTold_143 (by decide) kk_149 hz0 ?_
      obtain ⟨z1, hz1, hr⟩ := mBind hr
      refine mV_cV f10_keepsTold_144 tg_m10_keeps mCls10 (by decide) kk_119 (mC_deep (c10_keeps X I s z0 hz1) (by decide)) rfl rfl (Nat.le_of_ble_eq_true rfl) ?_
      obtain ⟨z2, hz2, hr⟩ := mBind hr
      refine mV_stO f10_keepsTold_147 (by decide) kk_149 hz2 ?_
      refine mV_iinc (y := (y1 + 1)) (L' := [.ref 119, .int (y1 + 1)]) f10_keepsTold_148 rfl rfl (by decide) rfl rfl ?_
      refine mV_goto f10_keepsTold_151 ?_
      exact ih (y1 + 1) z2 _ hr hk
set_option maxHeartbeats 4000000 in
set_option maxRecDepth 100000 in
theorem t10_keepsTold_156 (X : Nat × (Nat → Int32)) (Q : mQ) (s : Nat) : ∀ (f : Nat) (y1 : Int32) (I : mI) (z : mI), l10_keepsTold_156 f y1 I = some z → mV X m10_keepsTold 1 0 0 184 [.ref 119, mX0] [] NN KK z (PP s) Q → mV X m10_keepsTold 1 0 0 156 [.ref 119, .int y1] [] NN KK I (PP s) Q := by
  intro f
  induction f with
  | zero => intro y1 I z hr hk; cases hr
  | succ f ih =>
    intro y1 I z hr hk
    unfold l10_keepsTold_156 at hr
    refine mV_iload f10_keepsTold_156 rfl ?_
    refine mV_push f10_keepsTold_157 ?_
    refine mV_icmp_ge f10_keepsTold_159 (fun h0 => ?_) (fun h0 => ?_)
    · rw [if_pos h0] at hr
      have hr := Option.some.inj hr; subst hr
      refine mV_drop (L' := [.ref 119, mX0]) (mSub_k (mSub_x mSub_n)) ?_
      exact hk
    · rw [if_neg h0] at hr
      refine mV_aload f10_keepsTold_162 rfl ?_
      refine mV_getP f10_keepsTold_163 (by decide) kk_119 rfl (pp_119_49 _) ?_
      refine mV_iload f10_keepsTold_166 rfl ?_
      refine mV_aload f10_keepsTold_167 rfl ?_
      refine mV_aload f10_keepsTold_168 rfl ?_
      refine mV_getP f10_keepsTold_169 (by decide) kk_119 rfl (pp_119_49 _) ?_
      refine mV_iload f10_keepsTold_172 rfl ?_
      obtain ⟨z0, hz0, hr⟩ := mBind hr
      refine mV_ldO f10_keepsTold_173 (by decide) kk_146 hz0 ?_
      obtain ⟨z1, hz1, hr⟩ := mBind hr
      refine mV_cV f10_keepsTold_174 tg_m10_keeps mCls10 (by decide) kk_119 (mC_deep (c10_keeps X I s z0 hz1) (by decide)) rfl rfl (Nat.le_of_ble_eq_true rfl) ?_
      obtain ⟨z2, hz2, hr⟩ := mBind hr
      refine mV_stO f10_keepsTold_177 (by decide) kk_146 hz2 ?_
      refine mV_iinc (y := (y1 + 1)) (L' := [.ref 119, .int (y1 + 1)]) f10_keepsTold_178 rfl rfl (by decide) rfl rfl ?_
      refine mV_goto f10_keepsTold_181 ?_
      exact ih (y1 + 1) z2 _ hr hk
set_option maxHeartbeats 4000000 in
set_option maxRecDepth 100000 in
theorem t10_keepsTold_186 (X : Nat × (Nat → Int32)) (Q : mQ) (s : Nat) : ∀ (f : Nat) (y1 : Int32) (I : mI) (z : mI), l10_keepsTold_186 f y1 I = some z → mV X m10_keepsTold 1 0 0 246 [.ref 119, mX0] [] NN KK z (PP s) Q → mV X m10_keepsTold 1 0 0 186 [.ref 119, .int y1] [] NN KK I (PP s) Q := by
  intro f
  induction f with
  | zero => intro y1 I z hr hk; cases hr
  | succ f ih =>
    intro y1 I z hr hk
    unfold l10_keepsTold_186 at hr
    refine mV_iload f10_keepsTold_186 rfl ?_
    refine mV_push f10_keepsTold_187 ?_
    refine mV_icmp_ge f10_keepsTold_189 (fun h0 => ?_) (fun h0 => ?_)
    · rw [if_pos h0] at hr
      have hr := Option.some.inj hr; subst hr
      refine mV_drop (L' := [.ref 119, mX0]) (mSub_k (mSub_x mSub_n)) ?_
      exact hk
    · rw [if_neg h0] at hr
      refine mV_aload f10_keepsTold_192 rfl ?_
      refine mV_getP f10_keepsTold_193 (by decide) kk_119 rfl (pp_119_54 _) ?_
      refine mV_iload f10_keepsTold_196 rfl ?_
      refine mV_aload f10_keepsTold_197 rfl ?_
      refine mV_aload f10_keepsTold_198 rfl ?_
      refine mV_getP f10_keepsTold_199 (by decide) kk_119 rfl (pp_119_54 _) ?_
      refine mV_iload f10_keepsTold_202 rfl ?_
      obtain ⟨z0, hz0, hr⟩ := mBind hr
      refine mV_ldO f10_keepsTold_203 (by decide) kk_150 hz0 ?_
      obtain ⟨z1, hz1, hr⟩ := mBind hr
      refine mV_cV f10_keepsTold_204 tg_m10_keeps mCls10 (by decide) kk_119 (mC_deep (c10_keeps X I s z0 hz1) (by decide)) rfl rfl (Nat.le_of_ble_eq_true rfl) ?_
      obtain ⟨z2, hz2, hr⟩ := mBind hr
      refine mV_stO f10_keepsTold_207 (by decide) kk_150 hz2 ?_
      refine mV_aload f10_keepsTold_208 rfl ?_
      refine mV_getP f10_keepsTold_209 (by decide) kk_119 rfl (pp_119_55 _) ?_
      refine mV_iload f10_keepsTold_212 rfl ?_
      refine mV_aload f10_keepsTold_213 rfl ?_
      refine mV_aload f10_keepsTold_214 rfl ?_
      refine mV_getP f10_keepsTold_215 (by decide) kk_119 rfl (pp_119_55 _) ?_
      refine mV_iload f10_keepsTold_218 rfl ?_
      obtain ⟨z3, hz3, hr⟩ := mBind hr
      refine mV_ldO f10_keepsTold_219 (by decide) kk_151 hz3 ?_
      obtain ⟨z4, hz4, hr⟩ := mBind hr
      refine mV_cV f10_keepsTold_220 tg_m10_keeps mCls10 (by decide) kk_119 (mC_deep (c10_keeps X z2 s z3 hz4) (by decide)) rfl rfl (Nat.le_of_ble_eq_true rfl) ?_
      obtain ⟨z5, hz5, hr⟩ := mBind hr
      refine mV_stO f10_keepsTold_223 (by decide) kk_151 hz5 ?_
      refine mV_aload f10_keepsTold_224 rfl ?_
      refine mV_getP f10_keepsTold_225 (by decide) kk_119 rfl (pp_119_56 _) ?_
      refine mV_iload f10_keepsTold_228 rfl ?_
      refine mV_aload f10_keepsTold_229 rfl ?_
      refine mV_aload f10_keepsTold_230 rfl ?_
      refine mV_getP f10_keepsTold_231 (by decide) kk_119 rfl (pp_119_56 _) ?_
      refine mV_iload f10_keepsTold_234 rfl ?_
      obtain ⟨z6, hz6, hr⟩ := mBind hr
      refine mV_ldO f10_keepsTold_235 (by decide) kk_152 hz6 ?_
      obtain ⟨z7, hz7, hr⟩ := mBind hr
      refine mV_cV f10_keepsTold_236 tg_m10_keeps mCls10 (by decide) kk_119 (mC_deep (c10_keeps X z5 s z6 hz7) (by decide)) rfl rfl (Nat.le_of_ble_eq_true rfl) ?_
      obtain ⟨z8, hz8, hr⟩ := mBind hr
      refine mV_stO f10_keepsTold_239 (by decide) kk_152 hz8 ?_
      refine mV_iinc (y := (y1 + 1)) (L' := [.ref 119, .int (y1 + 1)]) f10_keepsTold_240 rfl rfl (by decide) rfl rfl ?_
      refine mV_goto f10_keepsTold_243 ?_
      exact ih (y1 + 1) z8 _ hr hk
set_option maxHeartbeats 4000000 in
set_option maxRecDepth 100000 in
theorem t10_keepsTold_248 (X : Nat × (Nat → Int32)) (Q : mQ) (s : Nat) : ∀ (f : Nat) (y1 : Int32) (I : mI) (z : mI), l10_keepsTold_248 f y1 I = some z → mV X m10_keepsTold 1 0 0 277 [.ref 119, mX0] [] NN KK z (PP s) Q → mV X m10_keepsTold 1 0 0 248 [.ref 119, .int y1] [] NN KK I (PP s) Q := by
  intro f
  induction f with
  | zero => intro y1 I z hr hk; cases hr
  | succ f ih =>
    intro y1 I z hr hk
    unfold l10_keepsTold_248 at hr
    refine mV_iload f10_keepsTold_248 rfl ?_
    refine mV_push f10_keepsTold_249 ?_
    refine mV_icmp_ge f10_keepsTold_252 (fun h0 => ?_) (fun h0 => ?_)
    · rw [if_pos h0] at hr
      have hr := Option.some.inj hr; subst hr
      refine mV_drop (L' := [.ref 119, mX0]) (mSub_k (mSub_x mSub_n)) ?_
      exact hk
    · rw [if_neg h0] at hr
      refine mV_aload f10_keepsTold_255 rfl ?_
      refine mV_getP f10_keepsTold_256 (by decide) kk_119 rfl (pp_119_38 _) ?_
      refine mV_iload f10_keepsTold_259 rfl ?_
      refine mV_aload f10_keepsTold_260 rfl ?_
      refine mV_aload f10_keepsTold_261 rfl ?_
      refine mV_getP f10_keepsTold_262 (by decide) kk_119 rfl (pp_119_38 _) ?_
      refine mV_iload f10_keepsTold_265 rfl ?_
      obtain ⟨z0, hz0, hr⟩ := mBind hr
      refine mV_ldO f10_keepsTold_266 (by decide) kk_139 hz0 ?_
      obtain ⟨z1, hz1, hr⟩ := mBind hr
      refine mV_cV f10_keepsTold_267 tg_m10_keeps mCls10 (by decide) kk_119 (mC_deep (c10_keeps X I s z0 hz1) (by decide)) rfl rfl (Nat.le_of_ble_eq_true rfl) ?_
      obtain ⟨z2, hz2, hr⟩ := mBind hr
      refine mV_stO f10_keepsTold_270 (by decide) kk_139 hz2 ?_
      refine mV_iinc (y := (y1 + 1)) (L' := [.ref 119, .int (y1 + 1)]) f10_keepsTold_271 rfl rfl (by decide) rfl rfl ?_
      refine mV_goto f10_keepsTold_274 ?_
      exact ih (y1 + 1) z2 _ hr hk
set_option maxHeartbeats 4000000 in
set_option maxRecDepth 100000 in
theorem t10_keepsTold_279 (X : Nat × (Nat → Int32)) (Q : mQ) (s : Nat) : ∀ (f : Nat) (y1 : Int32) (I : mI) (z : mI), l10_keepsTold_279 f y1 I = some z → mV X m10_keepsTold 1 0 0 307 [.ref 119, mX0] [] NN KK z (PP s) Q → mV X m10_keepsTold 1 0 0 279 [.ref 119, .int y1] [] NN KK I (PP s) Q := by
  intro f
  induction f with
  | zero => intro y1 I z hr hk; cases hr
  | succ f ih =>
    intro y1 I z hr hk
    unfold l10_keepsTold_279 at hr
    refine mV_iload f10_keepsTold_279 rfl ?_
    refine mV_push f10_keepsTold_280 ?_
    refine mV_icmp_ge f10_keepsTold_282 (fun h0 => ?_) (fun h0 => ?_)
    · rw [if_pos h0] at hr
      have hr := Option.some.inj hr; subst hr
      refine mV_drop (L' := [.ref 119, mX0]) (mSub_k (mSub_x mSub_n)) ?_
      exact hk
    · rw [if_neg h0] at hr
      refine mV_aload f10_keepsTold_285 rfl ?_
      refine mV_getP f10_keepsTold_286 (by decide) kk_119 rfl (pp_119_40 _) ?_
      refine mV_iload f10_keepsTold_289 rfl ?_
      refine mV_aload f10_keepsTold_290 rfl ?_
      refine mV_aload f10_keepsTold_291 rfl ?_
      refine mV_getP f10_keepsTold_292 (by decide) kk_119 rfl (pp_119_40 _) ?_
      refine mV_iload f10_keepsTold_295 rfl ?_
      obtain ⟨z0, hz0, hr⟩ := mBind hr
      refine mV_ldO f10_keepsTold_296 (by decide) kk_140 hz0 ?_
      obtain ⟨z1, hz1, hr⟩ := mBind hr
      refine mV_cV f10_keepsTold_297 tg_m10_keeps mCls10 (by decide) kk_119 (mC_deep (c10_keeps X I s z0 hz1) (by decide)) rfl rfl (Nat.le_of_ble_eq_true rfl) ?_
      obtain ⟨z2, hz2, hr⟩ := mBind hr
      refine mV_stO f10_keepsTold_300 (by decide) kk_140 hz2 ?_
      refine mV_iinc (y := (y1 + 1)) (L' := [.ref 119, .int (y1 + 1)]) f10_keepsTold_301 rfl rfl (by decide) rfl rfl ?_
      refine mV_goto f10_keepsTold_304 ?_
      exact ih (y1 + 1) z2 _ hr hk
set_option maxHeartbeats 4000000 in
set_option maxRecDepth 100000 in
theorem w10_keepsTold (X : Nat × (Nat → Int32)) (I : mI) (s : Nat) (Q : mQ) {res : mI} (hr : r10_keepsTold I = some res) (hQ : Q none NN KK res (PP s)) : mV X m10_keepsTold 1 0 0 0 [.ref 119, mX0] [] NN KK I (PP s) Q := by
  unfold r10_keepsTold at hr
  refine mV_push f10_keepsTold_0 ?_
  refine mV_istore (L' := [.ref 119, .int 0]) f10_keepsTold_1 (by decide) rfl rfl ?_
  obtain ⟨z0, hz0, hr⟩ := mBind hr
  refine t10_keepsTold_2 X Q s FU 0 I _ hz0 ?_
  refine mV_push f10_keepsTold_78 ?_
  refine mV_istore (L' := [.ref 119, .int 0]) f10_keepsTold_79 (by decide) rfl rfl ?_
  obtain ⟨z1, hz1, hr⟩ := mBind hr
  refine t10_keepsTold_80 X Q s FU 0 z0 _ hz1 ?_
  refine mV_push f10_keepsTold_124 ?_
  refine mV_istore (L' := [.ref 119, .int 0]) f10_keepsTold_125 (by decide) rfl rfl ?_
  obtain ⟨z2, hz2, hr⟩ := mBind hr
  refine t10_keepsTold_126 X Q s FU 0 z1 _ hz2 ?_
  refine mV_push f10_keepsTold_154 ?_
  refine mV_istore (L' := [.ref 119, .int 0]) f10_keepsTold_155 (by decide) rfl rfl ?_
  obtain ⟨z3, hz3, hr⟩ := mBind hr
  refine t10_keepsTold_156 X Q s FU 0 z2 _ hz3 ?_
  refine mV_push f10_keepsTold_184 ?_
  refine mV_istore (L' := [.ref 119, .int 0]) f10_keepsTold_185 (by decide) rfl rfl ?_
  obtain ⟨z4, hz4, hr⟩ := mBind hr
  refine t10_keepsTold_186 X Q s FU 0 z3 _ hz4 ?_
  refine mV_push f10_keepsTold_246 ?_
  refine mV_istore (L' := [.ref 119, .int 0]) f10_keepsTold_247 (by decide) rfl rfl ?_
  obtain ⟨z5, hz5, hr⟩ := mBind hr
  refine t10_keepsTold_248 X Q s FU 0 z4 _ hz5 ?_
  refine mV_push f10_keepsTold_277 ?_
  refine mV_istore (L' := [.ref 119, .int 0]) f10_keepsTold_278 (by decide) rfl rfl ?_
  obtain ⟨z6, hz6, hr⟩ := mBind hr
  refine t10_keepsTold_279 X Q s FU 0 z5 _ hz6 ?_
  have hr := Option.some.inj hr; subst hr
  exact mV_vret rfl f10_keepsTold_307 hQ
theorem c10_keepsTold (X : Nat × (Nat → Int32)) (I : mI) (s : Nat) {res : mI} (hr : r10_keepsTold I = some res) : mC X m10_keepsTold 1 0 0 [.ref 119] NN KK I (PP s) (mRet none NN KK res (PP s)) :=
  mC_of (L0 := [.ref 119, mX0]) rfl (Nat.le_of_ble_eq_true rfl) (w10_keepsTold X I s _ hr (mRet_ok _ _ _ _ _))

def l10_findsFingers_40 (I : mI) (k1 : Int32) (k2 : Int32) : Nat → Int32 → Int32 → Option (Int32)
  | 0, _, _ => none
  | f + 1, y3, y4 => if (6 : Int32) ≤ (y4 : Int32) then some y3 else if ((I 119 48 - 1) : Int32) ≤ (k1 : Int32) then some y3 else (r10_stepCost I k1 k2 y4).bind fun z0 => (mLd I 147 96 ((6 * (k1 + 1)) + y4)).bind fun z1 => l10_findsFingers_40 I k1 k2 f (r10_lesser y3 (z0 + z1)) (y4 + 1)
def l10_findsFingers_13 (k1 : Int32) : Nat → Int32 → mI → Option (mI)
  | 0, _, _ => none
  | f + 1, y2, I => if (6 : Int32) ≤ (y2 : Int32) then some I else (if (k1 : Int32) = ((I 119 48 - 1) : Int32) then some 0 else some 100000000 : Option (Int32)).bind fun z0 => (l10_findsFingers_40 I k1 y2 FU z0 1).bind fun z1 => (mSto I 147 96 ((6 * k1) + y2) z1).bind fun z2 => l10_findsFingers_13 k1 f (y2 + 1) z2
def l10_findsFingers_7 : Nat → Int32 → mI → Option (mI)
  | 0, _, _ => none
  | f + 1, y1, I => if (y1 : Int32) < (0 : Int32) then some I else (l10_findsFingers_13 y1 FU 1 I).bind fun z0 => l10_findsFingers_7 f (y1 + (-1)) z0
def r10_findsFingers (I : mI) : Option (mI) := (l10_findsFingers_7 FU (I 119 48 - 1) I).bind fun z0 => some z0
set_option maxHeartbeats 4000000 in
set_option maxRecDepth 100000 in
theorem t10_findsFingers_40 (X : Nat × (Nat → Int32)) (Q : mQ) (s : Nat) (I : mI) (k1 : Int32) (k2 : Int32) : ∀ (f : Nat) (y3 : Int32) (y4 : Int32) (z : Int32), l10_findsFingers_40 I k1 k2 f y3 y4 = some z → mV X m10_findsFingers 2 0 0 92 [.ref 119, .int k1, .int k2, .int z, mX0] [] NN KK I (PP s) Q → mV X m10_findsFingers 2 0 0 40 [.ref 119, .int k1, .int k2, .int y3, .int y4] [] NN KK I (PP s) Q := by
  intro f
  induction f with
  | zero => intro y3 y4 z hr hk; cases hr
  | succ f ih =>
    intro y3 y4 z hr hk
    unfold l10_findsFingers_40 at hr
    refine mV_iload f10_findsFingers_40 rfl ?_
    refine mV_push f10_findsFingers_42 ?_
    refine mV_icmp_ge f10_findsFingers_44 (fun h0 => ?_) (fun h0 => ?_)
    · rw [if_pos h0] at hr
      have hr := Option.some.inj hr; subst hr
      refine mV_drop (L' := [.ref 119, .int k1, .int k2, .int y3, mX0]) (mSub_k (mSub_k (mSub_k (mSub_k (mSub_x mSub_n))))) ?_
      exact hk
    · rw [if_neg h0] at hr
      refine mV_iload f10_findsFingers_47 rfl ?_
      refine mV_aload f10_findsFingers_48 rfl ?_
      refine mV_gI (I 119 48) f10_findsFingers_49 (by decide) kk_119 rfl rfl ?_
      refine mV_push f10_findsFingers_52 ?_
      refine mV_isub f10_findsFingers_53 ?_
      refine mV_icmp_ge f10_findsFingers_54 (fun h1 => ?_) (fun h1 => ?_)
      · rw [if_pos h1] at hr
        have hr := Option.some.inj hr; subst hr
        refine mV_drop (L' := [.ref 119, .int k1, .int k2, .int y3, mX0]) (mSub_k (mSub_k (mSub_k (mSub_k (mSub_x mSub_n))))) ?_
        exact hk
      · rw [if_neg h1] at hr
        refine mV_aload f10_findsFingers_57 rfl ?_
        refine mV_iload f10_findsFingers_58 rfl ?_
        refine mV_aload f10_findsFingers_59 rfl ?_
        refine mV_iload f10_findsFingers_60 rfl ?_
        refine mV_iload f10_findsFingers_61 rfl ?_
        refine mV_iload f10_findsFingers_62 rfl ?_
        obtain ⟨z0, hz0, hr⟩ := mBind hr
        refine mV_cV f10_findsFingers_64 tg_m10_stepCost mCls10 (by decide) kk_119 (mC_deep (c10_stepCost X I s k1 k2 y4 hz0) (by decide)) rfl rfl (Nat.le_of_ble_eq_true rfl) ?_
        refine mV_aload f10_findsFingers_67 rfl ?_
        refine mV_getP f10_findsFingers_68 (by decide) kk_119 rfl (pp_119_50 _) ?_
        refine mV_push f10_findsFingers_71 ?_
        refine mV_iload f10_findsFingers_73 rfl ?_
        refine mV_push f10_findsFingers_74 ?_
        refine mV_iadd f10_findsFingers_75 ?_
        refine mV_imul f10_findsFingers_76 ?_
        refine mV_iload f10_findsFingers_77 rfl ?_
        refine mV_iadd f10_findsFingers_79 ?_
        obtain ⟨z1, hz1, hr⟩ := mBind hr
        refine mV_ldO f10_findsFingers_80 (by decide) kk_147 hz1 ?_
        refine mV_iadd f10_findsFingers_81 ?_
        refine mV_cV f10_findsFingers_82 tg_m10_lesser mCls10 (by decide) kk_119 (mC_deep (c10_lesser X I s y3 (z0 + z1) rfl) (by decide)) rfl rfl (Nat.le_of_ble_eq_true rfl) ?_
        refine mV_istore (L' := [.ref 119, .int k1, .int k2, .int (r10_lesser y3 (z0 + z1)), .int y4]) f10_findsFingers_85 (by decide) rfl rfl ?_
        refine mV_iinc (y := (y4 + 1)) (L' := [.ref 119, .int k1, .int k2, .int (r10_lesser y3 (z0 + z1)), .int (y4 + 1)]) f10_findsFingers_86 rfl rfl (by decide) rfl rfl ?_
        refine mV_goto f10_findsFingers_89 ?_
        exact ih (r10_lesser y3 (z0 + z1)) (y4 + 1) _ hr hk
set_option maxHeartbeats 4000000 in
set_option maxRecDepth 100000 in
theorem t10_findsFingers_13 (X : Nat × (Nat → Int32)) (Q : mQ) (s : Nat) (k1 : Int32) : ∀ (f : Nat) (y2 : Int32) (I : mI) (z : mI), l10_findsFingers_13 k1 f y2 I = some z → mV X m10_findsFingers 2 0 0 110 [.ref 119, .int k1, mX0, mX0, mX0] [] NN KK z (PP s) Q → mV X m10_findsFingers 2 0 0 13 [.ref 119, .int k1, .int y2, mX0, mX0] [] NN KK I (PP s) Q := by
  intro f
  induction f with
  | zero => intro y2 I z hr hk; cases hr
  | succ f ih =>
    intro y2 I z hr hk
    unfold l10_findsFingers_13 at hr
    refine mV_iload f10_findsFingers_13 rfl ?_
    refine mV_push f10_findsFingers_14 ?_
    refine mV_icmp_ge f10_findsFingers_16 (fun h0 => ?_) (fun h0 => ?_)
    · rw [if_pos h0] at hr
      have hr := Option.some.inj hr; subst hr
      refine mV_drop (L' := [.ref 119, .int k1, mX0, mX0, mX0]) (mSub_k (mSub_k (mSub_x (mSub_x (mSub_x mSub_n))))) ?_
      exact hk
    · rw [if_neg h0] at hr
      refine mV_iload f10_findsFingers_19 rfl ?_
      refine mV_aload f10_findsFingers_20 rfl ?_
      refine mV_gI (I 119 48) f10_findsFingers_21 (by decide) kk_119 rfl rfl ?_
      refine mV_push f10_findsFingers_24 ?_
      refine mV_isub f10_findsFingers_25 ?_
      obtain ⟨z0, hz0, hr⟩ := mBind hr
      have keyz0 : mV X m10_findsFingers 2 0 0 36 [.ref 119, .int k1, .int y2, mX0, mX0] [.int z0] NN KK I (PP s) Q := by
        refine mV_istore (L' := [.ref 119, .int k1, .int y2, .int z0, mX0]) f10_findsFingers_36 (by decide) rfl rfl ?_
        refine mV_push f10_findsFingers_37 ?_
        refine mV_istore (L' := [.ref 119, .int k1, .int y2, .int z0, .int 1]) f10_findsFingers_38 (by decide) rfl rfl ?_
        obtain ⟨z1, hz1, hr⟩ := mBind hr
        refine t10_findsFingers_40 X Q s I k1 y2 FU z0 1 _ hz1 ?_
        refine mV_aload f10_findsFingers_92 rfl ?_
        refine mV_getP f10_findsFingers_93 (by decide) kk_119 rfl (pp_119_50 _) ?_
        refine mV_push f10_findsFingers_96 ?_
        refine mV_iload f10_findsFingers_98 rfl ?_
        refine mV_imul f10_findsFingers_99 ?_
        refine mV_iload f10_findsFingers_100 rfl ?_
        refine mV_iadd f10_findsFingers_101 ?_
        refine mV_iload f10_findsFingers_102 rfl ?_
        obtain ⟨z2, hz2, hr⟩ := mBind hr
        refine mV_stO f10_findsFingers_103 (by decide) kk_147 hz2 ?_
        refine mV_iinc (y := (y2 + 1)) (L' := [.ref 119, .int k1, .int (y2 + 1), .int z1, mX0]) f10_findsFingers_104 rfl rfl (by decide) rfl rfl ?_
        refine mV_goto f10_findsFingers_107 ?_
        refine mV_drop (L' := [.ref 119, .int k1, .int (y2 + 1), mX0, mX0]) (mSub_k (mSub_k (mSub_k (mSub_x (mSub_x mSub_n))))) ?_
        exact ih (y2 + 1) z2 _ hr hk
      clear hr
      have hr := hz0
      clear hz0
      refine mV_icmp_ne f10_findsFingers_26 (fun h1 => ?_) (fun h1 => ?_)
      · rw [if_neg h1] at hr
        refine mV_push f10_findsFingers_33 ?_
        have hr := Option.some.inj hr; subst hr
        exact keyz0
      · rw [if_pos h1] at hr
        refine mV_push f10_findsFingers_29 ?_
        refine mV_goto f10_findsFingers_30 ?_
        have hr := Option.some.inj hr; subst hr
        exact keyz0
set_option maxHeartbeats 4000000 in
set_option maxRecDepth 100000 in
theorem t10_findsFingers_7 (X : Nat × (Nat → Int32)) (Q : mQ) (s : Nat) : ∀ (f : Nat) (y1 : Int32) (I : mI) (z : mI), l10_findsFingers_7 f y1 I = some z → mV X m10_findsFingers 2 0 0 116 [.ref 119, mX0, mX0, mX0, mX0] [] NN KK z (PP s) Q → mV X m10_findsFingers 2 0 0 7 [.ref 119, .int y1, mX0, mX0, mX0] [] NN KK I (PP s) Q := by
  intro f
  induction f with
  | zero => intro y1 I z hr hk; cases hr
  | succ f ih =>
    intro y1 I z hr hk
    unfold l10_findsFingers_7 at hr
    refine mV_iload f10_findsFingers_7 rfl ?_
    refine mV_if_lt f10_findsFingers_8 (fun h0 => ?_) (fun h0 => ?_)
    · rw [if_pos h0] at hr
      have hr := Option.some.inj hr; subst hr
      refine mV_drop (L' := [.ref 119, mX0, mX0, mX0, mX0]) (mSub_k (mSub_x (mSub_x (mSub_x (mSub_x mSub_n))))) ?_
      exact hk
    · rw [if_neg h0] at hr
      refine mV_push f10_findsFingers_11 ?_
      refine mV_istore (L' := [.ref 119, .int y1, .int 1, mX0, mX0]) f10_findsFingers_12 (by decide) rfl rfl ?_
      obtain ⟨z0, hz0, hr⟩ := mBind hr
      refine t10_findsFingers_13 X Q s y1 FU 1 I _ hz0 ?_
      refine mV_iinc (y := (y1 + (-1))) (L' := [.ref 119, .int (y1 + (-1)), mX0, mX0, mX0]) f10_findsFingers_110 rfl rfl (by decide) rfl rfl ?_
      refine mV_goto f10_findsFingers_113 ?_
      exact ih (y1 + (-1)) z0 _ hr hk
set_option maxHeartbeats 4000000 in
set_option maxRecDepth 100000 in
theorem w10_findsFingers (X : Nat × (Nat → Int32)) (I : mI) (s : Nat) (Q : mQ) {res : mI} (hr : r10_findsFingers I = some res) (hQ : Q none NN KK res (PP s)) : mV X m10_findsFingers 2 0 0 0 [.ref 119, mX0, mX0, mX0, mX0] [] NN KK I (PP s) Q := by
  unfold r10_findsFingers at hr
  refine mV_aload f10_findsFingers_0 rfl ?_
  refine mV_gI (I 119 48) f10_findsFingers_1 (by decide) kk_119 rfl rfl ?_
  refine mV_push f10_findsFingers_4 ?_
  refine mV_isub f10_findsFingers_5 ?_
  refine mV_istore (L' := [.ref 119, .int (I 119 48 - 1), mX0, mX0, mX0]) f10_findsFingers_6 (by decide) rfl rfl ?_
  obtain ⟨z0, hz0, hr⟩ := mBind hr
  refine t10_findsFingers_7 X Q s FU (I 119 48 - 1) I _ hz0 ?_
  have hr := Option.some.inj hr; subst hr
  exact mV_vret rfl f10_findsFingers_116 hQ
theorem c10_findsFingers (X : Nat × (Nat → Int32)) (I : mI) (s : Nat) {res : mI} (hr : r10_findsFingers I = some res) : mC X m10_findsFingers 2 0 0 [.ref 119] NN KK I (PP s) (mRet none NN KK res (PP s)) :=
  mC_of (L0 := [.ref 119, mX0, mX0, mX0, mX0]) rfl (Nat.le_of_ble_eq_true rfl) (w10_findsFingers X I s _ hr (mRet_ok _ _ _ _ _))
def l10_firstFinger_4 (I : mI) : Nat → Int32 → Int32 → Option (Int32)
  | 0, _, _ => none
  | f + 1, y1, y2 => if (6 : Int32) ≤ (y2 : Int32) then some y1 else (mLd I 147 96 y2).bind fun z0 => (mLd I 147 96 y1).bind fun z1 => (if (z1 : Int32) ≤ (z0 : Int32) then some y1 else some y2 : Option (Int32)).bind fun z2 => l10_firstFinger_4 I f z2 (y2 + 1)
def r10_firstFinger (I : mI) : Option (Int32) := (l10_firstFinger_4 I FU 1 2).bind fun z0 => some z0
set_option maxHeartbeats 4000000 in
set_option maxRecDepth 100000 in
theorem t10_firstFinger_4 (X : Nat × (Nat → Int32)) (Q : mQ) (s : Nat) (I : mI) : ∀ (f : Nat) (y1 : Int32) (y2 : Int32) (z : Int32), l10_firstFinger_4 I f y1 y2 = some z → mV X m10_firstFinger 0 0 0 33 [.ref 119, .int z, mX0] [] NN KK I (PP s) Q → mV X m10_firstFinger 0 0 0 4 [.ref 119, .int y1, .int y2] [] NN KK I (PP s) Q := by
  intro f
  induction f with
  | zero => intro y1 y2 z hr hk; cases hr
  | succ f ih =>
    intro y1 y2 z hr hk
    unfold l10_firstFinger_4 at hr
    refine mV_iload f10_firstFinger_4 rfl ?_
    refine mV_push f10_firstFinger_5 ?_
    refine mV_icmp_ge f10_firstFinger_7 (fun h0 => ?_) (fun h0 => ?_)
    · rw [if_pos h0] at hr
      have hr := Option.some.inj hr; subst hr
      refine mV_drop (L' := [.ref 119, .int y1, mX0]) (mSub_k (mSub_k (mSub_x mSub_n))) ?_
      exact hk
    · rw [if_neg h0] at hr
      refine mV_aload f10_firstFinger_10 rfl ?_
      refine mV_getP f10_firstFinger_11 (by decide) kk_119 rfl (pp_119_50 _) ?_
      refine mV_iload f10_firstFinger_14 rfl ?_
      obtain ⟨z0, hz0, hr⟩ := mBind hr
      refine mV_ldO f10_firstFinger_15 (by decide) kk_147 hz0 ?_
      refine mV_aload f10_firstFinger_16 rfl ?_
      refine mV_getP f10_firstFinger_17 (by decide) kk_119 rfl (pp_119_50 _) ?_
      refine mV_iload f10_firstFinger_20 rfl ?_
      obtain ⟨z1, hz1, hr⟩ := mBind hr
      refine mV_ldO f10_firstFinger_21 (by decide) kk_147 hz1 ?_
      obtain ⟨z2, hz2, hr⟩ := mBind hr
      have keyz2 : mV X m10_firstFinger 0 0 0 27 [.ref 119, .int z2, .int y2] [] NN KK I (PP s) Q := by
        refine mV_iinc (y := (y2 + 1)) (L' := [.ref 119, .int z2, .int (y2 + 1)]) f10_firstFinger_27 rfl rfl (by decide) rfl rfl ?_
        refine mV_goto f10_firstFinger_30 ?_
        exact ih z2 (y2 + 1) _ hr hk
      clear hr
      have hr := hz2
      clear hz2
      refine mV_icmp_ge f10_firstFinger_22 (fun h1 => ?_) (fun h1 => ?_)
      · rw [if_pos h1] at hr
        have hr := Option.some.inj hr; subst hr
        exact keyz2
      · rw [if_neg h1] at hr
        refine mV_iload f10_firstFinger_25 rfl ?_
        refine mV_istore (L' := [.ref 119, .int y2, .int y2]) f10_firstFinger_26 (by decide) rfl rfl ?_
        have hr := Option.some.inj hr; subst hr
        exact keyz2
set_option maxHeartbeats 4000000 in
set_option maxRecDepth 100000 in
theorem w10_firstFinger (X : Nat × (Nat → Int32)) (I : mI) (s : Nat) (Q : mQ) {res : Int32} (hr : r10_firstFinger I = some res) (hQ : Q (some (.int res)) NN KK I (PP s)) : mV X m10_firstFinger 0 0 0 0 [.ref 119, mX0, mX0] [] NN KK I (PP s) Q := by
  unfold r10_firstFinger at hr
  refine mV_push f10_firstFinger_0 ?_
  refine mV_istore (L' := [.ref 119, .int 1, mX0]) f10_firstFinger_1 (by decide) rfl rfl ?_
  refine mV_push f10_firstFinger_2 ?_
  refine mV_istore (L' := [.ref 119, .int 1, .int 2]) f10_firstFinger_3 (by decide) rfl rfl ?_
  obtain ⟨z0, hz0, hr⟩ := mBind hr
  refine t10_firstFinger_4 X Q s I FU 1 2 _ hz0 ?_
  refine mV_iload f10_firstFinger_33 rfl ?_
  have hr := Option.some.inj hr; subst hr
  exact mV_iret rfl rfl f10_firstFinger_34 hQ
theorem c10_firstFinger (X : Nat × (Nat → Int32)) (I : mI) (s : Nat) {res : Int32} (hr : r10_firstFinger I = some res) : mC X m10_firstFinger 0 0 0 [.ref 119] NN KK I (PP s) (mRet (some (.int res)) NN KK I (PP s)) :=
  mC_of (L0 := [.ref 119, mX0, mX0]) rfl (Nat.le_of_ble_eq_true rfl) (w10_firstFinger X I s _ hr (mRet_ok _ _ _ _ _))
def l10_fingerOf_15 (I : mI) (k2 : Int32) (k3 : Int32) : Nat → Int32 → Option (Int32)
  | 0, _ => none
  | f + 1, y4 => (r10_stepCost I k3 k2 y4).bind fun z0 => (mLd I 147 96 ((6 * (k3 + 1)) + y4)).bind fun z1 => (mLd I 147 96 ((6 * k3) + k2)).bind fun z2 => if ((z0 + z1) : Int32) = (z2 : Int32) then some y4 else l10_fingerOf_15 I k2 k3 f (y4 + 1)
def l10_fingerOf_7 (I : mI) (k1 : Int32) : Nat → Int32 → Int32 → Option (Int32)
  | 0, _, _ => none
  | f + 1, y2, y3 => if (k1 : Int32) ≤ (y3 : Int32) then some y2 else (l10_fingerOf_15 I y2 y3 FU 1).bind fun z0 => l10_fingerOf_7 I k1 f z0 (y3 + 1)
def r10_fingerOf (I : mI) (x0 : Int32) : Option (Int32) := (r10_firstFinger I).bind fun z0 => (l10_fingerOf_7 I x0 FU z0 0).bind fun z1 => some z1
set_option maxHeartbeats 4000000 in
set_option maxRecDepth 100000 in
theorem t10_fingerOf_15 (X : Nat × (Nat → Int32)) (Q : mQ) (s : Nat) (I : mI) (k1 : Int32) (k2 : Int32) (k3 : Int32) : ∀ (f : Nat) (y4 : Int32) (z : Int32), l10_fingerOf_15 I k2 k3 f y4 = some z → mV X m10_fingerOf 2 0 0 61 [.ref 119, .int k1, .int k2, .int k3, .int z] [] NN KK I (PP s) Q → mV X m10_fingerOf 2 0 0 15 [.ref 119, .int k1, .int k2, .int k3, .int y4] [] NN KK I (PP s) Q := by
  intro f
  induction f with
  | zero => intro y4 z hr hk; cases hr
  | succ f ih =>
    intro y4 z hr hk
    unfold l10_fingerOf_15 at hr
    refine mV_aload f10_fingerOf_15 rfl ?_
    refine mV_iload f10_fingerOf_16 rfl ?_
    refine mV_iload f10_fingerOf_17 rfl ?_
    refine mV_iload f10_fingerOf_18 rfl ?_
    obtain ⟨z0, hz0, hr⟩ := mBind hr
    refine mV_cV f10_fingerOf_20 tg_m10_stepCost mCls10 (by decide) kk_119 (mC_deep (c10_stepCost X I s k3 k2 y4 hz0) (by decide)) rfl rfl (Nat.le_of_ble_eq_true rfl) ?_
    refine mV_aload f10_fingerOf_23 rfl ?_
    refine mV_getP f10_fingerOf_24 (by decide) kk_119 rfl (pp_119_50 _) ?_
    refine mV_push f10_fingerOf_27 ?_
    refine mV_iload f10_fingerOf_29 rfl ?_
    refine mV_push f10_fingerOf_30 ?_
    refine mV_iadd f10_fingerOf_31 ?_
    refine mV_imul f10_fingerOf_32 ?_
    refine mV_iload f10_fingerOf_33 rfl ?_
    refine mV_iadd f10_fingerOf_35 ?_
    obtain ⟨z1, hz1, hr⟩ := mBind hr
    refine mV_ldO f10_fingerOf_36 (by decide) kk_147 hz1 ?_
    refine mV_iadd f10_fingerOf_37 ?_
    refine mV_aload f10_fingerOf_38 rfl ?_
    refine mV_getP f10_fingerOf_39 (by decide) kk_119 rfl (pp_119_50 _) ?_
    refine mV_push f10_fingerOf_42 ?_
    refine mV_iload f10_fingerOf_44 rfl ?_
    refine mV_imul f10_fingerOf_45 ?_
    refine mV_iload f10_fingerOf_46 rfl ?_
    refine mV_iadd f10_fingerOf_47 ?_
    obtain ⟨z2, hz2, hr⟩ := mBind hr
    refine mV_ldO f10_fingerOf_48 (by decide) kk_147 hz2 ?_
    refine mV_icmp_eq f10_fingerOf_49 (fun h0 => ?_) (fun h0 => ?_)
    · rw [if_pos h0] at hr
      have hr := Option.some.inj hr; subst hr
      exact hk
    · rw [if_neg h0] at hr
      refine mV_iload f10_fingerOf_52 rfl ?_
      refine mV_push f10_fingerOf_54 ?_
      refine mV_iadd f10_fingerOf_55 ?_
      refine mV_istore (L' := [.ref 119, .int k1, .int k2, .int k3, .int (y4 + 1)]) f10_fingerOf_56 (by decide) rfl rfl ?_
      refine mV_goto f10_fingerOf_58 ?_
      exact ih (y4 + 1) _ hr hk
set_option maxHeartbeats 4000000 in
set_option maxRecDepth 100000 in
theorem t10_fingerOf_7 (X : Nat × (Nat → Int32)) (Q : mQ) (s : Nat) (I : mI) (k1 : Int32) : ∀ (f : Nat) (y2 : Int32) (y3 : Int32) (z : Int32), l10_fingerOf_7 I k1 f y2 y3 = some z → mV X m10_fingerOf 2 0 0 70 [.ref 119, .int k1, .int z, mX0, mX0] [] NN KK I (PP s) Q → mV X m10_fingerOf 2 0 0 7 [.ref 119, .int k1, .int y2, .int y3, mX0] [] NN KK I (PP s) Q := by
  intro f
  induction f with
  | zero => intro y2 y3 z hr hk; cases hr
  | succ f ih =>
    intro y2 y3 z hr hk
    unfold l10_fingerOf_7 at hr
    refine mV_iload f10_fingerOf_7 rfl ?_
    refine mV_iload f10_fingerOf_8 rfl ?_
    refine mV_icmp_ge f10_fingerOf_9 (fun h0 => ?_) (fun h0 => ?_)
    · rw [if_pos h0] at hr
      have hr := Option.some.inj hr; subst hr
      refine mV_drop (L' := [.ref 119, .int k1, .int y2, mX0, mX0]) (mSub_k (mSub_k (mSub_k (mSub_x (mSub_x mSub_n))))) ?_
      exact hk
    · rw [if_neg h0] at hr
      refine mV_push f10_fingerOf_12 ?_
      refine mV_istore (L' := [.ref 119, .int k1, .int y2, .int y3, .int 1]) f10_fingerOf_13 (by decide) rfl rfl ?_
      obtain ⟨z0, hz0, hr⟩ := mBind hr
      refine t10_fingerOf_15 X Q s I k1 y2 y3 FU 1 _ hz0 ?_
      refine mV_iload f10_fingerOf_61 rfl ?_
      refine mV_istore (L' := [.ref 119, .int k1, .int z0, .int y3, .int z0]) f10_fingerOf_63 (by decide) rfl rfl ?_
      refine mV_iinc (y := (y3 + 1)) (L' := [.ref 119, .int k1, .int z0, .int (y3 + 1), .int z0]) f10_fingerOf_64 rfl rfl (by decide) rfl rfl ?_
      refine mV_goto f10_fingerOf_67 ?_
      refine mV_drop (L' := [.ref 119, .int k1, .int z0, .int (y3 + 1), mX0]) (mSub_k (mSub_k (mSub_k (mSub_k (mSub_x mSub_n))))) ?_
      exact ih z0 (y3 + 1) _ hr hk
set_option maxHeartbeats 4000000 in
set_option maxRecDepth 100000 in
theorem w10_fingerOf (X : Nat × (Nat → Int32)) (I : mI) (s : Nat) (x0 : Int32) (Q : mQ) {res : Int32} (hr : r10_fingerOf I x0 = some res) (hQ : Q (some (.int res)) NN KK I (PP s)) : mV X m10_fingerOf 2 0 0 0 [.ref 119, .int x0, mX0, mX0, mX0] [] NN KK I (PP s) Q := by
  unfold r10_fingerOf at hr
  refine mV_aload f10_fingerOf_0 rfl ?_
  obtain ⟨z0, hz0, hr⟩ := mBind hr
  refine mV_cV f10_fingerOf_1 tg_m10_firstFinger mCls10 (by decide) kk_119 (mC_deep (c10_firstFinger X I s hz0) (by decide)) rfl rfl (Nat.le_of_ble_eq_true rfl) ?_
  refine mV_istore (L' := [.ref 119, .int x0, .int z0, mX0, mX0]) f10_fingerOf_4 (by decide) rfl rfl ?_
  refine mV_push f10_fingerOf_5 ?_
  refine mV_istore (L' := [.ref 119, .int x0, .int z0, .int 0, mX0]) f10_fingerOf_6 (by decide) rfl rfl ?_
  obtain ⟨z1, hz1, hr⟩ := mBind hr
  refine t10_fingerOf_7 X Q s I x0 FU z0 0 _ hz1 ?_
  refine mV_iload f10_fingerOf_70 rfl ?_
  have hr := Option.some.inj hr; subst hr
  exact mV_iret rfl rfl f10_fingerOf_71 hQ
theorem c10_fingerOf (X : Nat × (Nat → Int32)) (I : mI) (s : Nat) (x0 : Int32) {res : Int32} (hr : r10_fingerOf I x0 = some res) : mC X m10_fingerOf 2 0 0 [.ref 119, .int x0] NN KK I (PP s) (mRet (some (.int res)) NN KK I (PP s)) :=
  mC_of (L0 := [.ref 119, .int x0, mX0, mX0, mX0]) rfl (Nat.le_of_ble_eq_true rfl) (w10_fingerOf X I s x0 _ hr (mRet_ok _ _ _ _ _))
def r10_tune (I : mI) (x0 : Int32) : Option (Int32 × mI) := if (x0 : Int32) = (0 : Int32) then (if (x0 : Int32) = (1 : Int32) then some 1 else some 0 : Option (Int32)).bind fun z0 => (r10_twice (mW I 119 0 0) z0).bind fun z1 => some (z1, (mW I 119 0 0)) else if (x0 : Int32) = (1 : Int32) then (if (x0 : Int32) = (1 : Int32) then some 1 else some 0 : Option (Int32)).bind fun z13 => (r10_twice (mW I 119 0 0) z13).bind fun z14 => some (z14, (mW I 119 0 0)) else if (x0 : Int32) = (2 : Int32) then (r10_rises (mW I 119 0 0)).bind fun z12 => some (z12, (mW I 119 0 0)) else if (x0 : Int32) = (3 : Int32) then (r10_findsFingers (mW I 119 0 0)).bind fun z2 => (if (x0 : Int32) ≤ (3 : Int32) then if (z2 119 48 : Int32) = (0 : Int32) then some 0 else (r10_firstFinger z2).bind fun z4 => (mLd z2 147 96 z4).bind fun z5 => some z5 else (r10_fingerOf z2 (x0 - 10)).bind fun z6 => some z6 : Option (Int32)).bind fun z3 => some (z3, z2) else if ((r10_isIn x0 10 (9 + I 119 48)) : Int32) = (0 : Int32) then some ((-1), (mW I 119 0 0)) else (r10_findsFingers (mW I 119 0 0)).bind fun z7 => (if (x0 : Int32) ≤ (3 : Int32) then if (z7 119 48 : Int32) = (0 : Int32) then some 0 else (r10_firstFinger z7).bind fun z9 => (mLd z7 147 96 z9).bind fun z10 => some z10 else (r10_fingerOf z7 (x0 - 10)).bind fun z11 => some z11 : Option (Int32)).bind fun z8 => some (z8, z7)
set_option maxHeartbeats 4000000 in
set_option maxRecDepth 100000 in
theorem w10_tune (X : Nat × (Nat → Int32)) (I : mI) (s : Nat) (x0 : Int32) (Q : mQ) {res : Int32 × mI} (hr : r10_tune I x0 = some res) (hQ : Q (some (.int res.1)) NN KK res.2 (PP s)) : mV X m10_tune 3 0 0 0 [.ref 119, .int x0] [] NN KK I (PP s) Q := by
  unfold r10_tune at hr
  refine mV_aload f10_tune_0 rfl ?_
  refine mV_push f10_tune_1 ?_
  refine mV_putI f10_tune_2 (by decide) kk_119 rfl rfl ?_
  refine mV_iload f10_tune_5 rfl ?_
  refine mV_if_eq f10_tune_6 (fun h0 => ?_) (fun h0 => ?_)
  · rw [if_pos h0] at hr
    refine mV_aload f10_tune_14 rfl ?_
    refine mV_iload f10_tune_15 rfl ?_
    refine mV_push f10_tune_16 ?_
    obtain ⟨z0, hz0, hr⟩ := mBind hr
    have keyz0 : mV X m10_tune 3 0 0 25 [.ref 119, mX0] [.int z0, .ref 119] NN KK (mW I 119 0 0) (PP s) Q := by
      obtain ⟨z1, hz1, hr⟩ := mBind hr
      refine mV_cV f10_tune_25 tg_m10_twice mCls10 (by decide) kk_119 (mC_deep (c10_twice X (mW I 119 0 0) s z0 hz1) (by decide)) rfl rfl (Nat.le_of_ble_eq_true rfl) ?_
      have hr := Option.some.inj hr; subst hr
      exact mV_iret rfl rfl f10_tune_28 hQ
    clear hr
    have hr := hz0
    clear hz0
    refine mV_icmp_ne f10_tune_17 (fun h1 => ?_) (fun h1 => ?_)
    · rw [if_neg h1] at hr
      refine mV_push f10_tune_24 ?_
      have hr := Option.some.inj hr; subst hr
      refine mV_drop (L' := [.ref 119, mX0]) (mSub_k (mSub_x mSub_n)) ?_
      exact keyz0
    · rw [if_pos h1] at hr
      refine mV_push f10_tune_20 ?_
      refine mV_goto f10_tune_21 ?_
      have hr := Option.some.inj hr; subst hr
      refine mV_drop (L' := [.ref 119, mX0]) (mSub_k (mSub_x mSub_n)) ?_
      exact keyz0
  · rw [if_neg h0] at hr
    refine mV_iload f10_tune_9 rfl ?_
    refine mV_push f10_tune_10 ?_
    refine mV_icmp_ne f10_tune_11 (fun h2 => ?_) (fun h2 => ?_)
    · rw [if_neg h2] at hr
      refine mV_iload f10_tune_29 rfl ?_
      refine mV_push f10_tune_30 ?_
      refine mV_icmp_ne f10_tune_31 (fun h3 => ?_) (fun h3 => ?_)
      · rw [if_neg h3] at hr
        refine mV_iload f10_tune_39 rfl ?_
        refine mV_push f10_tune_40 ?_
        refine mV_icmp_eq f10_tune_41 (fun h4 => ?_) (fun h4 => ?_)
        · rw [if_pos h4] at hr
          refine mV_aload f10_tune_63 rfl ?_
          obtain ⟨z2, hz2, hr⟩ := mBind hr
          refine mV_cV f10_tune_64 tg_m10_findsFingers mCls10 (by decide) kk_119 (mC_deep (c10_findsFingers X (mW I 119 0 0) s hz2) (by decide)) rfl rfl (Nat.le_of_ble_eq_true rfl) ?_
          refine mV_iload f10_tune_67 rfl ?_
          refine mV_push f10_tune_68 ?_
          obtain ⟨z3, hz3, hr⟩ := mBind hr
          have keyz3 : mV X m10_tune 3 0 0 103 [.ref 119, mX0] [.int z3] NN KK z2 (PP s) Q := by
            have hr := Option.some.inj hr; subst hr
            exact mV_iret rfl rfl f10_tune_103 hQ
          clear hr
          have hr := hz3
          clear hz3
          refine mV_icmp_le f10_tune_69 (fun h5 => ?_) (fun h5 => ?_)
          · rw [if_pos h5] at hr
            refine mV_aload f10_tune_83 rfl ?_
            refine mV_gI (z2 119 48) f10_tune_84 (by decide) kk_119 rfl rfl ?_
            refine mV_if_ne f10_tune_87 (fun h6 => ?_) (fun h6 => ?_)
            · rw [if_neg h6] at hr
              refine mV_aload f10_tune_94 rfl ?_
              refine mV_getP f10_tune_95 (by decide) kk_119 rfl (pp_119_50 _) ?_
              refine mV_aload f10_tune_98 rfl ?_
              obtain ⟨z4, hz4, hr⟩ := mBind hr
              refine mV_cV f10_tune_99 tg_m10_firstFinger mCls10 (by decide) kk_119 (mC_deep (c10_firstFinger X z2 s hz4) (by decide)) rfl rfl (Nat.le_of_ble_eq_true rfl) ?_
              obtain ⟨z5, hz5, hr⟩ := mBind hr
              refine mV_ldO f10_tune_102 (by decide) kk_147 hz5 ?_
              have hr := Option.some.inj hr; subst hr
              refine mV_drop (L' := [.ref 119, mX0]) (mSub_k (mSub_x mSub_n)) ?_
              exact keyz3
            · rw [if_pos h6] at hr
              refine mV_push f10_tune_90 ?_
              refine mV_goto f10_tune_91 ?_
              have hr := Option.some.inj hr; subst hr
              refine mV_drop (L' := [.ref 119, mX0]) (mSub_k (mSub_x mSub_n)) ?_
              exact keyz3
          · rw [if_neg h5] at hr
            refine mV_aload f10_tune_72 rfl ?_
            refine mV_iload f10_tune_73 rfl ?_
            refine mV_push f10_tune_74 ?_
            refine mV_isub f10_tune_76 ?_
            obtain ⟨z6, hz6, hr⟩ := mBind hr
            refine mV_cV f10_tune_77 tg_m10_fingerOf mCls10 (by decide) kk_119 (mC_deep (c10_fingerOf X z2 s (x0 - 10) hz6) (by decide)) rfl rfl (Nat.le_of_ble_eq_true rfl) ?_
            refine mV_goto f10_tune_80 ?_
            have hr := Option.some.inj hr; subst hr
            refine mV_drop (L' := [.ref 119, mX0]) (mSub_k (mSub_x mSub_n)) ?_
            exact keyz3
        · rw [if_neg h4] at hr
          refine mV_aload f10_tune_44 rfl ?_
          refine mV_iload f10_tune_45 rfl ?_
          refine mV_push f10_tune_46 ?_
          refine mV_push f10_tune_48 ?_
          refine mV_aload f10_tune_50 rfl ?_
          refine mV_gI (I 119 48) f10_tune_51 (by decide) kk_119 rfl rfl ?_
          refine mV_iadd f10_tune_54 ?_
          refine mV_cV f10_tune_55 tg_m10_isIn mCls10 (by decide) kk_119 (mC_deep (c10_isIn X (mW I 119 0 0) s x0 10 (9 + I 119 48) rfl) (by decide)) rfl rfl (Nat.le_of_ble_eq_true rfl) ?_
          refine mV_if_ne f10_tune_58 (fun h7 => ?_) (fun h7 => ?_)
          · rw [if_neg h7] at hr
            refine mV_aload f10_tune_63 rfl ?_
            obtain ⟨z7, hz7, hr⟩ := mBind hr
            refine mV_cV f10_tune_64 tg_m10_findsFingers mCls10 (by decide) kk_119 (mC_deep (c10_findsFingers X (mW I 119 0 0) s hz7) (by decide)) rfl rfl (Nat.le_of_ble_eq_true rfl) ?_
            refine mV_iload f10_tune_67 rfl ?_
            refine mV_push f10_tune_68 ?_
            obtain ⟨z8, hz8, hr⟩ := mBind hr
            have keyz8 : mV X m10_tune 3 0 0 103 [.ref 119, mX0] [.int z8] NN KK z7 (PP s) Q := by
              have hr := Option.some.inj hr; subst hr
              exact mV_iret rfl rfl f10_tune_103 hQ
            clear hr
            have hr := hz8
            clear hz8
            refine mV_icmp_le f10_tune_69 (fun h8 => ?_) (fun h8 => ?_)
            · rw [if_pos h8] at hr
              refine mV_aload f10_tune_83 rfl ?_
              refine mV_gI (z7 119 48) f10_tune_84 (by decide) kk_119 rfl rfl ?_
              refine mV_if_ne f10_tune_87 (fun h9 => ?_) (fun h9 => ?_)
              · rw [if_neg h9] at hr
                refine mV_aload f10_tune_94 rfl ?_
                refine mV_getP f10_tune_95 (by decide) kk_119 rfl (pp_119_50 _) ?_
                refine mV_aload f10_tune_98 rfl ?_
                obtain ⟨z9, hz9, hr⟩ := mBind hr
                refine mV_cV f10_tune_99 tg_m10_firstFinger mCls10 (by decide) kk_119 (mC_deep (c10_firstFinger X z7 s hz9) (by decide)) rfl rfl (Nat.le_of_ble_eq_true rfl) ?_
                obtain ⟨z10, hz10, hr⟩ := mBind hr
                refine mV_ldO f10_tune_102 (by decide) kk_147 hz10 ?_
                have hr := Option.some.inj hr; subst hr
                refine mV_drop (L' := [.ref 119, mX0]) (mSub_k (mSub_x mSub_n)) ?_
                exact keyz8
              · rw [if_pos h9] at hr
                refine mV_push f10_tune_90 ?_
                refine mV_goto f10_tune_91 ?_
                have hr := Option.some.inj hr; subst hr
                refine mV_drop (L' := [.ref 119, mX0]) (mSub_k (mSub_x mSub_n)) ?_
                exact keyz8
            · rw [if_neg h8] at hr
              refine mV_aload f10_tune_72 rfl ?_
              refine mV_iload f10_tune_73 rfl ?_
              refine mV_push f10_tune_74 ?_
              refine mV_isub f10_tune_76 ?_
              obtain ⟨z11, hz11, hr⟩ := mBind hr
              refine mV_cV f10_tune_77 tg_m10_fingerOf mCls10 (by decide) kk_119 (mC_deep (c10_fingerOf X z7 s (x0 - 10) hz11) (by decide)) rfl rfl (Nat.le_of_ble_eq_true rfl) ?_
              refine mV_goto f10_tune_80 ?_
              have hr := Option.some.inj hr; subst hr
              refine mV_drop (L' := [.ref 119, mX0]) (mSub_k (mSub_x mSub_n)) ?_
              exact keyz8
          · rw [if_pos h7] at hr
            refine mV_push f10_tune_61 ?_
            have hr := Option.some.inj hr; subst hr
            exact mV_iret rfl rfl f10_tune_62 hQ
      · rw [if_pos h3] at hr
        refine mV_aload f10_tune_34 rfl ?_
        obtain ⟨z12, hz12, hr⟩ := mBind hr
        refine mV_cV f10_tune_35 tg_m10_rises mCls10 (by decide) kk_119 (mC_deep (c10_rises X (mW I 119 0 0) s hz12) (by decide)) rfl rfl (Nat.le_of_ble_eq_true rfl) ?_
        have hr := Option.some.inj hr; subst hr
        exact mV_iret rfl rfl f10_tune_38 hQ
    · rw [if_pos h2] at hr
      refine mV_aload f10_tune_14 rfl ?_
      refine mV_iload f10_tune_15 rfl ?_
      refine mV_push f10_tune_16 ?_
      obtain ⟨z13, hz13, hr⟩ := mBind hr
      have keyz13 : mV X m10_tune 3 0 0 25 [.ref 119, mX0] [.int z13, .ref 119] NN KK (mW I 119 0 0) (PP s) Q := by
        obtain ⟨z14, hz14, hr⟩ := mBind hr
        refine mV_cV f10_tune_25 tg_m10_twice mCls10 (by decide) kk_119 (mC_deep (c10_twice X (mW I 119 0 0) s z13 hz14) (by decide)) rfl rfl (Nat.le_of_ble_eq_true rfl) ?_
        have hr := Option.some.inj hr; subst hr
        exact mV_iret rfl rfl f10_tune_28 hQ
      clear hr
      have hr := hz13
      clear hz13
      refine mV_icmp_ne f10_tune_17 (fun h10 => ?_) (fun h10 => ?_)
      · rw [if_neg h10] at hr
        refine mV_push f10_tune_24 ?_
        have hr := Option.some.inj hr; subst hr
        refine mV_drop (L' := [.ref 119, mX0]) (mSub_k (mSub_x mSub_n)) ?_
        exact keyz13
      · rw [if_pos h10] at hr
        refine mV_push f10_tune_20 ?_
        refine mV_goto f10_tune_21 ?_
        have hr := Option.some.inj hr; subst hr
        refine mV_drop (L' := [.ref 119, mX0]) (mSub_k (mSub_x mSub_n)) ?_
        exact keyz13
theorem c10_tune (X : Nat × (Nat → Int32)) (I : mI) (s : Nat) (x0 : Int32) {res : Int32 × mI} (hr : r10_tune I x0 = some res) : mC X m10_tune 3 0 0 [.ref 119, .int x0] NN KK I (PP s) (mRet (some (.int res.1)) NN KK res.2 (PP s)) :=
  mC_of (L0 := [.ref 119, .int x0]) rfl (Nat.le_of_ble_eq_true rfl) (w10_tune X I s x0 _ hr (mRet_ok _ _ _ _ _))
def r10_isSweet (x0 : Int32) : Int32 := if (x0 : Int32) = (0 : Int32) then 1 else if (x0 : Int32) = (3 : Int32) then 1 else if (x0 : Int32) = (4 : Int32) then 1 else if ((r10_isIn x0 7 9) : Int32) = (0 : Int32) then 0 else 1
set_option maxHeartbeats 4000000 in
set_option maxRecDepth 100000 in
theorem w10_isSweet (X : Nat × (Nat → Int32)) (I : mI) (s : Nat) (x0 : Int32) (Q : mQ) {res : Int32} (hr : r10_isSweet x0 = res) (hQ : Q (some (.int res)) NN KK I (PP s)) : mV X m10_isSweet 1 0 0 0 [.ref 119, .int x0] [] NN KK I (PP s) Q := by
  unfold r10_isSweet at hr
  refine mV_iload f10_isSweet_0 rfl ?_
  refine mV_if_eq f10_isSweet_1 (fun h0 => ?_) (fun h0 => ?_)
  · rw [if_pos h0] at hr
    refine mV_push f10_isSweet_26 ?_
    refine mV_goto f10_isSweet_27 ?_
    subst hr
    exact mV_iret rfl rfl f10_isSweet_31 hQ
  · rw [if_neg h0] at hr
    refine mV_iload f10_isSweet_4 rfl ?_
    refine mV_push f10_isSweet_5 ?_
    refine mV_icmp_eq f10_isSweet_6 (fun h1 => ?_) (fun h1 => ?_)
    · rw [if_pos h1] at hr
      refine mV_push f10_isSweet_26 ?_
      refine mV_goto f10_isSweet_27 ?_
      subst hr
      exact mV_iret rfl rfl f10_isSweet_31 hQ
    · rw [if_neg h1] at hr
      refine mV_iload f10_isSweet_9 rfl ?_
      refine mV_push f10_isSweet_10 ?_
      refine mV_icmp_eq f10_isSweet_11 (fun h2 => ?_) (fun h2 => ?_)
      · rw [if_pos h2] at hr
        refine mV_push f10_isSweet_26 ?_
        refine mV_goto f10_isSweet_27 ?_
        subst hr
        exact mV_iret rfl rfl f10_isSweet_31 hQ
      · rw [if_neg h2] at hr
        refine mV_aload f10_isSweet_14 rfl ?_
        refine mV_iload f10_isSweet_15 rfl ?_
        refine mV_push f10_isSweet_16 ?_
        refine mV_push f10_isSweet_18 ?_
        refine mV_cV f10_isSweet_20 tg_m10_isIn mCls10 (by decide) kk_119 (mC_deep (c10_isIn X I s x0 7 9 rfl) (by decide)) rfl rfl (Nat.le_of_ble_eq_true rfl) ?_
        refine mV_if_eq f10_isSweet_23 (fun h3 => ?_) (fun h3 => ?_)
        · rw [if_pos h3] at hr
          refine mV_push f10_isSweet_30 ?_
          subst hr
          exact mV_iret rfl rfl f10_isSweet_31 hQ
        · rw [if_neg h3] at hr
          refine mV_push f10_isSweet_26 ?_
          refine mV_goto f10_isSweet_27 ?_
          subst hr
          exact mV_iret rfl rfl f10_isSweet_31 hQ
theorem c10_isSweet (X : Nat × (Nat → Int32)) (I : mI) (s : Nat) (x0 : Int32) {res : Int32} (hr : r10_isSweet x0 = res) : mC X m10_isSweet 1 0 0 [.ref 119, .int x0] NN KK I (PP s) (mRet (some (.int res)) NN KK I (PP s)) :=
  mC_of (L0 := [.ref 119, .int x0]) rfl (Nat.le_of_ble_eq_true rfl) (w10_isSweet X I s x0 _ hr (mRet_ok _ _ _ _ _))
def l10_canon_45 (I : mI) (k1 : Int32) (k2 : Int32) (k3 : Int32) : Nat → Int32 → Int32 → Option (Int32)
  | 0, _, _ => none
  | f + 1, y4, y5 => if (I 119 48 : Int32) ≤ (y5 : Int32) then some y4 else (if (k3 : Int32) = (0 : Int32) then some (y4 + 1) else (mLd I 146 16 y5).bind fun z1 => (mLd I 146 16 (y5 - k1)).bind fun z2 => if ((r10_isSweet (mRm (r10_apart z1 (z2 + k2)) 12)) : Int32) = (0 : Int32) then some y4 else some (y4 + 1) : Option (Int32)).bind fun z0 => l10_canon_45 I k1 k2 k3 f z0 (y5 + 1)
def r10_canon (I : mI) (x0 : Int32) (x1 : Int32) (x2 : Int32) : Option (Int32 × mI) := if ((r10_isIn x0 1 15) : Int32) = (0 : Int32) then some ((-1), (mW I 119 0 0)) else if ((r10_isIn x1 0 12) : Int32) = (0 : Int32) then some ((-1), (mW I 119 0 0)) else if ((r10_isIn x2 0 1) : Int32) = (0 : Int32) then some ((-1), (mW I 119 0 0)) else (l10_canon_45 (mW I 119 0 0) x0 x1 x2 FU 0 x0).bind fun z0 => some (z0, (mW I 119 0 0))
set_option maxHeartbeats 4000000 in
set_option maxRecDepth 100000 in
theorem t10_canon_45 (X : Nat × (Nat → Int32)) (Q : mQ) (s : Nat) (I : mI) (k1 : Int32) (k2 : Int32) (k3 : Int32) : ∀ (f : Nat) (y4 : Int32) (y5 : Int32) (z : Int32), l10_canon_45 I k1 k2 k3 f y4 y5 = some z → mV X m10_canon 2 0 0 102 [.ref 119, .int k1, .int k2, .int k3, .int z, mX0] [] NN KK I (PP s) Q → mV X m10_canon 2 0 0 45 [.ref 119, .int k1, .int k2, .int k3, .int y4, .int y5] [] NN KK I (PP s) Q := by
  intro f
  induction f with
  | zero => intro y4 y5 z hr hk; cases hr
  | succ f ih =>
    intro y4 y5 z hr hk
    unfold l10_canon_45 at hr
    refine mV_iload f10_canon_45 rfl ?_
    refine mV_aload f10_canon_47 rfl ?_
    refine mV_gI (I 119 48) f10_canon_48 (by decide) kk_119 rfl rfl ?_
    refine mV_icmp_ge f10_canon_51 (fun h0 => ?_) (fun h0 => ?_)
    · rw [if_pos h0] at hr
      have hr := Option.some.inj hr; subst hr
      refine mV_drop (L' := [.ref 119, .int k1, .int k2, .int k3, .int y4, mX0]) (mSub_k (mSub_k (mSub_k (mSub_k (mSub_k (mSub_x mSub_n)))))) ?_
      exact hk
    · rw [if_neg h0] at hr
      refine mV_iload f10_canon_54 rfl ?_
      obtain ⟨z0, hz0, hr⟩ := mBind hr
      have keyz0 : mV X m10_canon 2 0 0 96 [.ref 119, .int k1, .int k2, .int k3, .int z0, .int y5] [] NN KK I (PP s) Q := by
        refine mV_iinc (y := (y5 + 1)) (L' := [.ref 119, .int k1, .int k2, .int k3, .int z0, .int (y5 + 1)]) f10_canon_96 rfl rfl (by decide) rfl rfl ?_
        refine mV_goto f10_canon_99 ?_
        exact ih z0 (y5 + 1) _ hr hk
      clear hr
      have hr := hz0
      clear hz0
      refine mV_if_eq f10_canon_55 (fun h1 => ?_) (fun h1 => ?_)
      · rw [if_pos h1] at hr
        refine mV_iload f10_canon_90 rfl ?_
        refine mV_push f10_canon_92 ?_
        refine mV_iadd f10_canon_93 ?_
        refine mV_istore (L' := [.ref 119, .int k1, .int k2, .int k3, .int (y4 + 1), .int y5]) f10_canon_94 (by decide) rfl rfl ?_
        have hr := Option.some.inj hr; subst hr
        exact keyz0
      · rw [if_neg h1] at hr
        refine mV_aload f10_canon_58 rfl ?_
        refine mV_aload f10_canon_59 rfl ?_
        refine mV_aload f10_canon_60 rfl ?_
        refine mV_getP f10_canon_61 (by decide) kk_119 rfl (pp_119_49 _) ?_
        refine mV_iload f10_canon_64 rfl ?_
        obtain ⟨z1, hz1, hr⟩ := mBind hr
        refine mV_ldO f10_canon_66 (by decide) kk_146 hz1 ?_
        refine mV_aload f10_canon_67 rfl ?_
        refine mV_getP f10_canon_68 (by decide) kk_119 rfl (pp_119_49 _) ?_
        refine mV_iload f10_canon_71 rfl ?_
        refine mV_iload f10_canon_73 rfl ?_
        refine mV_isub f10_canon_74 ?_
        obtain ⟨z2, hz2, hr⟩ := mBind hr
        refine mV_ldO f10_canon_75 (by decide) kk_146 hz2 ?_
        refine mV_iload f10_canon_76 rfl ?_
        refine mV_iadd f10_canon_77 ?_
        refine mV_cV f10_canon_78 tg_m10_apart mCls10 (by decide) kk_119 (mC_deep (c10_apart X I s z1 (z2 + k2) rfl) (by decide)) rfl rfl (Nat.le_of_ble_eq_true rfl) ?_
        refine mV_push f10_canon_81 ?_
        refine mV_remC f10_canon_83 (by decide) ?_
        refine mV_cV f10_canon_84 tg_m10_isSweet mCls10 (by decide) kk_119 (mC_deep (c10_isSweet X I s (mRm (r10_apart z1 (z2 + k2)) 12) rfl) (by decide)) rfl rfl (Nat.le_of_ble_eq_true rfl) ?_
        refine mV_if_eq f10_canon_87 (fun h2 => ?_) (fun h2 => ?_)
        · rw [if_pos h2] at hr
          have hr := Option.some.inj hr; subst hr
          exact keyz0
        · rw [if_neg h2] at hr
          refine mV_iload f10_canon_90 rfl ?_
          refine mV_push f10_canon_92 ?_
          refine mV_iadd f10_canon_93 ?_
          refine mV_istore (L' := [.ref 119, .int k1, .int k2, .int k3, .int (y4 + 1), .int y5]) f10_canon_94 (by decide) rfl rfl ?_
          have hr := Option.some.inj hr; subst hr
          exact keyz0
set_option maxHeartbeats 4000000 in
set_option maxRecDepth 100000 in
theorem w10_canon (X : Nat × (Nat → Int32)) (I : mI) (s : Nat) (x0 : Int32) (x1 : Int32) (x2 : Int32) (Q : mQ) {res : Int32 × mI} (hr : r10_canon I x0 x1 x2 = some res) (hQ : Q (some (.int res.1)) NN KK res.2 (PP s)) : mV X m10_canon 2 0 0 0 [.ref 119, .int x0, .int x1, .int x2, mX0, mX0] [] NN KK I (PP s) Q := by
  unfold r10_canon at hr
  refine mV_aload f10_canon_0 rfl ?_
  refine mV_push f10_canon_1 ?_
  refine mV_putI f10_canon_2 (by decide) kk_119 rfl rfl ?_
  refine mV_aload f10_canon_5 rfl ?_
  refine mV_iload f10_canon_6 rfl ?_
  refine mV_push f10_canon_7 ?_
  refine mV_push f10_canon_8 ?_
  refine mV_cV f10_canon_10 tg_m10_isIn mCls10 (by decide) kk_119 (mC_deep (c10_isIn X (mW I 119 0 0) s x0 1 15 rfl) (by decide)) rfl rfl (Nat.le_of_ble_eq_true rfl) ?_
  refine mV_if_eq f10_canon_13 (fun h0 => ?_) (fun h0 => ?_)
  · rw [if_pos h0] at hr
    refine mV_push f10_canon_37 ?_
    have hr := Option.some.inj hr; subst hr
    exact mV_iret rfl rfl f10_canon_38 hQ
  · rw [if_neg h0] at hr
    refine mV_aload f10_canon_16 rfl ?_
    refine mV_iload f10_canon_17 rfl ?_
    refine mV_push f10_canon_18 ?_
    refine mV_push f10_canon_19 ?_
    refine mV_cV f10_canon_21 tg_m10_isIn mCls10 (by decide) kk_119 (mC_deep (c10_isIn X (mW I 119 0 0) s x1 0 12 rfl) (by decide)) rfl rfl (Nat.le_of_ble_eq_true rfl) ?_
    refine mV_if_eq f10_canon_24 (fun h1 => ?_) (fun h1 => ?_)
    · rw [if_pos h1] at hr
      refine mV_push f10_canon_37 ?_
      have hr := Option.some.inj hr; subst hr
      exact mV_iret rfl rfl f10_canon_38 hQ
    · rw [if_neg h1] at hr
      refine mV_aload f10_canon_27 rfl ?_
      refine mV_iload f10_canon_28 rfl ?_
      refine mV_push f10_canon_29 ?_
      refine mV_push f10_canon_30 ?_
      refine mV_cV f10_canon_31 tg_m10_isIn mCls10 (by decide) kk_119 (mC_deep (c10_isIn X (mW I 119 0 0) s x2 0 1 rfl) (by decide)) rfl rfl (Nat.le_of_ble_eq_true rfl) ?_
      refine mV_if_ne f10_canon_34 (fun h2 => ?_) (fun h2 => ?_)
      · rw [if_neg h2] at hr
        refine mV_push f10_canon_39 ?_
        refine mV_istore (L' := [.ref 119, .int x0, .int x1, .int x2, .int 0, mX0]) f10_canon_40 (by decide) rfl rfl ?_
        refine mV_iload f10_canon_42 rfl ?_
        refine mV_istore (L' := [.ref 119, .int x0, .int x1, .int x2, .int 0, .int x0]) f10_canon_43 (by decide) rfl rfl ?_
        obtain ⟨z0, hz0, hr⟩ := mBind hr
        refine t10_canon_45 X Q s (mW I 119 0 0) x0 x1 x2 FU 0 x0 _ hz0 ?_
        refine mV_iload f10_canon_102 rfl ?_
        have hr := Option.some.inj hr; subst hr
        exact mV_iret rfl rfl f10_canon_104 hQ
      · rw [if_pos h2] at hr
        refine mV_push f10_canon_37 ?_
        have hr := Option.some.inj hr; subst hr
        exact mV_iret rfl rfl f10_canon_38 hQ
theorem c10_canon (X : Nat × (Nat → Int32)) (I : mI) (s : Nat) (x0 : Int32) (x1 : Int32) (x2 : Int32) {res : Int32 × mI} (hr : r10_canon I x0 x1 x2 = some res) : mC X m10_canon 2 0 0 [.ref 119, .int x0, .int x1, .int x2] NN KK I (PP s) (mRet (some (.int res.1)) NN KK res.2 (PP s)) :=
  mC_of (L0 := [.ref 119, .int x0, .int x1, .int x2, mX0, mX0]) rfl (Nat.le_of_ble_eq_true rfl) (w10_canon X I s x0 x1 x2 _ hr (mRet_ok _ _ _ _ _))
def l10_bar_43 : Nat → Int32 → mI → Option (mI)
  | 0, _, _ => none
  | f + 1, y4, I => if (225 : Int32) ≤ (y4 : Int32) then some I else (if (y4 : Int32) = (8 : Int32) then some 1 else some 0 : Option (Int32)).bind fun z0 => (mSto I 148 225 y4 z0).bind fun z1 => l10_bar_43 f (y4 + 1) z1
def l10_bar_123 (I : mI) (k3 : Int32) (k4 : Int32) (k5 : Int32) : Nat → Int32 → Int32 → Option (Int32)
  | 0, _, _ => none
  | f + 1, y6, y7 => if (9 : Int32) ≤ (y7 : Int32) then some y6 else (if (k3 : Int32) = (0 : Int32) then (mLd I 148 225 ((9 * ((k4 - k5) - 1)) + y7)).bind fun z1 => some (r10_added y6 z1) else if (y7 : Int32) = (k5 : Int32) then some y6 else (mLd I 148 225 ((9 * ((k4 - k5) - 1)) + y7)).bind fun z2 => some (r10_added y6 z2) : Option (Int32)).bind fun z0 => l10_bar_123 I k3 k4 k5 f z0 (y7 + 1)
def l10_bar_88 (k2 : Int32) (k3 : Int32) (k4 : Int32) : Nat → Int32 → mI → Option (mI)
  | 0, _, _ => none
  | f + 1, y5, I => if (8 : Int32) ≤ (y5 : Int32) then some I else (if ((r10_has k2 y5) : Int32) = (0 : Int32) then some I else if ((y5 + 1) : Int32) ≤ (k4 : Int32) then (l10_bar_123 I k3 k4 y5 FU 0 0).bind fun z1 => (mSto I 148 225 ((9 * k4) + y5) z1).bind fun z2 => some z2 else some I : Option (mI)).bind fun z0 => l10_bar_88 k2 k3 k4 f (y5 + 1) z0
def l10_bar_79 (k1 : Int32) (k2 : Int32) (k3 : Int32) : Nat → Int32 → mI → Option (mI)
  | 0, _, _ => none
  | f + 1, y4, I => if (k1 : Int32) < (y4 : Int32) then some I else (l10_bar_88 k2 k3 y4 FU 0 I).bind fun z0 => l10_bar_79 k1 k2 k3 f (y4 + 1) z0
def l10_bar_206 (I : mI) (k1 : Int32) : Nat → Int32 → Int32 → Option (Int32)
  | 0, _, _ => none
  | f + 1, y4, y5 => if (9 : Int32) ≤ (y5 : Int32) then some y4 else (mLd I 148 225 ((9 * k1) + y5)).bind fun z0 => l10_bar_206 I k1 f (r10_added y4 z0) (y5 + 1)
def r10_bar (I : mI) (x0 : Int32) (x1 : Int32) (x2 : Int32) : Option (Int32 × mI) := if ((r10_isIn x0 1 24) : Int32) = (0 : Int32) then some ((-1), (mW I 119 0 0)) else if ((r10_isIn x1 1 255) : Int32) = (0 : Int32) then some ((-1), (mW I 119 0 0)) else if ((r10_isIn x2 0 1) : Int32) = (0 : Int32) then some ((-1), (mW I 119 0 0)) else (l10_bar_43 FU 0 (mW I 119 0 0)).bind fun z0 => (l10_bar_79 x0 x1 x2 FU 1 z0).bind fun z1 => (l10_bar_206 z1 x0 FU 0 0).bind fun z2 => some (z2, z1)
set_option maxHeartbeats 4000000 in
set_option maxRecDepth 100000 in
theorem t10_bar_43 (X : Nat × (Nat → Int32)) (Q : mQ) (s : Nat) (k1 : Int32) (k2 : Int32) (k3 : Int32) : ∀ (f : Nat) (y4 : Int32) (I : mI) (z : mI), l10_bar_43 f y4 I = some z → mV X m10_bar 1 0 0 76 [.ref 119, .int k1, .int k2, .int k3, mX0, mX0, mX0, mX0] [] NN KK z (PP s) Q → mV X m10_bar 1 0 0 43 [.ref 119, .int k1, .int k2, .int k3, .int y4, mX0, mX0, mX0] [] NN KK I (PP s) Q := by
  intro f
  induction f with
  | zero => intro y4 I z hr hk; cases hr
  | succ f ih =>
    intro y4 I z hr hk
    unfold l10_bar_43 at hr
    refine mV_iload f10_bar_43 rfl ?_
    refine mV_push f10_bar_45 ?_
    refine mV_icmp_ge f10_bar_48 (fun h0 => ?_) (fun h0 => ?_)
    · rw [if_pos h0] at hr
      have hr := Option.some.inj hr; subst hr
      refine mV_drop (L' := [.ref 119, .int k1, .int k2, .int k3, mX0, mX0, mX0, mX0]) (mSub_k (mSub_k (mSub_k (mSub_k (mSub_x (mSub_x (mSub_x (mSub_x mSub_n)))))))) ?_
      exact hk
    · rw [if_neg h0] at hr
      refine mV_aload f10_bar_51 rfl ?_
      refine mV_getP f10_bar_52 (by decide) kk_119 rfl (pp_119_51 _) ?_
      refine mV_iload f10_bar_55 rfl ?_
      refine mV_iload f10_bar_57 rfl ?_
      refine mV_push f10_bar_59 ?_
      obtain ⟨z0, hz0, hr⟩ := mBind hr
      have keyz0 : mV X m10_bar 1 0 0 69 [.ref 119, .int k1, .int k2, .int k3, .int y4, mX0, mX0, mX0] [.int z0, .int y4, .ref 148] NN KK I (PP s) Q := by
        obtain ⟨z1, hz1, hr⟩ := mBind hr
        refine mV_stO f10_bar_69 (by decide) kk_148 hz1 ?_
        refine mV_iinc (y := (y4 + 1)) (L' := [.ref 119, .int k1, .int k2, .int k3, .int (y4 + 1), mX0, mX0, mX0]) f10_bar_70 rfl rfl (by decide) rfl rfl ?_
        refine mV_goto f10_bar_73 ?_
        exact ih (y4 + 1) z1 _ hr hk
      clear hr
      have hr := hz0
      clear hz0
      refine mV_icmp_ne f10_bar_61 (fun h1 => ?_) (fun h1 => ?_)
      · rw [if_neg h1] at hr
        refine mV_push f10_bar_68 ?_
        have hr := Option.some.inj hr; subst hr
        exact keyz0
      · rw [if_pos h1] at hr
        refine mV_push f10_bar_64 ?_
        refine mV_goto f10_bar_65 ?_
        have hr := Option.some.inj hr; subst hr
        exact keyz0
set_option maxHeartbeats 4000000 in
set_option maxRecDepth 100000 in
theorem t10_bar_123 (X : Nat × (Nat → Int32)) (Q : mQ) (s : Nat) (I : mI) (k1 : Int32) (k2 : Int32) (k3 : Int32) (k4 : Int32) (k5 : Int32) : ∀ (f : Nat) (y6 : Int32) (y7 : Int32) (z : Int32), l10_bar_123 I k3 k4 k5 f y6 y7 = some z → mV X m10_bar 1 0 0 173 [.ref 119, .int k1, .int k2, .int k3, .int k4, .int k5, .int z, mX0] [] NN KK I (PP s) Q → mV X m10_bar 1 0 0 123 [.ref 119, .int k1, .int k2, .int k3, .int k4, .int k5, .int y6, .int y7] [] NN KK I (PP s) Q := by
  intro f
  induction f with
  | zero => intro y6 y7 z hr hk; cases hr
  | succ f ih =>
    intro y6 y7 z hr hk
    unfold l10_bar_123 at hr
    refine mV_iload f10_bar_123 rfl ?_
    refine mV_push f10_bar_125 ?_
    refine mV_icmp_ge f10_bar_127 (fun h0 => ?_) (fun h0 => ?_)
    · rw [if_pos h0] at hr
      have hr := Option.some.inj hr; subst hr
      refine mV_drop (L' := [.ref 119, .int k1, .int k2, .int k3, .int k4, .int k5, .int y6, mX0]) (mSub_k (mSub_k (mSub_k (mSub_k (mSub_k (mSub_k (mSub_k (mSub_x mSub_n)))))))) ?_
      exact hk
    · rw [if_neg h0] at hr
      refine mV_iload f10_bar_130 rfl ?_
      obtain ⟨z0, hz0, hr⟩ := mBind hr
      have keyz0 : mV X m10_bar 1 0 0 167 [.ref 119, .int k1, .int k2, .int k3, .int k4, .int k5, .int z0, .int y7] [] NN KK I (PP s) Q := by
        refine mV_iinc (y := (y7 + 1)) (L' := [.ref 119, .int k1, .int k2, .int k3, .int k4, .int k5, .int z0, .int (y7 + 1)]) f10_bar_167 rfl rfl (by decide) rfl rfl ?_
        refine mV_goto f10_bar_170 ?_
        exact ih z0 (y7 + 1) _ hr hk
      clear hr
      have hr := hz0
      clear hz0
      refine mV_if_eq f10_bar_131 (fun h1 => ?_) (fun h1 => ?_)
      · rw [if_pos h1] at hr
        refine mV_aload f10_bar_141 rfl ?_
        refine mV_iload f10_bar_142 rfl ?_
        refine mV_aload f10_bar_144 rfl ?_
        refine mV_getP f10_bar_145 (by decide) kk_119 rfl (pp_119_51 _) ?_
        refine mV_push f10_bar_148 ?_
        refine mV_iload f10_bar_150 rfl ?_
        refine mV_iload f10_bar_152 rfl ?_
        refine mV_isub f10_bar_154 ?_
        refine mV_push f10_bar_155 ?_
        refine mV_isub f10_bar_156 ?_
        refine mV_imul f10_bar_157 ?_
        refine mV_iload f10_bar_158 rfl ?_
        refine mV_iadd f10_bar_160 ?_
        obtain ⟨z1, hz1, hr⟩ := mBind hr
        refine mV_ldO f10_bar_161 (by decide) kk_148 hz1 ?_
        refine mV_cV f10_bar_162 tg_m10_added mCls10 (by decide) kk_119 (mC_deep (c10_added X I s y6 z1 rfl) (by decide)) rfl rfl (Nat.le_of_ble_eq_true rfl) ?_
        refine mV_istore (L' := [.ref 119, .int k1, .int k2, .int k3, .int k4, .int k5, .int (r10_added y6 z1), .int y7]) f10_bar_165 (by decide) rfl rfl ?_
        have hr := Option.some.inj hr; subst hr
        exact keyz0
      · rw [if_neg h1] at hr
        refine mV_iload f10_bar_134 rfl ?_
        refine mV_iload f10_bar_136 rfl ?_
        refine mV_icmp_eq f10_bar_138 (fun h2 => ?_) (fun h2 => ?_)
        · rw [if_pos h2] at hr
          have hr := Option.some.inj hr; subst hr
          exact keyz0
        · rw [if_neg h2] at hr
          refine mV_aload f10_bar_141 rfl ?_
          refine mV_iload f10_bar_142 rfl ?_
          refine mV_aload f10_bar_144 rfl ?_
          refine mV_getP f10_bar_145 (by decide) kk_119 rfl (pp_119_51 _) ?_
          refine mV_push f10_bar_148 ?_
          refine mV_iload f10_bar_150 rfl ?_
          refine mV_iload f10_bar_152 rfl ?_
          refine mV_isub f10_bar_154 ?_
          refine mV_push f10_bar_155 ?_
          refine mV_isub f10_bar_156 ?_
          refine mV_imul f10_bar_157 ?_
          refine mV_iload f10_bar_158 rfl ?_
          refine mV_iadd f10_bar_160 ?_
          obtain ⟨z2, hz2, hr⟩ := mBind hr
          refine mV_ldO f10_bar_161 (by decide) kk_148 hz2 ?_
          refine mV_cV f10_bar_162 tg_m10_added mCls10 (by decide) kk_119 (mC_deep (c10_added X I s y6 z2 rfl) (by decide)) rfl rfl (Nat.le_of_ble_eq_true rfl) ?_
          refine mV_istore (L' := [.ref 119, .int k1, .int k2, .int k3, .int k4, .int k5, .int (r10_added y6 z2), .int y7]) f10_bar_165 (by decide) rfl rfl ?_
          have hr := Option.some.inj hr; subst hr
          exact keyz0
set_option maxHeartbeats 4000000 in
set_option maxRecDepth 100000 in
theorem t10_bar_88 (X : Nat × (Nat → Int32)) (Q : mQ) (s : Nat) (k1 : Int32) (k2 : Int32) (k3 : Int32) (k4 : Int32) : ∀ (f : Nat) (y5 : Int32) (I : mI) (z : mI), l10_bar_88 k2 k3 k4 f y5 I = some z → mV X m10_bar 1 0 0 194 [.ref 119, .int k1, .int k2, .int k3, .int k4, mX0, mX0, mX0] [] NN KK z (PP s) Q → mV X m10_bar 1 0 0 88 [.ref 119, .int k1, .int k2, .int k3, .int k4, .int y5, mX0, mX0] [] NN KK I (PP s) Q := by
  intro f
  induction f with
  | zero => intro y5 I z hr hk; cases hr
  | succ f ih =>
    intro y5 I z hr hk
    unfold l10_bar_88 at hr
    refine mV_iload f10_bar_88 rfl ?_
    refine mV_push f10_bar_90 ?_
    refine mV_icmp_ge f10_bar_92 (fun h0 => ?_) (fun h0 => ?_)
    · rw [if_pos h0] at hr
      have hr := Option.some.inj hr; subst hr
      refine mV_drop (L' := [.ref 119, .int k1, .int k2, .int k3, .int k4, mX0, mX0, mX0]) (mSub_k (mSub_k (mSub_k (mSub_k (mSub_k (mSub_x (mSub_x (mSub_x mSub_n)))))))) ?_
      exact hk
    · rw [if_neg h0] at hr
      refine mV_aload f10_bar_95 rfl ?_
      refine mV_iload f10_bar_96 rfl ?_
      refine mV_iload f10_bar_97 rfl ?_
      refine mV_cV f10_bar_99 tg_m10_has mCls10 (by decide) kk_119 (mC_deep (c10_has X I s k2 y5 rfl) (by decide)) rfl rfl (Nat.le_of_ble_eq_true rfl) ?_
      obtain ⟨z0, hz0, hr⟩ := mBind hr
      have keyz0 : mV X m10_bar 1 0 0 188 [.ref 119, .int k1, .int k2, .int k3, .int k4, .int y5, mX0, mX0] [] NN KK z0 (PP s) Q := by
        refine mV_iinc (y := (y5 + 1)) (L' := [.ref 119, .int k1, .int k2, .int k3, .int k4, .int (y5 + 1), mX0, mX0]) f10_bar_188 rfl rfl (by decide) rfl rfl ?_
        refine mV_goto f10_bar_191 ?_
        exact ih (y5 + 1) z0 _ hr hk
      clear hr
      have hr := hz0
      clear hz0
      refine mV_if_eq f10_bar_102 (fun h1 => ?_) (fun h1 => ?_)
      · rw [if_pos h1] at hr
        have hr := Option.some.inj hr; subst hr
        exact keyz0
      · rw [if_neg h1] at hr
        refine mV_iload f10_bar_105 rfl ?_
        refine mV_iload f10_bar_107 rfl ?_
        refine mV_push f10_bar_109 ?_
        refine mV_iadd f10_bar_110 ?_
        refine mV_icmp_ge f10_bar_111 (fun h2 => ?_) (fun h2 => ?_)
        · rw [if_pos h2] at hr
          refine mV_push f10_bar_117 ?_
          refine mV_istore (L' := [.ref 119, .int k1, .int k2, .int k3, .int k4, .int y5, .int 0, mX0]) f10_bar_118 (by decide) rfl rfl ?_
          refine mV_push f10_bar_120 ?_
          refine mV_istore (L' := [.ref 119, .int k1, .int k2, .int k3, .int k4, .int y5, .int 0, .int 0]) f10_bar_121 (by decide) rfl rfl ?_
          obtain ⟨z1, hz1, hr⟩ := mBind hr
          refine t10_bar_123 X Q s I k1 k2 k3 k4 y5 FU 0 0 _ hz1 ?_
          refine mV_aload f10_bar_173 rfl ?_
          refine mV_getP f10_bar_174 (by decide) kk_119 rfl (pp_119_51 _) ?_
          refine mV_push f10_bar_177 ?_
          refine mV_iload f10_bar_179 rfl ?_
          refine mV_imul f10_bar_181 ?_
          refine mV_iload f10_bar_182 rfl ?_
          refine mV_iadd f10_bar_184 ?_
          refine mV_iload f10_bar_185 rfl ?_
          obtain ⟨z2, hz2, hr⟩ := mBind hr
          refine mV_stO f10_bar_187 (by decide) kk_148 hz2 ?_
          have hr := Option.some.inj hr; subst hr
          refine mV_drop (L' := [.ref 119, .int k1, .int k2, .int k3, .int k4, .int y5, mX0, mX0]) (mSub_k (mSub_k (mSub_k (mSub_k (mSub_k (mSub_k (mSub_x (mSub_x mSub_n)))))))) ?_
          exact keyz0
        · rw [if_neg h2] at hr
          refine mV_goto f10_bar_114 ?_
          have hr := Option.some.inj hr; subst hr
          exact keyz0
set_option maxHeartbeats 4000000 in
set_option maxRecDepth 100000 in
theorem t10_bar_79 (X : Nat × (Nat → Int32)) (Q : mQ) (s : Nat) (k1 : Int32) (k2 : Int32) (k3 : Int32) : ∀ (f : Nat) (y4 : Int32) (I : mI) (z : mI), l10_bar_79 k1 k2 k3 f y4 I = some z → mV X m10_bar 1 0 0 200 [.ref 119, .int k1, .int k2, .int k3, mX0, mX0, mX0, mX0] [] NN KK z (PP s) Q → mV X m10_bar 1 0 0 79 [.ref 119, .int k1, .int k2, .int k3, .int y4, mX0, mX0, mX0] [] NN KK I (PP s) Q := by
  intro f
  induction f with
  | zero => intro y4 I z hr hk; cases hr
  | succ f ih =>
    intro y4 I z hr hk
    unfold l10_bar_79 at hr
    refine mV_iload f10_bar_79 rfl ?_
    refine mV_iload f10_bar_81 rfl ?_
    refine mV_icmp_gt f10_bar_82 (fun h0 => ?_) (fun h0 => ?_)
    · rw [if_pos h0] at hr
      have hr := Option.some.inj hr; subst hr
      refine mV_drop (L' := [.ref 119, .int k1, .int k2, .int k3, mX0, mX0, mX0, mX0]) (mSub_k (mSub_k (mSub_k (mSub_k (mSub_x (mSub_x (mSub_x (mSub_x mSub_n)))))))) ?_
      exact hk
    · rw [if_neg h0] at hr
      refine mV_push f10_bar_85 ?_
      refine mV_istore (L' := [.ref 119, .int k1, .int k2, .int k3, .int y4, .int 0, mX0, mX0]) f10_bar_86 (by decide) rfl rfl ?_
      obtain ⟨z0, hz0, hr⟩ := mBind hr
      refine t10_bar_88 X Q s k1 k2 k3 y4 FU 0 I _ hz0 ?_
      refine mV_iinc (y := (y4 + 1)) (L' := [.ref 119, .int k1, .int k2, .int k3, .int (y4 + 1), mX0, mX0, mX0]) f10_bar_194 rfl rfl (by decide) rfl rfl ?_
      refine mV_goto f10_bar_197 ?_
      exact ih (y4 + 1) z0 _ hr hk
set_option maxHeartbeats 4000000 in
set_option maxRecDepth 100000 in
theorem t10_bar_206 (X : Nat × (Nat → Int32)) (Q : mQ) (s : Nat) (I : mI) (k1 : Int32) : ∀ (f : Nat) (y4 : Int32) (y5 : Int32) (z : Int32), l10_bar_206 I k1 f y4 y5 = some z → mV X m10_bar 1 0 0 239 [.ref 119, .int k1, mX0, mX0, .int z, mX0, mX0, mX0] [] NN KK I (PP s) Q → mV X m10_bar 1 0 0 206 [.ref 119, .int k1, mX0, mX0, .int y4, .int y5, mX0, mX0] [] NN KK I (PP s) Q := by
  intro f
  induction f with
  | zero => intro y4 y5 z hr hk; cases hr
  | succ f ih =>
    intro y4 y5 z hr hk
    unfold l10_bar_206 at hr
    refine mV_iload f10_bar_206 rfl ?_
    refine mV_push f10_bar_208 ?_
    refine mV_icmp_ge f10_bar_210 (fun h0 => ?_) (fun h0 => ?_)
    · rw [if_pos h0] at hr
      have hr := Option.some.inj hr; subst hr
      refine mV_drop (L' := [.ref 119, .int k1, mX0, mX0, .int y4, mX0, mX0, mX0]) (mSub_k (mSub_k (mSub_x (mSub_x (mSub_k (mSub_x (mSub_x (mSub_x mSub_n)))))))) ?_
      exact hk
    · rw [if_neg h0] at hr
      refine mV_aload f10_bar_213 rfl ?_
      refine mV_iload f10_bar_214 rfl ?_
      refine mV_aload f10_bar_216 rfl ?_
      refine mV_getP f10_bar_217 (by decide) kk_119 rfl (pp_119_51 _) ?_
      refine mV_push f10_bar_220 ?_
      refine mV_iload f10_bar_222 rfl ?_
      refine mV_imul f10_bar_223 ?_
      refine mV_iload f10_bar_224 rfl ?_
      refine mV_iadd f10_bar_226 ?_
      obtain ⟨z0, hz0, hr⟩ := mBind hr
      refine mV_ldO f10_bar_227 (by decide) kk_148 hz0 ?_
      refine mV_cV f10_bar_228 tg_m10_added mCls10 (by decide) kk_119 (mC_deep (c10_added X I s y4 z0 rfl) (by decide)) rfl rfl (Nat.le_of_ble_eq_true rfl) ?_
      refine mV_istore (L' := [.ref 119, .int k1, mX0, mX0, .int (r10_added y4 z0), .int y5, mX0, mX0]) f10_bar_231 (by decide) rfl rfl ?_
      refine mV_iinc (y := (y5 + 1)) (L' := [.ref 119, .int k1, mX0, mX0, .int (r10_added y4 z0), .int (y5 + 1), mX0, mX0]) f10_bar_233 rfl rfl (by decide) rfl rfl ?_
      refine mV_goto f10_bar_236 ?_
      exact ih (r10_added y4 z0) (y5 + 1) _ hr hk
set_option maxHeartbeats 4000000 in
set_option maxRecDepth 100000 in
theorem w10_bar (X : Nat × (Nat → Int32)) (I : mI) (s : Nat) (x0 : Int32) (x1 : Int32) (x2 : Int32) (Q : mQ) {res : Int32 × mI} (hr : r10_bar I x0 x1 x2 = some res) (hQ : Q (some (.int res.1)) NN KK res.2 (PP s)) : mV X m10_bar 1 0 0 0 [.ref 119, .int x0, .int x1, .int x2, mX0, mX0, mX0, mX0] [] NN KK I (PP s) Q := by
  unfold r10_bar at hr
  refine mV_aload f10_bar_0 rfl ?_
  refine mV_push f10_bar_1 ?_
  refine mV_putI f10_bar_2 (by decide) kk_119 rfl rfl ?_
  refine mV_aload f10_bar_5 rfl ?_
  refine mV_iload f10_bar_6 rfl ?_
  refine mV_push f10_bar_7 ?_
  refine mV_push f10_bar_8 ?_
  refine mV_cV f10_bar_10 tg_m10_isIn mCls10 (by decide) kk_119 (mC_deep (c10_isIn X (mW I 119 0 0) s x0 1 24 rfl) (by decide)) rfl rfl (Nat.le_of_ble_eq_true rfl) ?_
  refine mV_if_eq f10_bar_13 (fun h0 => ?_) (fun h0 => ?_)
  · rw [if_pos h0] at hr
    refine mV_push f10_bar_38 ?_
    have hr := Option.some.inj hr; subst hr
    exact mV_iret rfl rfl f10_bar_39 hQ
  · rw [if_neg h0] at hr
    refine mV_aload f10_bar_16 rfl ?_
    refine mV_iload f10_bar_17 rfl ?_
    refine mV_push f10_bar_18 ?_
    refine mV_push f10_bar_19 ?_
    refine mV_cV f10_bar_22 tg_m10_isIn mCls10 (by decide) kk_119 (mC_deep (c10_isIn X (mW I 119 0 0) s x1 1 255 rfl) (by decide)) rfl rfl (Nat.le_of_ble_eq_true rfl) ?_
    refine mV_if_eq f10_bar_25 (fun h1 => ?_) (fun h1 => ?_)
    · rw [if_pos h1] at hr
      refine mV_push f10_bar_38 ?_
      have hr := Option.some.inj hr; subst hr
      exact mV_iret rfl rfl f10_bar_39 hQ
    · rw [if_neg h1] at hr
      refine mV_aload f10_bar_28 rfl ?_
      refine mV_iload f10_bar_29 rfl ?_
      refine mV_push f10_bar_30 ?_
      refine mV_push f10_bar_31 ?_
      refine mV_cV f10_bar_32 tg_m10_isIn mCls10 (by decide) kk_119 (mC_deep (c10_isIn X (mW I 119 0 0) s x2 0 1 rfl) (by decide)) rfl rfl (Nat.le_of_ble_eq_true rfl) ?_
      refine mV_if_ne f10_bar_35 (fun h2 => ?_) (fun h2 => ?_)
      · rw [if_neg h2] at hr
        refine mV_push f10_bar_40 ?_
        refine mV_istore (L' := [.ref 119, .int x0, .int x1, .int x2, .int 0, mX0, mX0, mX0]) f10_bar_41 (by decide) rfl rfl ?_
        obtain ⟨z0, hz0, hr⟩ := mBind hr
        refine t10_bar_43 X Q s x0 x1 x2 FU 0 (mW I 119 0 0) _ hz0 ?_
        refine mV_push f10_bar_76 ?_
        refine mV_istore (L' := [.ref 119, .int x0, .int x1, .int x2, .int 1, mX0, mX0, mX0]) f10_bar_77 (by decide) rfl rfl ?_
        obtain ⟨z1, hz1, hr⟩ := mBind hr
        refine t10_bar_79 X Q s x0 x1 x2 FU 1 z0 _ hz1 ?_
        refine mV_push f10_bar_200 ?_
        refine mV_istore (L' := [.ref 119, .int x0, .int x1, .int x2, .int 0, mX0, mX0, mX0]) f10_bar_201 (by decide) rfl rfl ?_
        refine mV_push f10_bar_203 ?_
        refine mV_istore (L' := [.ref 119, .int x0, .int x1, .int x2, .int 0, .int 0, mX0, mX0]) f10_bar_204 (by decide) rfl rfl ?_
        obtain ⟨z2, hz2, hr⟩ := mBind hr
        refine mV_drop (L' := [.ref 119, .int x0, mX0, mX0, .int 0, .int 0, mX0, mX0]) (mSub_k (mSub_k (mSub_x (mSub_x (mSub_k (mSub_k (mSub_x (mSub_x mSub_n)))))))) ?_
        refine t10_bar_206 X Q s z1 x0 FU 0 0 _ hz2 ?_
        refine mV_iload f10_bar_239 rfl ?_
        have hr := Option.some.inj hr; subst hr
        exact mV_iret rfl rfl f10_bar_241 hQ
      · rw [if_pos h2] at hr
        refine mV_push f10_bar_38 ?_
        have hr := Option.some.inj hr; subst hr
        exact mV_iret rfl rfl f10_bar_39 hQ
theorem c10_bar (X : Nat × (Nat → Int32)) (I : mI) (s : Nat) (x0 : Int32) (x1 : Int32) (x2 : Int32) {res : Int32 × mI} (hr : r10_bar I x0 x1 x2 = some res) : mC X m10_bar 1 0 0 [.ref 119, .int x0, .int x1, .int x2] NN KK I (PP s) (mRet (some (.int res.1)) NN KK res.2 (PP s)) :=
  mC_of (L0 := [.ref 119, .int x0, .int x1, .int x2, mX0, mX0, mX0, mX0]) rfl (Nat.le_of_ble_eq_true rfl) (w10_bar X I s x0 x1 x2 _ hr (mRet_ok _ _ _ _ _))
def r10_period (I : mI) (x0 : Int32) (x1 : Int32) : Option (Int32 × mI) := if ((r10_isString x0) : Int32) = (0 : Int32) then some (0, (mW I 119 0 0)) else if ((r10_isIn x1 1 99) : Int32) = (0 : Int32) then some (0, (mW I 119 0 0)) else (mSto (mW I 119 0 0) 149 8 x0 (x1 - 1)).bind fun z0 => some (1, z0)
set_option maxHeartbeats 4000000 in
set_option maxRecDepth 100000 in
theorem w10_period (X : Nat × (Nat → Int32)) (I : mI) (s : Nat) (x0 : Int32) (x1 : Int32) (Q : mQ) {res : Int32 × mI} (hr : r10_period I x0 x1 = some res) (hQ : Q (some (.int res.1)) NN KK res.2 (PP s)) : mV X m10_period 1 0 0 0 [.ref 119, .int x0, .int x1] [] NN KK I (PP s) Q := by
  unfold r10_period at hr
  refine mV_aload f10_period_0 rfl ?_
  refine mV_push f10_period_1 ?_
  refine mV_putI f10_period_2 (by decide) kk_119 rfl rfl ?_
  refine mV_aload f10_period_5 rfl ?_
  refine mV_iload f10_period_6 rfl ?_
  refine mV_cV f10_period_7 tg_m10_isString mCls10 (by decide) kk_119 (mC_deep (c10_isString X (mW I 119 0 0) s x0 rfl) (by decide)) rfl rfl (Nat.le_of_ble_eq_true rfl) ?_
  refine mV_if_eq f10_period_10 (fun h0 => ?_) (fun h0 => ?_)
  · rw [if_pos h0] at hr
    refine mV_push f10_period_24 ?_
    have hr := Option.some.inj hr; subst hr
    exact mV_iret rfl rfl f10_period_25 hQ
  · rw [if_neg h0] at hr
    refine mV_aload f10_period_13 rfl ?_
    refine mV_iload f10_period_14 rfl ?_
    refine mV_push f10_period_15 ?_
    refine mV_push f10_period_16 ?_
    refine mV_cV f10_period_18 tg_m10_isIn mCls10 (by decide) kk_119 (mC_deep (c10_isIn X (mW I 119 0 0) s x1 1 99 rfl) (by decide)) rfl rfl (Nat.le_of_ble_eq_true rfl) ?_
    refine mV_if_ne f10_period_21 (fun h1 => ?_) (fun h1 => ?_)
    · rw [if_neg h1] at hr
      refine mV_aload f10_period_26 rfl ?_
      refine mV_getP f10_period_27 (by decide) kk_119 rfl (pp_119_52 _) ?_
      refine mV_iload f10_period_30 rfl ?_
      refine mV_iload f10_period_31 rfl ?_
      refine mV_push f10_period_32 ?_
      refine mV_isub f10_period_33 ?_
      obtain ⟨z0, hz0, hr⟩ := mBind hr
      refine mV_stO f10_period_34 (by decide) kk_149 hz0 ?_
      refine mV_push f10_period_35 ?_
      have hr := Option.some.inj hr; subst hr
      exact mV_iret rfl rfl f10_period_36 hQ
    · rw [if_pos h1] at hr
      refine mV_push f10_period_24 ?_
      have hr := Option.some.inj hr; subst hr
      exact mV_iret rfl rfl f10_period_25 hQ
theorem c10_period (X : Nat × (Nat → Int32)) (I : mI) (s : Nat) (x0 : Int32) (x1 : Int32) {res : Int32 × mI} (hr : r10_period I x0 x1 = some res) : mC X m10_period 1 0 0 [.ref 119, .int x0, .int x1] NN KK I (PP s) (mRet (some (.int res.1)) NN KK res.2 (PP s)) :=
  mC_of (L0 := [.ref 119, .int x0, .int x1]) rfl (Nat.le_of_ble_eq_true rfl) (w10_period X I s x0 x1 _ hr (mRet_ok _ _ _ _ _))
def l10_common_5 : Nat → Int32 → Int32 → Option (Int32)
  | 0, _, _ => none
  | f + 1, y3, y4 => if (y4 : Int32) = (0 : Int32) then some y3 else (mRemO y3 y4).bind fun z0 => l10_common_5 f y4 z0
def r10_common (x0 : Int32) (x1 : Int32) : Option (Int32) := (l10_common_5 FU x0 x1).bind fun z0 => some z0
set_option maxHeartbeats 4000000 in
set_option maxRecDepth 100000 in
theorem t10_common_5 (X : Nat × (Nat → Int32)) (Q : mQ) (s : Nat) (I : mI) : ∀ (f : Nat) (y3 : Int32) (y4 : Int32) (z : Int32), l10_common_5 f y3 y4 = some z → mV X m10_common 0 0 0 26 [.ref 119, mX0, mX0, .int z, mX0, mX0] [] NN KK I (PP s) Q → mV X m10_common 0 0 0 5 [.ref 119, mX0, mX0, .int y3, .int y4, mX0] [] NN KK I (PP s) Q := by
  intro f
  induction f with
  | zero => intro y3 y4 z hr hk; cases hr
  | succ f ih =>
    intro y3 y4 z hr hk
    unfold l10_common_5 at hr
    refine mV_iload f10_common_5 rfl ?_
    refine mV_if_eq f10_common_7 (fun h0 => ?_) (fun h0 => ?_)
    · rw [if_pos h0] at hr
      have hr := Option.some.inj hr; subst hr
      refine mV_drop (L' := [.ref 119, mX0, mX0, .int y3, mX0, mX0]) (mSub_k (mSub_x (mSub_x (mSub_k (mSub_x (mSub_x mSub_n)))))) ?_
      exact hk
    · rw [if_neg h0] at hr
      refine mV_iload f10_common_10 rfl ?_
      refine mV_iload f10_common_11 rfl ?_
      obtain ⟨z0, hz0, hr⟩ := mBind hr
      refine mV_remO f10_common_13 hz0 ?_
      refine mV_istore (L' := [.ref 119, mX0, mX0, .int y3, .int y4, .int z0]) f10_common_14 (by decide) rfl rfl ?_
      refine mV_iload f10_common_16 rfl ?_
      refine mV_istore (L' := [.ref 119, mX0, mX0, .int y4, .int y4, .int z0]) f10_common_18 (by decide) rfl rfl ?_
      refine mV_iload f10_common_19 rfl ?_
      refine mV_istore (L' := [.ref 119, mX0, mX0, .int y4, .int z0, .int z0]) f10_common_21 (by decide) rfl rfl ?_
      refine mV_goto f10_common_23 ?_
      refine mV_drop (L' := [.ref 119, mX0, mX0, .int y4, .int z0, mX0]) (mSub_k (mSub_x (mSub_x (mSub_k (mSub_k (mSub_x mSub_n)))))) ?_
      exact ih y4 z0 _ hr hk
set_option maxHeartbeats 4000000 in
set_option maxRecDepth 100000 in
theorem w10_common (X : Nat × (Nat → Int32)) (I : mI) (s : Nat) (x0 : Int32) (x1 : Int32) (Q : mQ) {res : Int32} (hr : r10_common x0 x1 = some res) (hQ : Q (some (.int res)) NN KK I (PP s)) : mV X m10_common 0 0 0 0 [.ref 119, .int x0, .int x1, mX0, mX0, mX0] [] NN KK I (PP s) Q := by
  unfold r10_common at hr
  refine mV_iload f10_common_0 rfl ?_
  refine mV_istore (L' := [.ref 119, .int x0, .int x1, .int x0, mX0, mX0]) f10_common_1 (by decide) rfl rfl ?_
  refine mV_iload f10_common_2 rfl ?_
  refine mV_istore (L' := [.ref 119, .int x0, .int x1, .int x0, .int x1, mX0]) f10_common_3 (by decide) rfl rfl ?_
  obtain ⟨z0, hz0, hr⟩ := mBind hr
  refine mV_drop (L' := [.ref 119, mX0, mX0, .int x0, .int x1, mX0]) (mSub_k (mSub_x (mSub_x (mSub_k (mSub_k (mSub_x mSub_n)))))) ?_
  refine t10_common_5 X Q s I FU x0 x1 _ hz0 ?_
  refine mV_iload f10_common_26 rfl ?_
  have hr := Option.some.inj hr; subst hr
  exact mV_iret rfl rfl f10_common_27 hQ
theorem c10_common (X : Nat × (Nat → Int32)) (I : mI) (s : Nat) (x0 : Int32) (x1 : Int32) {res : Int32} (hr : r10_common x0 x1 = some res) : mC X m10_common 0 0 0 [.ref 119, .int x0, .int x1] NN KK I (PP s) (mRet (some (.int res)) NN KK I (PP s)) :=
  mC_of (L0 := [.ref 119, .int x0, .int x1, mX0, mX0, mX0]) rfl (Nat.le_of_ble_eq_true rfl) (w10_common X I s x0 x1 _ hr (mRet_ok _ _ _ _ _))
def l10_times_5 (k1 : Int32) (k2 : Int32) : Nat → Int32 → Int32 → Option (Int32)
  | 0, _, _ => none
  | f + 1, y3, y4 => if (k2 : Int32) ≤ (y4 : Int32) then some y3 else l10_times_5 k1 k2 f (r10_added y3 k1) (y4 + 1)
def r10_times (x0 : Int32) (x1 : Int32) : Option (Int32) := (l10_times_5 x0 x1 FU 0 0).bind fun z0 => some z0
set_option maxHeartbeats 4000000 in
set_option maxRecDepth 100000 in
theorem t10_times_5 (X : Nat × (Nat → Int32)) (Q : mQ) (s : Nat) (I : mI) (k1 : Int32) (k2 : Int32) : ∀ (f : Nat) (y3 : Int32) (y4 : Int32) (z : Int32), l10_times_5 k1 k2 f y3 y4 = some z → mV X m10_times 1 0 0 24 [.ref 119, .int k1, .int k2, .int z, mX0] [] NN KK I (PP s) Q → mV X m10_times 1 0 0 5 [.ref 119, .int k1, .int k2, .int y3, .int y4] [] NN KK I (PP s) Q := by
  intro f
  induction f with
  | zero => intro y3 y4 z hr hk; cases hr
  | succ f ih =>
    intro y3 y4 z hr hk
    unfold l10_times_5 at hr
    refine mV_iload f10_times_5 rfl ?_
    refine mV_iload f10_times_7 rfl ?_
    refine mV_icmp_ge f10_times_8 (fun h0 => ?_) (fun h0 => ?_)
    · rw [if_pos h0] at hr
      have hr := Option.some.inj hr; subst hr
      refine mV_drop (L' := [.ref 119, .int k1, .int k2, .int y3, mX0]) (mSub_k (mSub_k (mSub_k (mSub_k (mSub_x mSub_n))))) ?_
      exact hk
    · rw [if_neg h0] at hr
      refine mV_aload f10_times_11 rfl ?_
      refine mV_iload f10_times_12 rfl ?_
      refine mV_iload f10_times_13 rfl ?_
      refine mV_cV f10_times_14 tg_m10_added mCls10 (by decide) kk_119 (mC_deep (c10_added X I s y3 k1 rfl) (by decide)) rfl rfl (Nat.le_of_ble_eq_true rfl) ?_
      refine mV_istore (L' := [.ref 119, .int k1, .int k2, .int (r10_added y3 k1), .int y4]) f10_times_17 (by decide) rfl rfl ?_
      refine mV_iinc (y := (y4 + 1)) (L' := [.ref 119, .int k1, .int k2, .int (r10_added y3 k1), .int (y4 + 1)]) f10_times_18 rfl rfl (by decide) rfl rfl ?_
      refine mV_goto f10_times_21 ?_
      exact ih (r10_added y3 k1) (y4 + 1) _ hr hk
set_option maxHeartbeats 4000000 in
set_option maxRecDepth 100000 in
theorem w10_times (X : Nat × (Nat → Int32)) (I : mI) (s : Nat) (x0 : Int32) (x1 : Int32) (Q : mQ) {res : Int32} (hr : r10_times x0 x1 = some res) (hQ : Q (some (.int res)) NN KK I (PP s)) : mV X m10_times 1 0 0 0 [.ref 119, .int x0, .int x1, mX0, mX0] [] NN KK I (PP s) Q := by
  unfold r10_times at hr
  refine mV_push f10_times_0 ?_
  refine mV_istore (L' := [.ref 119, .int x0, .int x1, .int 0, mX0]) f10_times_1 (by decide) rfl rfl ?_
  refine mV_push f10_times_2 ?_
  refine mV_istore (L' := [.ref 119, .int x0, .int x1, .int 0, .int 0]) f10_times_3 (by decide) rfl rfl ?_
  obtain ⟨z0, hz0, hr⟩ := mBind hr
  refine t10_times_5 X Q s I x0 x1 FU 0 0 _ hz0 ?_
  refine mV_iload f10_times_24 rfl ?_
  have hr := Option.some.inj hr; subst hr
  exact mV_iret rfl rfl f10_times_25 hQ
theorem c10_times (X : Nat × (Nat → Int32)) (I : mI) (s : Nat) (x0 : Int32) (x1 : Int32) {res : Int32} (hr : r10_times x0 x1 = some res) : mC X m10_times 1 0 0 [.ref 119, .int x0, .int x1] NN KK I (PP s) (mRet (some (.int res)) NN KK I (PP s)) :=
  mC_of (L0 := [.ref 119, .int x0, .int x1, mX0, mX0]) rfl (Nat.le_of_ble_eq_true rfl) (w10_times X I s x0 x1 _ hr (mRet_ok _ _ _ _ _))
def l10_allBeat_15 (I : mI) (k2 : Int32) : Nat → Int32 → Int32 → Option (Int32)
  | 0, _, _ => none
  | f + 1, y3, y4 => if (k2 : Int32) ≤ (y4 : Int32) then some y3 else (mRemO k2 y4).bind fun z0 => (if (z0 : Int32) = (0 : Int32) then some 0 else some y3 : Option (Int32)).bind fun z1 => l10_allBeat_15 I k2 f z1 (y4 + 1)
def l10_allBeat_56 (I : mI) (k2 : Int32) (k5 : Int32) : Nat → Int32 → Option (Int32)
  | 0, _ => none
  | f + 1, y4 => (mLd I 149 8 k5).bind fun z0 => (mRemO (z0 + 1) (y4 * k2)).bind fun z1 => if (z1 : Int32) = (0 : Int32) then l10_allBeat_56 I k2 k5 f (y4 * k2) else some y4
def l10_allBeat_49 (I : mI) (k2 : Int32) : Nat → Int32 → Int32 → Option (Int32)
  | 0, _, _ => none
  | f + 1, y4, y5 => if (8 : Int32) ≤ (y5 : Int32) then some y4 else (l10_allBeat_56 I k2 y5 FU y4).bind fun z0 => l10_allBeat_49 I k2 f z0 (y5 + 1)
def l10_allBeat_4 (I : mI) : Nat → Int32 → Int32 → Option (Int32)
  | 0, _, _ => none
  | f + 1, y1, y2 => if (100 : Int32) ≤ (y2 : Int32) then some y1 else (l10_allBeat_15 I y2 FU 1 2).bind fun z0 => (if (z0 : Int32) = (0 : Int32) then some y1 else (l10_allBeat_49 I y2 FU 1 0).bind fun z2 => (r10_times y1 z2).bind fun z3 => some z3 : Option (Int32)).bind fun z1 => l10_allBeat_4 I f z1 (y2 + 1)
def r10_allBeat (I : mI) : Option (Int32) := (l10_allBeat_4 I FU 1 2).bind fun z0 => some z0
set_option maxHeartbeats 4000000 in
set_option maxRecDepth 100000 in
theorem t10_allBeat_15 (X : Nat × (Nat → Int32)) (Q : mQ) (s : Nat) (I : mI) (k1 : Int32) (k2 : Int32) : ∀ (f : Nat) (y3 : Int32) (y4 : Int32) (z : Int32), l10_allBeat_15 I k2 f y3 y4 = some z → mV X m10_allBeat 2 0 0 36 [.ref 119, .int k1, .int k2, .int z, mX0, mX0] [] NN KK I (PP s) Q → mV X m10_allBeat 2 0 0 15 [.ref 119, .int k1, .int k2, .int y3, .int y4, mX0] [] NN KK I (PP s) Q := by
  intro f
  induction f with
  | zero => intro y3 y4 z hr hk; cases hr
  | succ f ih =>
    intro y3 y4 z hr hk
    unfold l10_allBeat_15 at hr
    refine mV_iload f10_allBeat_15 rfl ?_
    refine mV_iload f10_allBeat_17 rfl ?_
    refine mV_icmp_ge f10_allBeat_18 (fun h0 => ?_) (fun h0 => ?_)
    · rw [if_pos h0] at hr
      have hr := Option.some.inj hr; subst hr
      refine mV_drop (L' := [.ref 119, .int k1, .int k2, .int y3, mX0, mX0]) (mSub_k (mSub_k (mSub_k (mSub_k (mSub_x (mSub_x mSub_n)))))) ?_
      exact hk
    · rw [if_neg h0] at hr
      refine mV_iload f10_allBeat_21 rfl ?_
      refine mV_iload f10_allBeat_22 rfl ?_
      obtain ⟨z0, hz0, hr⟩ := mBind hr
      refine mV_remO f10_allBeat_24 hz0 ?_
      obtain ⟨z1, hz1, hr⟩ := mBind hr
      have keyz1 : mV X m10_allBeat 2 0 0 30 [.ref 119, .int k1, .int k2, .int z1, .int y4, mX0] [] NN KK I (PP s) Q := by
        refine mV_iinc (y := (y4 + 1)) (L' := [.ref 119, .int k1, .int k2, .int z1, .int (y4 + 1), mX0]) f10_allBeat_30 rfl rfl (by decide) rfl rfl ?_
        refine mV_goto f10_allBeat_33 ?_
        exact ih z1 (y4 + 1) _ hr hk
      clear hr
      have hr := hz1
      clear hz1
      refine mV_if_ne f10_allBeat_25 (fun h1 => ?_) (fun h1 => ?_)
      · rw [if_neg h1] at hr
        have hr := Option.some.inj hr; subst hr
        exact keyz1
      · rw [if_pos h1] at hr
        refine mV_push f10_allBeat_28 ?_
        refine mV_istore (L' := [.ref 119, .int k1, .int k2, .int 0, .int y4, mX0]) f10_allBeat_29 (by decide) rfl rfl ?_
        have hr := Option.some.inj hr; subst hr
        exact keyz1
set_option maxHeartbeats 4000000 in
set_option maxRecDepth 100000 in
theorem t10_allBeat_56 (X : Nat × (Nat → Int32)) (Q : mQ) (s : Nat) (I : mI) (k1 : Int32) (k2 : Int32) (k5 : Int32) : ∀ (f : Nat) (y4 : Int32) (z : Int32), l10_allBeat_56 I k2 k5 f y4 = some z → mV X m10_allBeat 2 0 0 82 [.ref 119, .int k1, .int k2, mX0, .int z, .int k5] [] NN KK I (PP s) Q → mV X m10_allBeat 2 0 0 56 [.ref 119, .int k1, .int k2, mX0, .int y4, .int k5] [] NN KK I (PP s) Q := by
  intro f
  induction f with
  | zero => intro y4 z hr hk; cases hr
  | succ f ih =>
    intro y4 z hr hk
    unfold l10_allBeat_56 at hr
    refine mV_aload f10_allBeat_56 rfl ?_
    refine mV_getP f10_allBeat_57 (by decide) kk_119 rfl (pp_119_52 _) ?_
    refine mV_iload f10_allBeat_60 rfl ?_
    obtain ⟨z0, hz0, hr⟩ := mBind hr
    refine mV_ldO f10_allBeat_62 (by decide) kk_149 hz0 ?_
    refine mV_push f10_allBeat_63 ?_
    refine mV_iadd f10_allBeat_64 ?_
    refine mV_iload f10_allBeat_65 rfl ?_
    refine mV_iload f10_allBeat_67 rfl ?_
    refine mV_imul f10_allBeat_68 ?_
    obtain ⟨z1, hz1, hr⟩ := mBind hr
    refine mV_remO f10_allBeat_69 hz1 ?_
    refine mV_if_ne f10_allBeat_70 (fun h0 => ?_) (fun h0 => ?_)
    · rw [if_neg h0] at hr
      have hr := Option.some.inj hr; subst hr
      exact hk
    · rw [if_pos h0] at hr
      refine mV_iload f10_allBeat_73 rfl ?_
      refine mV_iload f10_allBeat_75 rfl ?_
      refine mV_imul f10_allBeat_76 ?_
      refine mV_istore (L' := [.ref 119, .int k1, .int k2, mX0, .int (y4 * k2), .int k5]) f10_allBeat_77 (by decide) rfl rfl ?_
      refine mV_goto f10_allBeat_79 ?_
      exact ih (y4 * k2) _ hr hk
set_option maxHeartbeats 4000000 in
set_option maxRecDepth 100000 in
theorem t10_allBeat_49 (X : Nat × (Nat → Int32)) (Q : mQ) (s : Nat) (I : mI) (k1 : Int32) (k2 : Int32) : ∀ (f : Nat) (y4 : Int32) (y5 : Int32) (z : Int32), l10_allBeat_49 I k2 f y4 y5 = some z → mV X m10_allBeat 2 0 0 88 [.ref 119, .int k1, .int k2, mX0, .int z, mX0] [] NN KK I (PP s) Q → mV X m10_allBeat 2 0 0 49 [.ref 119, .int k1, .int k2, mX0, .int y4, .int y5] [] NN KK I (PP s) Q := by
  intro f
  induction f with
  | zero => intro y4 y5 z hr hk; cases hr
  | succ f ih =>
    intro y4 y5 z hr hk
    unfold l10_allBeat_49 at hr
    refine mV_iload f10_allBeat_49 rfl ?_
    refine mV_push f10_allBeat_51 ?_
    refine mV_icmp_ge f10_allBeat_53 (fun h0 => ?_) (fun h0 => ?_)
    · rw [if_pos h0] at hr
      have hr := Option.some.inj hr; subst hr
      refine mV_drop (L' := [.ref 119, .int k1, .int k2, mX0, .int y4, mX0]) (mSub_k (mSub_k (mSub_k (mSub_x (mSub_k (mSub_x mSub_n)))))) ?_
      exact hk
    · rw [if_neg h0] at hr
      obtain ⟨z0, hz0, hr⟩ := mBind hr
      refine t10_allBeat_56 X Q s I k1 k2 y5 FU y4 _ hz0 ?_
      refine mV_iinc (y := (y5 + 1)) (L' := [.ref 119, .int k1, .int k2, mX0, .int z0, .int (y5 + 1)]) f10_allBeat_82 rfl rfl (by decide) rfl rfl ?_
      refine mV_goto f10_allBeat_85 ?_
      exact ih z0 (y5 + 1) _ hr hk
set_option maxHeartbeats 4000000 in
set_option maxRecDepth 100000 in
theorem t10_allBeat_4 (X : Nat × (Nat → Int32)) (Q : mQ) (s : Nat) (I : mI) : ∀ (f : Nat) (y1 : Int32) (y2 : Int32) (z : Int32), l10_allBeat_4 I f y1 y2 = some z → mV X m10_allBeat 2 0 0 102 [.ref 119, .int z, mX0, mX0, mX0, mX0] [] NN KK I (PP s) Q → mV X m10_allBeat 2 0 0 4 [.ref 119, .int y1, .int y2, mX0, mX0, mX0] [] NN KK I (PP s) Q := by
  intro f
  induction f with
  | zero => intro y1 y2 z hr hk; cases hr
  | succ f ih =>
    intro y1 y2 z hr hk
    unfold l10_allBeat_4 at hr
    refine mV_iload f10_allBeat_4 rfl ?_
    refine mV_push f10_allBeat_5 ?_
    refine mV_icmp_ge f10_allBeat_7 (fun h0 => ?_) (fun h0 => ?_)
    · rw [if_pos h0] at hr
      have hr := Option.some.inj hr; subst hr
      refine mV_drop (L' := [.ref 119, .int y1, mX0, mX0, mX0, mX0]) (mSub_k (mSub_k (mSub_x (mSub_x (mSub_x (mSub_x mSub_n)))))) ?_
      exact hk
    · rw [if_neg h0] at hr
      refine mV_push f10_allBeat_10 ?_
      refine mV_istore (L' := [.ref 119, .int y1, .int y2, .int 1, mX0, mX0]) f10_allBeat_11 (by decide) rfl rfl ?_
      refine mV_push f10_allBeat_12 ?_
      refine mV_istore (L' := [.ref 119, .int y1, .int y2, .int 1, .int 2, mX0]) f10_allBeat_13 (by decide) rfl rfl ?_
      obtain ⟨z0, hz0, hr⟩ := mBind hr
      refine t10_allBeat_15 X Q s I y1 y2 FU 1 2 _ hz0 ?_
      refine mV_iload f10_allBeat_36 rfl ?_
      obtain ⟨z1, hz1, hr⟩ := mBind hr
      have keyz1 : mV X m10_allBeat 2 0 0 96 [.ref 119, .int z1, .int y2, mX0, mX0, mX0] [] NN KK I (PP s) Q := by
        refine mV_iinc (y := (y2 + 1)) (L' := [.ref 119, .int z1, .int (y2 + 1), mX0, mX0, mX0]) f10_allBeat_96 rfl rfl (by decide) rfl rfl ?_
        refine mV_goto f10_allBeat_99 ?_
        exact ih z1 (y2 + 1) _ hr hk
      clear hr
      have hr := hz1
      clear hz1
      refine mV_if_ne f10_allBeat_37 (fun h1 => ?_) (fun h1 => ?_)
      · rw [if_neg h1] at hr
        refine mV_push f10_allBeat_43 ?_
        refine mV_istore (L' := [.ref 119, .int y1, .int y2, .int z0, .int 1, mX0]) f10_allBeat_44 (by decide) rfl rfl ?_
        refine mV_push f10_allBeat_46 ?_
        refine mV_istore (L' := [.ref 119, .int y1, .int y2, .int z0, .int 1, .int 0]) f10_allBeat_47 (by decide) rfl rfl ?_
        obtain ⟨z2, hz2, hr⟩ := mBind hr
        refine mV_drop (L' := [.ref 119, .int y1, .int y2, mX0, .int 1, .int 0]) (mSub_k (mSub_k (mSub_k (mSub_x (mSub_k (mSub_k mSub_n)))))) ?_
        refine t10_allBeat_49 X Q s I y1 y2 FU 1 0 _ hz2 ?_
        refine mV_aload f10_allBeat_88 rfl ?_
        refine mV_iload f10_allBeat_89 rfl ?_
        refine mV_iload f10_allBeat_90 rfl ?_
        obtain ⟨z3, hz3, hr⟩ := mBind hr
        refine mV_cV f10_allBeat_92 tg_m10_times mCls10 (by decide) kk_119 (mC_deep (c10_times X I s y1 z2 hz3) (by decide)) rfl rfl (Nat.le_of_ble_eq_true rfl) ?_
        refine mV_istore (L' := [.ref 119, .int z3, .int y2, mX0, .int z2, mX0]) f10_allBeat_95 (by decide) rfl rfl ?_
        have hr := Option.some.inj hr; subst hr
        refine mV_drop (L' := [.ref 119, .int z3, .int y2, mX0, mX0, mX0]) (mSub_k (mSub_k (mSub_k (mSub_x (mSub_x (mSub_x mSub_n)))))) ?_
        exact keyz1
      · rw [if_pos h1] at hr
        refine mV_goto f10_allBeat_40 ?_
        have hr := Option.some.inj hr; subst hr
        refine mV_drop (L' := [.ref 119, .int y1, .int y2, mX0, mX0, mX0]) (mSub_k (mSub_k (mSub_k (mSub_x (mSub_x (mSub_x mSub_n)))))) ?_
        exact keyz1
set_option maxHeartbeats 4000000 in
set_option maxRecDepth 100000 in
theorem w10_allBeat (X : Nat × (Nat → Int32)) (I : mI) (s : Nat) (Q : mQ) {res : Int32} (hr : r10_allBeat I = some res) (hQ : Q (some (.int res)) NN KK I (PP s)) : mV X m10_allBeat 2 0 0 0 [.ref 119, mX0, mX0, mX0, mX0, mX0] [] NN KK I (PP s) Q := by
  unfold r10_allBeat at hr
  refine mV_push f10_allBeat_0 ?_
  refine mV_istore (L' := [.ref 119, .int 1, mX0, mX0, mX0, mX0]) f10_allBeat_1 (by decide) rfl rfl ?_
  refine mV_push f10_allBeat_2 ?_
  refine mV_istore (L' := [.ref 119, .int 1, .int 2, mX0, mX0, mX0]) f10_allBeat_3 (by decide) rfl rfl ?_
  obtain ⟨z0, hz0, hr⟩ := mBind hr
  refine t10_allBeat_4 X Q s I FU 1 2 _ hz0 ?_
  refine mV_iload f10_allBeat_102 rfl ?_
  have hr := Option.some.inj hr; subst hr
  exact mV_iret rfl rfl f10_allBeat_103 hQ
theorem c10_allBeat (X : Nat × (Nat → Int32)) (I : mI) (s : Nat) {res : Int32} (hr : r10_allBeat I = some res) : mC X m10_allBeat 2 0 0 [.ref 119] NN KK I (PP s) (mRet (some (.int res)) NN KK I (PP s)) :=
  mC_of (L0 := [.ref 119, mX0, mX0, mX0, mX0, mX0]) rfl (Nat.le_of_ble_eq_true rfl) (w10_allBeat X I s _ hr (mRet_ok _ _ _ _ _))
def r10_beats (I : mI) (x0 : Int32) (x1 : Int32) : Option (Int32 × mI) := if (x0 : Int32) = ((-1) : Int32) then (r10_allBeat (mW I 119 0 0)).bind fun z4 => some (z4, (mW I 119 0 0)) else if ((r10_isString x0) : Int32) = (0 : Int32) then some ((-1), (mW I 119 0 0)) else if ((r10_isString x1) : Int32) = (0 : Int32) then some ((-1), (mW I 119 0 0)) else (mLd (mW I 119 0 0) 149 8 x0).bind fun z0 => (mLd (mW I 119 0 0) 149 8 x1).bind fun z1 => (r10_common (z0 + 1) (z1 + 1)).bind fun z2 => (mDivO (z0 + 1) z2).bind fun z3 => some ((z3 * (z1 + 1)), (mW I 119 0 0))
set_option maxHeartbeats 4000000 in
set_option maxRecDepth 100000 in
theorem w10_beats (X : Nat × (Nat → Int32)) (I : mI) (s : Nat) (x0 : Int32) (x1 : Int32) (Q : mQ) {res : Int32 × mI} (hr : r10_beats I x0 x1 = some res) (hQ : Q (some (.int res.1)) NN KK res.2 (PP s)) : mV X m10_beats 3 0 0 0 [.ref 119, .int x0, .int x1, mX0, mX0] [] NN KK I (PP s) Q := by
  unfold r10_beats at hr
  refine mV_aload f10_beats_0 rfl ?_
  refine mV_push f10_beats_1 ?_
  refine mV_putI f10_beats_2 (by decide) kk_119 rfl rfl ?_
  refine mV_iload f10_beats_5 rfl ?_
  refine mV_push f10_beats_6 ?_
  refine mV_icmp_ne f10_beats_7 (fun h0 => ?_) (fun h0 => ?_)
  · rw [if_neg h0] at hr
    refine mV_aload f10_beats_15 rfl ?_
    refine mV_iload f10_beats_16 rfl ?_
    refine mV_cV f10_beats_17 tg_m10_isString mCls10 (by decide) kk_119 (mC_deep (c10_isString X (mW I 119 0 0) s x0 rfl) (by decide)) rfl rfl (Nat.le_of_ble_eq_true rfl) ?_
    refine mV_if_eq f10_beats_20 (fun h1 => ?_) (fun h1 => ?_)
    · rw [if_pos h1] at hr
      refine mV_push f10_beats_31 ?_
      have hr := Option.some.inj hr; subst hr
      exact mV_iret rfl rfl f10_beats_32 hQ
    · rw [if_neg h1] at hr
      refine mV_aload f10_beats_23 rfl ?_
      refine mV_iload f10_beats_24 rfl ?_
      refine mV_cV f10_beats_25 tg_m10_isString mCls10 (by decide) kk_119 (mC_deep (c10_isString X (mW I 119 0 0) s x1 rfl) (by decide)) rfl rfl (Nat.le_of_ble_eq_true rfl) ?_
      refine mV_if_ne f10_beats_28 (fun h2 => ?_) (fun h2 => ?_)
      · rw [if_neg h2] at hr
        refine mV_aload f10_beats_33 rfl ?_
        refine mV_getP f10_beats_34 (by decide) kk_119 rfl (pp_119_52 _) ?_
        refine mV_iload f10_beats_37 rfl ?_
        obtain ⟨z0, hz0, hr⟩ := mBind hr
        refine mV_ldO f10_beats_38 (by decide) kk_149 hz0 ?_
        refine mV_push f10_beats_39 ?_
        refine mV_iadd f10_beats_40 ?_
        refine mV_istore (L' := [.ref 119, .int x0, .int x1, .int (z0 + 1), mX0]) f10_beats_41 (by decide) rfl rfl ?_
        refine mV_aload f10_beats_42 rfl ?_
        refine mV_getP f10_beats_43 (by decide) kk_119 rfl (pp_119_52 _) ?_
        refine mV_iload f10_beats_46 rfl ?_
        obtain ⟨z1, hz1, hr⟩ := mBind hr
        refine mV_ldO f10_beats_47 (by decide) kk_149 hz1 ?_
        refine mV_push f10_beats_48 ?_
        refine mV_iadd f10_beats_49 ?_
        refine mV_istore (L' := [.ref 119, .int x0, .int x1, .int (z0 + 1), .int (z1 + 1)]) f10_beats_50 (by decide) rfl rfl ?_
        refine mV_iload f10_beats_52 rfl ?_
        refine mV_aload f10_beats_53 rfl ?_
        refine mV_iload f10_beats_54 rfl ?_
        refine mV_iload f10_beats_55 rfl ?_
        obtain ⟨z2, hz2, hr⟩ := mBind hr
        refine mV_cV f10_beats_57 tg_m10_common mCls10 (by decide) kk_119 (mC_deep (c10_common X (mW I 119 0 0) s (z0 + 1) (z1 + 1) hz2) (by decide)) rfl rfl (Nat.le_of_ble_eq_true rfl) ?_
        obtain ⟨z3, hz3, hr⟩ := mBind hr
        refine mV_divO f10_beats_60 hz3 ?_
        refine mV_iload f10_beats_61 rfl ?_
        refine mV_imul f10_beats_63 ?_
        have hr := Option.some.inj hr; subst hr
        exact mV_iret rfl rfl f10_beats_64 hQ
      · rw [if_pos h2] at hr
        refine mV_push f10_beats_31 ?_
        have hr := Option.some.inj hr; subst hr
        exact mV_iret rfl rfl f10_beats_32 hQ
  · rw [if_pos h0] at hr
    refine mV_aload f10_beats_10 rfl ?_
    obtain ⟨z4, hz4, hr⟩ := mBind hr
    refine mV_cV f10_beats_11 tg_m10_allBeat mCls10 (by decide) kk_119 (mC_deep (c10_allBeat X (mW I 119 0 0) s hz4) (by decide)) rfl rfl (Nat.le_of_ble_eq_true rfl) ?_
    have hr := Option.some.inj hr; subst hr
    exact mV_iret rfl rfl f10_beats_14 hQ
theorem c10_beats (X : Nat × (Nat → Int32)) (I : mI) (s : Nat) (x0 : Int32) (x1 : Int32) {res : Int32 × mI} (hr : r10_beats I x0 x1 = some res) : mC X m10_beats 3 0 0 [.ref 119, .int x0, .int x1] NN KK I (PP s) (mRet (some (.int res.1)) NN KK res.2 (PP s)) :=
  mC_of (L0 := [.ref 119, .int x0, .int x1, mX0, mX0]) rfl (Nat.le_of_ble_eq_true rfl) (w10_beats X I s x0 x1 _ hr (mRet_ok _ _ _ _ _))
def r10_pedal (I : mI) (x0 : Int32) (x1 : Int32) (x2 : Int32) : Option (Int32 × mI) := if (x0 : Int32) = ((-1) : Int32) then some (0, (mW (mW I 119 0 0) 119 53 0)) else if ((r10_isIn x0 0 59) : Int32) = (0 : Int32) then some ((-1), (mW I 119 0 0)) else if ((r10_isIn x1 1 30) : Int32) = (0 : Int32) then some ((-1), (mW I 119 0 0)) else if ((r10_isIn x2 0 60) : Int32) = (0 : Int32) then some ((-1), (mW I 119 0 0)) else if (I 119 53 : Int32) = (9 : Int32) then some ((-1), (mW I 119 0 0)) else (mSto (mW I 119 0 0) 150 9 (I 119 53) x0).bind fun z0 => (mSto z0 151 9 (z0 119 53) x1).bind fun z1 => (mSto z1 152 9 (z1 119 53) x2).bind fun z2 => some ((z2 119 53 + 1), (mW z2 119 53 (z2 119 53 + 1)))
set_option maxHeartbeats 4000000 in
set_option maxRecDepth 100000 in
theorem w10_pedal (X : Nat × (Nat → Int32)) (I : mI) (s : Nat) (x0 : Int32) (x1 : Int32) (x2 : Int32) (Q : mQ) {res : Int32 × mI} (hr : r10_pedal I x0 x1 x2 = some res) (hQ : Q (some (.int res.1)) NN KK res.2 (PP s)) : mV X m10_pedal 1 0 0 0 [.ref 119, .int x0, .int x1, .int x2] [] NN KK I (PP s) Q := by
  unfold r10_pedal at hr
  refine mV_aload f10_pedal_0 rfl ?_
  refine mV_push f10_pedal_1 ?_
  refine mV_putI f10_pedal_2 (by decide) kk_119 rfl rfl ?_
  refine mV_iload f10_pedal_5 rfl ?_
  refine mV_push f10_pedal_6 ?_
  refine mV_icmp_ne f10_pedal_7 (fun h0 => ?_) (fun h0 => ?_)
  · rw [if_neg h0] at hr
    refine mV_aload f10_pedal_17 rfl ?_
    refine mV_iload f10_pedal_18 rfl ?_
    refine mV_push f10_pedal_19 ?_
    refine mV_push f10_pedal_20 ?_
    refine mV_cV f10_pedal_22 tg_m10_isIn mCls10 (by decide) kk_119 (mC_deep (c10_isIn X (mW I 119 0 0) s x0 0 59 rfl) (by decide)) rfl rfl (Nat.le_of_ble_eq_true rfl) ?_
    refine mV_if_eq f10_pedal_25 (fun h1 => ?_) (fun h1 => ?_)
    · rw [if_pos h1] at hr
      refine mV_push f10_pedal_59 ?_
      have hr := Option.some.inj hr; subst hr
      exact mV_iret rfl rfl f10_pedal_60 hQ
    · rw [if_neg h1] at hr
      refine mV_aload f10_pedal_28 rfl ?_
      refine mV_iload f10_pedal_29 rfl ?_
      refine mV_push f10_pedal_30 ?_
      refine mV_push f10_pedal_31 ?_
      refine mV_cV f10_pedal_33 tg_m10_isIn mCls10 (by decide) kk_119 (mC_deep (c10_isIn X (mW I 119 0 0) s x1 1 30 rfl) (by decide)) rfl rfl (Nat.le_of_ble_eq_true rfl) ?_
      refine mV_if_eq f10_pedal_36 (fun h2 => ?_) (fun h2 => ?_)
      · rw [if_pos h2] at hr
        refine mV_push f10_pedal_59 ?_
        have hr := Option.some.inj hr; subst hr
        exact mV_iret rfl rfl f10_pedal_60 hQ
      · rw [if_neg h2] at hr
        refine mV_aload f10_pedal_39 rfl ?_
        refine mV_iload f10_pedal_40 rfl ?_
        refine mV_push f10_pedal_41 ?_
        refine mV_push f10_pedal_42 ?_
        refine mV_cV f10_pedal_44 tg_m10_isIn mCls10 (by decide) kk_119 (mC_deep (c10_isIn X (mW I 119 0 0) s x2 0 60 rfl) (by decide)) rfl rfl (Nat.le_of_ble_eq_true rfl) ?_
        refine mV_if_eq f10_pedal_47 (fun h3 => ?_) (fun h3 => ?_)
        · rw [if_pos h3] at hr
          refine mV_push f10_pedal_59 ?_
          have hr := Option.some.inj hr; subst hr
          exact mV_iret rfl rfl f10_pedal_60 hQ
        · rw [if_neg h3] at hr
          refine mV_aload f10_pedal_50 rfl ?_
          refine mV_gI (I 119 53) f10_pedal_51 (by decide) kk_119 rfl rfl ?_
          refine mV_push f10_pedal_54 ?_
          refine mV_icmp_ne f10_pedal_56 (fun h4 => ?_) (fun h4 => ?_)
          · rw [if_neg h4] at hr
            refine mV_aload f10_pedal_61 rfl ?_
            refine mV_getP f10_pedal_62 (by decide) kk_119 rfl (pp_119_54 _) ?_
            refine mV_aload f10_pedal_65 rfl ?_
            refine mV_gI (I 119 53) f10_pedal_66 (by decide) kk_119 rfl rfl ?_
            refine mV_iload f10_pedal_69 rfl ?_
            obtain ⟨z0, hz0, hr⟩ := mBind hr
            refine mV_stO f10_pedal_70 (by decide) kk_150 hz0 ?_
            refine mV_aload f10_pedal_71 rfl ?_
            refine mV_getP f10_pedal_72 (by decide) kk_119 rfl (pp_119_55 _) ?_
            refine mV_aload f10_pedal_75 rfl ?_
            refine mV_gI (z0 119 53) f10_pedal_76 (by decide) kk_119 rfl rfl ?_
            refine mV_iload f10_pedal_79 rfl ?_
            obtain ⟨z1, hz1, hr⟩ := mBind hr
            refine mV_stO f10_pedal_80 (by decide) kk_151 hz1 ?_
            refine mV_aload f10_pedal_81 rfl ?_
            refine mV_getP f10_pedal_82 (by decide) kk_119 rfl (pp_119_56 _) ?_
            refine mV_aload f10_pedal_85 rfl ?_
            refine mV_gI (z1 119 53) f10_pedal_86 (by decide) kk_119 rfl rfl ?_
            refine mV_iload f10_pedal_89 rfl ?_
            obtain ⟨z2, hz2, hr⟩ := mBind hr
            refine mV_stO f10_pedal_90 (by decide) kk_152 hz2 ?_
            refine mV_aload f10_pedal_91 rfl ?_
            refine mV_aload f10_pedal_92 rfl ?_
            refine mV_gI (z2 119 53) f10_pedal_93 (by decide) kk_119 rfl rfl ?_
            refine mV_push f10_pedal_96 ?_
            refine mV_iadd f10_pedal_97 ?_
            refine mV_putI f10_pedal_98 (by decide) kk_119 rfl rfl ?_
            refine mV_aload f10_pedal_101 rfl ?_
            refine mV_gI (z2 119 53 + 1) f10_pedal_102 (by decide) kk_119 rfl rfl ?_
            have hr := Option.some.inj hr; subst hr
            exact mV_iret rfl rfl f10_pedal_105 hQ
          · rw [if_pos h4] at hr
            refine mV_push f10_pedal_59 ?_
            have hr := Option.some.inj hr; subst hr
            exact mV_iret rfl rfl f10_pedal_60 hQ
  · rw [if_pos h0] at hr
    refine mV_aload f10_pedal_10 rfl ?_
    refine mV_push f10_pedal_11 ?_
    refine mV_putI f10_pedal_12 (by decide) kk_119 rfl rfl ?_
    refine mV_push f10_pedal_15 ?_
    have hr := Option.some.inj hr; subst hr
    exact mV_iret rfl rfl f10_pedal_16 hQ
theorem c10_pedal (X : Nat × (Nat → Int32)) (I : mI) (s : Nat) (x0 : Int32) (x1 : Int32) (x2 : Int32) {res : Int32 × mI} (hr : r10_pedal I x0 x1 x2 = some res) : mC X m10_pedal 1 0 0 [.ref 119, .int x0, .int x1, .int x2] NN KK I (PP s) (mRet (some (.int res.1)) NN KK res.2 (PP s)) :=
  mC_of (L0 := [.ref 119, .int x0, .int x1, .int x2]) rfl (Nat.le_of_ble_eq_true rfl) (w10_pedal X I s x0 x1 x2 _ hr (mRet_ok _ _ _ _ _))
def l10_soundsAt_4 (I : mI) (k1 : Int32) : Nat → Int32 → Int32 → Option (Int32)
  | 0, _, _ => none
  | f + 1, y2, y3 => if (I 119 53 : Int32) ≤ (y3 : Int32) then some y2 else (mLd I 150 9 y3).bind fun z0 => (mLd I 150 9 y3).bind fun z1 => (mLd I 151 9 y3).bind fun z2 => (if ((r10_isIn k1 z0 ((z1 + z2) - 1)) : Int32) = (0 : Int32) then some y2 else some (y2 + 1) : Option (Int32)).bind fun z3 => l10_soundsAt_4 I k1 f z3 (y3 + 1)
def r10_soundsAt (I : mI) (x0 : Int32) : Option (Int32) := (l10_soundsAt_4 I x0 FU 0 0).bind fun z0 => some z0
set_option maxHeartbeats 4000000 in
set_option maxRecDepth 100000 in
theorem t10_soundsAt_4 (X : Nat × (Nat → Int32)) (Q : mQ) (s : Nat) (I : mI) (k1 : Int32) : ∀ (f : Nat) (y2 : Int32) (y3 : Int32) (z : Int32), l10_soundsAt_4 I k1 f y2 y3 = some z → mV X m10_soundsAt 1 0 0 51 [.ref 119, .int k1, .int z, mX0] [] NN KK I (PP s) Q → mV X m10_soundsAt 1 0 0 4 [.ref 119, .int k1, .int y2, .int y3] [] NN KK I (PP s) Q := by
  intro f
  induction f with
  | zero => intro y2 y3 z hr hk; cases hr
  | succ f ih =>
    intro y2 y3 z hr hk
    unfold l10_soundsAt_4 at hr
    refine mV_iload f10_soundsAt_4 rfl ?_
    refine mV_aload f10_soundsAt_5 rfl ?_
    refine mV_gI (I 119 53) f10_soundsAt_6 (by decide) kk_119 rfl rfl ?_
    refine mV_icmp_ge f10_soundsAt_9 (fun h0 => ?_) (fun h0 => ?_)
    · rw [if_pos h0] at hr
      have hr := Option.some.inj hr; subst hr
      refine mV_drop (L' := [.ref 119, .int k1, .int y2, mX0]) (mSub_k (mSub_k (mSub_k (mSub_x mSub_n)))) ?_
      exact hk
    · rw [if_neg h0] at hr
      refine mV_aload f10_soundsAt_12 rfl ?_
      refine mV_iload f10_soundsAt_13 rfl ?_
      refine mV_aload f10_soundsAt_14 rfl ?_
      refine mV_getP f10_soundsAt_15 (by decide) kk_119 rfl (pp_119_54 _) ?_
      refine mV_iload f10_soundsAt_18 rfl ?_
      obtain ⟨z0, hz0, hr⟩ := mBind hr
      refine mV_ldO f10_soundsAt_19 (by decide) kk_150 hz0 ?_
      refine mV_aload f10_soundsAt_20 rfl ?_
      refine mV_getP f10_soundsAt_21 (by decide) kk_119 rfl (pp_119_54 _) ?_
      refine mV_iload f10_soundsAt_24 rfl ?_
      obtain ⟨z1, hz1, hr⟩ := mBind hr
      refine mV_ldO f10_soundsAt_25 (by decide) kk_150 hz1 ?_
      refine mV_aload f10_soundsAt_26 rfl ?_
      refine mV_getP f10_soundsAt_27 (by decide) kk_119 rfl (pp_119_55 _) ?_
      refine mV_iload f10_soundsAt_30 rfl ?_
      obtain ⟨z2, hz2, hr⟩ := mBind hr
      refine mV_ldO f10_soundsAt_31 (by decide) kk_151 hz2 ?_
      refine mV_iadd f10_soundsAt_32 ?_
      refine mV_push f10_soundsAt_33 ?_
      refine mV_isub f10_soundsAt_34 ?_
      refine mV_cV f10_soundsAt_35 tg_m10_isIn mCls10 (by decide) kk_119 (mC_deep (c10_isIn X I s k1 z0 ((z1 + z2) - 1) rfl) (by decide)) rfl rfl (Nat.le_of_ble_eq_true rfl) ?_
      obtain ⟨z3, hz3, hr⟩ := mBind hr
      have keyz3 : mV X m10_soundsAt 1 0 0 45 [.ref 119, .int k1, .int z3, .int y3] [] NN KK I (PP s) Q := by
        refine mV_iinc (y := (y3 + 1)) (L' := [.ref 119, .int k1, .int z3, .int (y3 + 1)]) f10_soundsAt_45 rfl rfl (by decide) rfl rfl ?_
        refine mV_goto f10_soundsAt_48 ?_
        exact ih z3 (y3 + 1) _ hr hk
      clear hr
      have hr := hz3
      clear hz3
      refine mV_if_eq f10_soundsAt_38 (fun h1 => ?_) (fun h1 => ?_)
      · rw [if_pos h1] at hr
        have hr := Option.some.inj hr; subst hr
        exact keyz3
      · rw [if_neg h1] at hr
        refine mV_iload f10_soundsAt_41 rfl ?_
        refine mV_push f10_soundsAt_42 ?_
        refine mV_iadd f10_soundsAt_43 ?_
        refine mV_istore (L' := [.ref 119, .int k1, .int (y2 + 1), .int y3]) f10_soundsAt_44 (by decide) rfl rfl ?_
        have hr := Option.some.inj hr; subst hr
        exact keyz3
set_option maxHeartbeats 4000000 in
set_option maxRecDepth 100000 in
theorem w10_soundsAt (X : Nat × (Nat → Int32)) (I : mI) (s : Nat) (x0 : Int32) (Q : mQ) {res : Int32} (hr : r10_soundsAt I x0 = some res) (hQ : Q (some (.int res)) NN KK I (PP s)) : mV X m10_soundsAt 1 0 0 0 [.ref 119, .int x0, mX0, mX0] [] NN KK I (PP s) Q := by
  unfold r10_soundsAt at hr
  refine mV_push f10_soundsAt_0 ?_
  refine mV_istore (L' := [.ref 119, .int x0, .int 0, mX0]) f10_soundsAt_1 (by decide) rfl rfl ?_
  refine mV_push f10_soundsAt_2 ?_
  refine mV_istore (L' := [.ref 119, .int x0, .int 0, .int 0]) f10_soundsAt_3 (by decide) rfl rfl ?_
  obtain ⟨z0, hz0, hr⟩ := mBind hr
  refine t10_soundsAt_4 X Q s I x0 FU 0 0 _ hz0 ?_
  refine mV_iload f10_soundsAt_51 rfl ?_
  have hr := Option.some.inj hr; subst hr
  exact mV_iret rfl rfl f10_soundsAt_52 hQ
theorem c10_soundsAt (X : Nat × (Nat → Int32)) (I : mI) (s : Nat) (x0 : Int32) {res : Int32} (hr : r10_soundsAt I x0 = some res) : mC X m10_soundsAt 1 0 0 [.ref 119, .int x0] NN KK I (PP s) (mRet (some (.int res)) NN KK I (PP s)) :=
  mC_of (L0 := [.ref 119, .int x0, mX0, mX0]) rfl (Nat.le_of_ble_eq_true rfl) (w10_soundsAt X I s x0 _ hr (mRet_ok _ _ _ _ _))

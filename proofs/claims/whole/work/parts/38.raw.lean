def r10_readDeedMore (I : mI) (x0 : Int32) : Option (Int32 × mI) := if (x0 : Int32) = (1 : Int32) then some (0, I) else (if (x0 : Int32) = (2 : Int32) then some 1 else some 0 : Option (Int32)).bind fun z0 => (if (x0 : Int32) = (0 : Int32) then some 7 else if (x0 : Int32) = (3 : Int32) then some 9 else some 99 : Option (Int32)).bind fun z1 => (r10_readNumber I z0 z1).bind fun z2 => some (z2.1, z2.2)
set_option maxHeartbeats 4000000 in
set_option maxRecDepth 100000 in
theorem w10_readDeedMore (X : Nat × (Nat → Int32)) (I : mI) (s : Nat) (x0 : Int32) (Q : mQ) {res : Int32 × mI} (hr : r10_readDeedMore I x0 = some res) (hQ : Q (some (.int res.1)) NN KK res.2 (PP s)) : mV X m10_readDeedMore 4 0 0 0 [.ref 119, .int x0] [] NN KK I (PP s) Q := by
  unfold r10_readDeedMore at hr
  refine mV_iload f10_readDeedMore_0 rfl ?_
  refine mV_push f10_readDeedMore_1 ?_
  refine mV_icmp_ne f10_readDeedMore_2 (fun h0 => ?_) (fun h0 => ?_)
  · rw [if_neg h0] at hr
    refine mV_aload f10_readDeedMore_7 rfl ?_
    refine mV_iload f10_readDeedMore_8 rfl ?_
    refine mV_push f10_readDeedMore_9 ?_
    obtain ⟨z0, hz0, hr⟩ := mBind hr
    have keyz0 : mV X m10_readDeedMore 4 0 0 18 [.ref 119, .int x0] [.int z0, .ref 119] NN KK I (PP s) Q := by
      refine mV_iload f10_readDeedMore_18 rfl ?_
      obtain ⟨z1, hz1, hr⟩ := mBind hr
      have keyz1 : mV X m10_readDeedMore 4 0 0 39 [.ref 119, mX0] [.int z1, .int z0, .ref 119] NN KK I (PP s) Q := by
        obtain ⟨z2, hz2, hr⟩ := mBind hr
        refine mV_cV f10_readDeedMore_39 tg_m10_readNumber mCls10 (by decide) kk_119 (mC_deep (c10_readNumber X I s z0 z1 hz2) (by decide)) rfl rfl (Nat.le_of_ble_eq_true rfl) ?_
        have hr := Option.some.inj hr; subst hr
        exact mV_iret rfl rfl f10_readDeedMore_42 hQ
      clear hr
      have hr := hz1
      clear hz1
      refine mV_if_ne f10_readDeedMore_19 (fun h2 => ?_) (fun h2 => ?_)
      · rw [if_neg h2] at hr
        refine mV_iload f10_readDeedMore_27 rfl ?_
        refine mV_push f10_readDeedMore_28 ?_
        refine mV_icmp_ne f10_readDeedMore_29 (fun h3 => ?_) (fun h3 => ?_)
        · rw [if_neg h3] at hr
          refine mV_push f10_readDeedMore_37 ?_
          have hr := Option.some.inj hr; subst hr
          refine mV_drop (L' := [.ref 119, mX0]) (mSub_k (mSub_x mSub_n)) ?_
          exact keyz1
        · rw [if_pos h3] at hr
          refine mV_push f10_readDeedMore_32 ?_
          refine mV_goto f10_readDeedMore_34 ?_
          have hr := Option.some.inj hr; subst hr
          refine mV_drop (L' := [.ref 119, mX0]) (mSub_k (mSub_x mSub_n)) ?_
          exact keyz1
      · rw [if_pos h2] at hr
        refine mV_push f10_readDeedMore_22 ?_
        refine mV_goto f10_readDeedMore_24 ?_
        have hr := Option.some.inj hr; subst hr
        refine mV_drop (L' := [.ref 119, mX0]) (mSub_k (mSub_x mSub_n)) ?_
        exact keyz1
    clear hr
    have hr := hz0
    clear hz0
    refine mV_icmp_ne f10_readDeedMore_10 (fun h1 => ?_) (fun h1 => ?_)
    · rw [if_neg h1] at hr
      refine mV_push f10_readDeedMore_17 ?_
      have hr := Option.some.inj hr; subst hr
      exact keyz0
    · rw [if_pos h1] at hr
      refine mV_push f10_readDeedMore_13 ?_
      refine mV_goto f10_readDeedMore_14 ?_
      have hr := Option.some.inj hr; subst hr
      exact keyz0
  · rw [if_pos h0] at hr
    refine mV_push f10_readDeedMore_5 ?_
    have hr := Option.some.inj hr; subst hr
    exact mV_iret rfl rfl f10_readDeedMore_6 hQ
theorem c10_readDeedMore (X : Nat × (Nat → Int32)) (I : mI) (s : Nat) (x0 : Int32) {res : Int32 × mI} (hr : r10_readDeedMore I x0 = some res) : mC X m10_readDeedMore 4 0 0 [.ref 119, .int x0] NN KK I (PP s) (mRet (some (.int res.1)) NN KK res.2 (PP s)) :=
  mC_of (L0 := [.ref 119, .int x0]) rfl (Nat.le_of_ble_eq_true rfl) (w10_readDeedMore X I s x0 _ hr (mRet_ok _ _ _ _ _))
def r10_readDeed (I : mI) (x0 : Int32) : Option (Int32 × mI) := (r10_readTold I 19 0 999).bind fun z0 => (mSto z0.2 140 96 x0 z0.1).bind fun z1 => (mLd z1 140 96 x0).bind fun z2 => if (z2 : Int32) = ((-1) : Int32) then some ((-1), z1) else if ((r10_kindOfDeed z1) : Int32) = ((-1) : Int32) then (r10_errs z1 1).bind fun z10 => some (z10.1, z10.2) else (r10_reads z1).bind fun z3 => (mSto z3 140 96 (x0 + 1) (r10_kindOfDeed z1)).bind fun z4 => (r10_readDeedMore z4 (r10_kindOfDeed z1)).bind fun z5 => (mSto z5.2 140 96 (x0 + 2) z5.1).bind fun z6 => (mLd z6 140 96 (x0 + 2)).bind fun z7 => (if (z7 : Int32) = ((-1) : Int32) then some ((-1), z6) else (r10_readMark z6 59).bind fun z9 => some (z9.1, z9.2) : Option (Int32 × mI)).bind fun z8 => some (z8.1, z8.2)
set_option maxHeartbeats 4000000 in
set_option maxRecDepth 100000 in
theorem w10_readDeed (X : Nat × (Nat → Int32)) (I : mI) (s : Nat) (x0 : Int32) (Q : mQ) {res : Int32 × mI} (hr : r10_readDeed I x0 = some res) (hQ : Q (some (.int res.1)) NN KK res.2 (PP s)) : mV X m10_readDeed 5 0 0 0 [.ref 119, .int x0, mX0] [] NN KK I (PP s) Q := by
  unfold r10_readDeed at hr
  refine mV_aload f10_readDeed_0 rfl ?_
  refine mV_getP f10_readDeed_1 (by decide) kk_119 rfl (pp_119_40 _) ?_
  refine mV_iload f10_readDeed_4 rfl ?_
  refine mV_aload f10_readDeed_5 rfl ?_
  refine mV_push f10_readDeed_6 ?_
  refine mV_push f10_readDeed_8 ?_
  refine mV_push f10_readDeed_9 ?_
  obtain ⟨z0, hz0, hr⟩ := mBind hr
  refine mV_cV f10_readDeed_12 tg_m10_readTold mCls10 (by decide) kk_119 (mC_deep (c10_readTold X I s 19 0 999 hz0) (by decide)) rfl rfl (Nat.le_of_ble_eq_true rfl) ?_
  obtain ⟨z1, hz1, hr⟩ := mBind hr
  refine mV_stO f10_readDeed_15 (by decide) kk_140 hz1 ?_
  refine mV_aload f10_readDeed_16 rfl ?_
  refine mV_getP f10_readDeed_17 (by decide) kk_119 rfl (pp_119_40 _) ?_
  refine mV_iload f10_readDeed_20 rfl ?_
  obtain ⟨z2, hz2, hr⟩ := mBind hr
  refine mV_ldO f10_readDeed_21 (by decide) kk_140 hz2 ?_
  refine mV_push f10_readDeed_22 ?_
  refine mV_icmp_ne f10_readDeed_23 (fun h0 => ?_) (fun h0 => ?_)
  · rw [if_neg h0] at hr
    refine mV_aload f10_readDeed_28 rfl ?_
    refine mV_cV f10_readDeed_29 tg_m10_kindOfDeed mCls10 (by decide) kk_119 (mC_deep (c10_kindOfDeed X z1 s rfl) (by decide)) rfl rfl (Nat.le_of_ble_eq_true rfl) ?_
    refine mV_istore (L' := [.ref 119, .int x0, .int (r10_kindOfDeed z1)]) f10_readDeed_32 (by decide) rfl rfl ?_
    refine mV_iload f10_readDeed_33 rfl ?_
    refine mV_push f10_readDeed_34 ?_
    refine mV_icmp_ne f10_readDeed_35 (fun h1 => ?_) (fun h1 => ?_)
    · rw [if_neg h1] at hr
      refine mV_aload f10_readDeed_44 rfl ?_
      obtain ⟨z3, hz3, hr⟩ := mBind hr
      refine mV_cV f10_readDeed_45 tg_m10_reads mCls10 (by decide) kk_119 (mC_deep (c10_reads X z1 s hz3) (by decide)) rfl rfl (Nat.le_of_ble_eq_true rfl) ?_
      refine mV_aload f10_readDeed_48 rfl ?_
      refine mV_getP f10_readDeed_49 (by decide) kk_119 rfl (pp_119_40 _) ?_
      refine mV_iload f10_readDeed_52 rfl ?_
      refine mV_push f10_readDeed_53 ?_
      refine mV_iadd f10_readDeed_54 ?_
      refine mV_iload f10_readDeed_55 rfl ?_
      obtain ⟨z4, hz4, hr⟩ := mBind hr
      refine mV_stO f10_readDeed_56 (by decide) kk_140 hz4 ?_
      refine mV_aload f10_readDeed_57 rfl ?_
      refine mV_getP f10_readDeed_58 (by decide) kk_119 rfl (pp_119_40 _) ?_
      refine mV_iload f10_readDeed_61 rfl ?_
      refine mV_push f10_readDeed_62 ?_
      refine mV_iadd f10_readDeed_63 ?_
      refine mV_aload f10_readDeed_64 rfl ?_
      refine mV_iload f10_readDeed_65 rfl ?_
      obtain ⟨z5, hz5, hr⟩ := mBind hr
      refine mV_cV f10_readDeed_66 tg_m10_readDeedMore mCls10 (by decide) kk_119 (mC_deep (c10_readDeedMore X z4 s (r10_kindOfDeed z1) hz5) (by decide)) rfl rfl (Nat.le_of_ble_eq_true rfl) ?_
      obtain ⟨z6, hz6, hr⟩ := mBind hr
      refine mV_stO f10_readDeed_69 (by decide) kk_140 hz6 ?_
      refine mV_aload f10_readDeed_70 rfl ?_
      refine mV_getP f10_readDeed_71 (by decide) kk_119 rfl (pp_119_40 _) ?_
      refine mV_iload f10_readDeed_74 rfl ?_
      refine mV_push f10_readDeed_75 ?_
      refine mV_iadd f10_readDeed_76 ?_
      obtain ⟨z7, hz7, hr⟩ := mBind hr
      refine mV_ldO f10_readDeed_77 (by decide) kk_140 hz7 ?_
      refine mV_push f10_readDeed_78 ?_
      obtain ⟨z8, hz8, hr⟩ := mBind hr
      have keyz8 : mV X m10_readDeed 5 0 0 92 [.ref 119, mX0, mX0] [.int z8.1] NN KK z8.2 (PP s) Q := by
        have hr := Option.some.inj hr; subst hr
        exact mV_iret rfl rfl f10_readDeed_92 hQ
      clear hr
      have hr := hz8
      clear hz8
      refine mV_icmp_ne f10_readDeed_79 (fun h2 => ?_) (fun h2 => ?_)
      · rw [if_neg h2] at hr
        refine mV_aload f10_readDeed_86 rfl ?_
        refine mV_push f10_readDeed_87 ?_
        obtain ⟨z9, hz9, hr⟩ := mBind hr
        refine mV_cV f10_readDeed_89 tg_m10_readMark mCls10 (by decide) kk_119 (mC_deep (c10_readMark X z6 s 59 hz9) (by decide)) rfl rfl (Nat.le_of_ble_eq_true rfl) ?_
        have hr := Option.some.inj hr; subst hr
        refine mV_drop (L' := [.ref 119, mX0, mX0]) (mSub_k (mSub_x (mSub_x mSub_n))) ?_
        exact keyz8
      · rw [if_pos h2] at hr
        refine mV_push f10_readDeed_82 ?_
        refine mV_goto f10_readDeed_83 ?_
        have hr := Option.some.inj hr; subst hr
        refine mV_drop (L' := [.ref 119, mX0, mX0]) (mSub_k (mSub_x (mSub_x mSub_n))) ?_
        exact keyz8
    · rw [if_pos h1] at hr
      refine mV_aload f10_readDeed_38 rfl ?_
      refine mV_push f10_readDeed_39 ?_
      obtain ⟨z10, hz10, hr⟩ := mBind hr
      refine mV_cV f10_readDeed_40 tg_m10_errs mCls10 (by decide) kk_119 (mC_deep (c10_errs X z1 s 1 hz10) (by decide)) rfl rfl (Nat.le_of_ble_eq_true rfl) ?_
      have hr := Option.some.inj hr; subst hr
      exact mV_iret rfl rfl f10_readDeed_43 hQ
  · rw [if_pos h0] at hr
    refine mV_push f10_readDeed_26 ?_
    have hr := Option.some.inj hr; subst hr
    exact mV_iret rfl rfl f10_readDeed_27 hQ
theorem c10_readDeed (X : Nat × (Nat → Int32)) (I : mI) (s : Nat) (x0 : Int32) {res : Int32 × mI} (hr : r10_readDeed I x0 = some res) : mC X m10_readDeed 5 0 0 [.ref 119, .int x0] NN KK I (PP s) (mRet (some (.int res.1)) NN KK res.2 (PP s)) :=
  mC_of (L0 := [.ref 119, .int x0, mX0]) rfl (Nat.le_of_ble_eq_true rfl) (w10_readDeed X I s x0 _ hr (mRet_ok _ _ _ _ _))
def l10_readCare_2 : Nat → Int32 → mI → Option ((Int32 × mI) ⊕ (Int32 × mI))
  | 0, _, _ => none
  | f + 1, y1, I => if ((r10_isWord I 19) : Int32) = (0 : Int32) then some (.inr (y1, I)) else if (y1 : Int32) = (16 : Int32) then (r10_errs I 3).bind fun z1 => some (.inl (z1.1, z1.2)) else (r10_readDeed I (48 + (3 * y1))).bind fun z0 => if (z0.1 : Int32) = ((-1) : Int32) then some (.inl ((-1), z0.2)) else l10_readCare_2 f (y1 + 1) z0.2
def r10_readCare (I : mI) : Option (Int32 × mI) := (l10_readCare_2 FU 0 I).bind fun z0 => match z0 with | .inl rz0 => some rz0 | .inr wz0 => (if (wz0.2 119 18 : Int32) = (0 : Int32) then some (wz0.1, wz0.2) else (r10_errs wz0.2 1).bind fun z2 => some (z2.1, z2.2) : Option (Int32 × mI)).bind fun z1 => some (z1.1, z1.2)
set_option maxHeartbeats 4000000 in
set_option maxRecDepth 100000 in
theorem t10_readCare_2 (X : Nat × (Nat → Int32)) (Q : mQ) (s : Nat) : ∀ (f : Nat) (y1 : Int32) (I : mI) (z : (Int32 × mI) ⊕ (Int32 × mI)), l10_readCare_2 f y1 I = some z → (∀ res, z = .inl res → Q (some (.int res.1)) NN KK res.2 (PP s)) → (∀ w, z = .inr w → mV X m10_readCare 6 0 0 46 [.ref 119, .int w.1] [] NN KK w.2 (PP s) Q) → mV X m10_readCare 6 0 0 2 [.ref 119, .int y1] [] NN KK I (PP s) Q := by
  intro f
  induction f with
  | zero => intro y1 I z hr hret hk; cases hr
  | succ f ih =>
    intro y1 I z hr hret hk
    unfold l10_readCare_2 at hr
    refine mV_aload f10_readCare_2 rfl ?_
    refine mV_push f10_readCare_3 ?_
    refine mV_cV f10_readCare_5 tg_m10_isWord mCls10 (by decide) kk_119 (mC_deep (c10_isWord X I s 19 rfl) (by decide)) rfl rfl (Nat.le_of_ble_eq_true rfl) ?_
    refine mV_if_eq f10_readCare_8 (fun h0 => ?_) (fun h0 => ?_)
    · rw [if_pos h0] at hr
      have hr := Option.some.inj hr; subst hr
      exact hk _ rfl
    · rw [if_neg h0] at hr
      refine mV_iload f10_readCare_11 rfl ?_
      refine mV_push f10_readCare_12 ?_
      refine mV_icmp_ne f10_readCare_14 (fun h1 => ?_) (fun h1 => ?_)
      · rw [if_neg h1] at hr
        refine mV_aload f10_readCare_23 rfl ?_
        refine mV_push f10_readCare_24 ?_
        refine mV_push f10_readCare_26 ?_
        refine mV_iload f10_readCare_27 rfl ?_
        refine mV_imul f10_readCare_28 ?_
        refine mV_iadd f10_readCare_29 ?_
        obtain ⟨z0, hz0, hr⟩ := mBind hr
        refine mV_cV f10_readCare_30 tg_m10_readDeed mCls10 (by decide) kk_119 (mC_deep (c10_readDeed X I s (48 + (3 * y1)) hz0) (by decide)) rfl rfl (Nat.le_of_ble_eq_true rfl) ?_
        refine mV_push f10_readCare_33 ?_
        refine mV_icmp_ne f10_readCare_34 (fun h2 => ?_) (fun h2 => ?_)
        · rw [if_neg h2] at hr
          refine mV_iload f10_readCare_39 rfl ?_
          refine mV_push f10_readCare_40 ?_
          refine mV_iadd f10_readCare_41 ?_
          refine mV_istore (L' := [.ref 119, .int (y1 + 1)]) f10_readCare_42 (by decide) rfl rfl ?_
          refine mV_goto f10_readCare_43 ?_
          exact ih (y1 + 1) z0.2 _ hr hret hk
        · rw [if_pos h2] at hr
          refine mV_push f10_readCare_37 ?_
          have hr := Option.some.inj hr; subst hr; have hQ := hret _ rfl
          exact mV_iret rfl rfl f10_readCare_38 hQ
      · rw [if_pos h1] at hr
        refine mV_aload f10_readCare_17 rfl ?_
        refine mV_push f10_readCare_18 ?_
        obtain ⟨z1, hz1, hr⟩ := mBind hr
        refine mV_cV f10_readCare_19 tg_m10_errs mCls10 (by decide) kk_119 (mC_deep (c10_errs X I s 3 hz1) (by decide)) rfl rfl (Nat.le_of_ble_eq_true rfl) ?_
        have hr := Option.some.inj hr; subst hr; have hQ := hret _ rfl
        exact mV_iret rfl rfl f10_readCare_22 hQ
set_option maxHeartbeats 4000000 in
set_option maxRecDepth 100000 in
theorem w10_readCare (X : Nat × (Nat → Int32)) (I : mI) (s : Nat) (Q : mQ) {res : Int32 × mI} (hr : r10_readCare I = some res) (hQ : Q (some (.int res.1)) NN KK res.2 (PP s)) : mV X m10_readCare 6 0 0 0 [.ref 119, mX0] [] NN KK I (PP s) Q := by
  unfold r10_readCare at hr
  refine mV_push f10_readCare_0 ?_
  refine mV_istore (L' := [.ref 119, .int 0]) f10_readCare_1 (by decide) rfl rfl ?_
  obtain ⟨z0, hz0, hr⟩ := mBind hr
  refine t10_readCare_2 X Q s FU 0 I _ hz0 (fun res ez0 => ?_) (fun wz0 ez0 => ?_)
  · rw [ez0] at hr; have hr := Option.some.inj hr; subst hr; exact hQ
  rw [ez0] at hr
  dsimp only at hr
  refine mV_aload f10_readCare_46 rfl ?_
  refine mV_gI (wz0.2 119 18) f10_readCare_47 (by decide) kk_119 rfl rfl ?_
  obtain ⟨z1, hz1, hr⟩ := mBind hr
  have keyz1 : mV X m10_readCare 6 0 0 62 [.ref 119, mX0] [.int z1.1] NN KK z1.2 (PP s) Q := by
    have hr := Option.some.inj hr; subst hr
    exact mV_iret rfl rfl f10_readCare_62 hQ
  clear hr
  have hr := hz1
  clear hz1
  refine mV_if_ne f10_readCare_50 (fun h0 => ?_) (fun h0 => ?_)
  · rw [if_neg h0] at hr
    refine mV_aload f10_readCare_57 rfl ?_
    refine mV_push f10_readCare_58 ?_
    obtain ⟨z2, hz2, hr⟩ := mBind hr
    refine mV_cV f10_readCare_59 tg_m10_errs mCls10 (by decide) kk_119 (mC_deep (c10_errs X wz0.2 s 1 hz2) (by decide)) rfl rfl (Nat.le_of_ble_eq_true rfl) ?_
    have hr := Option.some.inj hr; subst hr
    refine mV_drop (L' := [.ref 119, mX0]) (mSub_k (mSub_x mSub_n)) ?_
    exact keyz1
  · rw [if_pos h0] at hr
    refine mV_iload f10_readCare_53 rfl ?_
    refine mV_goto f10_readCare_54 ?_
    have hr := Option.some.inj hr; subst hr
    refine mV_drop (L' := [.ref 119, mX0]) (mSub_k (mSub_x mSub_n)) ?_
    exact keyz1
theorem c10_readCare (X : Nat × (Nat → Int32)) (I : mI) (s : Nat) {res : Int32 × mI} (hr : r10_readCare I = some res) : mC X m10_readCare 6 0 0 [.ref 119] NN KK I (PP s) (mRet (some (.int res.1)) NN KK res.2 (PP s)) :=
  mC_of (L0 := [.ref 119, mX0]) rfl (Nat.le_of_ble_eq_true rfl) (w10_readCare X I s _ hr (mRet_ok _ _ _ _ _))
def r10_readLike (I : mI) : Option (Int32 × mI) := (r10_readTold I 21 0 (I 119 6 - 1)).bind fun z0 => if (z0.1 : Int32) = ((-1) : Int32) then some ((-1), z0.2) else if ((r10_isWord z0.2 26) : Int32) = (0 : Int32) then (r10_errs z0.2 1).bind fun z15 => some (z15.1, z15.2) else (r10_reads z0.2).bind fun z1 => if (z1 119 18 : Int32) = (3 : Int32) then if (z1 119 19 : Int32) = (z0.1 : Int32) then (r10_errs z1 2).bind fun z14 => some (z14.1, z14.2) else (r10_readNumber z1 0 (z1 119 6 - 1)).bind fun z8 => if (z8.1 : Int32) = ((-1) : Int32) then some ((-1), z8.2) else (mLd z8.2 141 24 (12 + z0.1)).bind fun z9 => (mSto z8.2 141 24 (12 + z0.1) (z9 ||| (1 <<< (z8.1 &&& 31)))).bind fun z10 => (mLd z10 141 24 (12 + z8.1)).bind fun z11 => (mSto z10 141 24 (12 + z8.1) (z11 ||| (1 <<< (z0.1 &&& 31)))).bind fun z12 => (r10_readMark z12 59).bind fun z13 => some (z13.1, z13.2) else (r10_readNumber z1 0 (z1 119 6 - 1)).bind fun z2 => if (z2.1 : Int32) = ((-1) : Int32) then some ((-1), z2.2) else (mLd z2.2 141 24 (12 + z0.1)).bind fun z3 => (mSto z2.2 141 24 (12 + z0.1) (z3 ||| (1 <<< (z2.1 &&& 31)))).bind fun z4 => (mLd z4 141 24 (12 + z2.1)).bind fun z5 => (mSto z4 141 24 (12 + z2.1) (z5 ||| (1 <<< (z0.1 &&& 31)))).bind fun z6 => (r10_readMark z6 59).bind fun z7 => some (z7.1, z7.2)
set_option maxHeartbeats 4000000 in
set_option maxRecDepth 100000 in
theorem w10_readLike (X : Nat × (Nat → Int32)) (I : mI) (s : Nat) (Q : mQ) {res : Int32 × mI} (hr : r10_readLike I = some res) (hQ : Q (some (.int res.1)) NN KK res.2 (PP s)) : mV X m10_readLike 5 0 0 0 [.ref 119, mX0, mX0] [] NN KK I (PP s) Q := by
  unfold r10_readLike at hr
  refine mV_aload f10_readLike_0 rfl ?_
  refine mV_push f10_readLike_1 ?_
  refine mV_push f10_readLike_3 ?_
  refine mV_aload f10_readLike_4 rfl ?_
  refine mV_gI (I 119 6) f10_readLike_5 (by decide) kk_119 rfl rfl ?_
  refine mV_push f10_readLike_8 ?_
  refine mV_isub f10_readLike_9 ?_
  obtain ⟨z0, hz0, hr⟩ := mBind hr
  refine mV_cV f10_readLike_10 tg_m10_readTold mCls10 (by decide) kk_119 (mC_deep (c10_readTold X I s 21 0 (I 119 6 - 1) hz0) (by decide)) rfl rfl (Nat.le_of_ble_eq_true rfl) ?_
  refine mV_istore (L' := [.ref 119, .int z0.1, mX0]) f10_readLike_13 (by decide) rfl rfl ?_
  refine mV_iload f10_readLike_14 rfl ?_
  refine mV_push f10_readLike_15 ?_
  refine mV_icmp_ne f10_readLike_16 (fun h0 => ?_) (fun h0 => ?_)
  · rw [if_neg h0] at hr
    refine mV_aload f10_readLike_21 rfl ?_
    refine mV_push f10_readLike_22 ?_
    refine mV_cV f10_readLike_24 tg_m10_isWord mCls10 (by decide) kk_119 (mC_deep (c10_isWord X z0.2 s 26 rfl) (by decide)) rfl rfl (Nat.le_of_ble_eq_true rfl) ?_
    refine mV_if_ne f10_readLike_27 (fun h1 => ?_) (fun h1 => ?_)
    · rw [if_neg h1] at hr
      refine mV_aload f10_readLike_36 rfl ?_
      obtain ⟨z1, hz1, hr⟩ := mBind hr
      refine mV_cV f10_readLike_37 tg_m10_reads mCls10 (by decide) kk_119 (mC_deep (c10_reads X z0.2 s hz1) (by decide)) rfl rfl (Nat.le_of_ble_eq_true rfl) ?_
      refine mV_aload f10_readLike_40 rfl ?_
      refine mV_gI (z1 119 18) f10_readLike_41 (by decide) kk_119 rfl rfl ?_
      refine mV_push f10_readLike_44 ?_
      refine mV_icmp_ne f10_readLike_45 (fun h2 => ?_) (fun h2 => ?_)
      · rw [if_neg h2] at hr
        refine mV_aload f10_readLike_62 rfl ?_
        refine mV_push f10_readLike_63 ?_
        refine mV_aload f10_readLike_64 rfl ?_
        refine mV_gI (z1 119 6) f10_readLike_65 (by decide) kk_119 rfl rfl ?_
        refine mV_push f10_readLike_68 ?_
        refine mV_isub f10_readLike_69 ?_
        obtain ⟨z2, hz2, hr⟩ := mBind hr
        refine mV_cV f10_readLike_70 tg_m10_readNumber mCls10 (by decide) kk_119 (mC_deep (c10_readNumber X z1 s 0 (z1 119 6 - 1) hz2) (by decide)) rfl rfl (Nat.le_of_ble_eq_true rfl) ?_
        refine mV_istore (L' := [.ref 119, .int z0.1, .int z2.1]) f10_readLike_73 (by decide) rfl rfl ?_
        refine mV_iload f10_readLike_74 rfl ?_
        refine mV_push f10_readLike_75 ?_
        refine mV_icmp_ne f10_readLike_76 (fun h3 => ?_) (fun h3 => ?_)
        · rw [if_neg h3] at hr
          refine mV_aload f10_readLike_81 rfl ?_
          refine mV_getP f10_readLike_82 (by decide) kk_119 rfl (pp_119_42 _) ?_
          refine mV_push f10_readLike_85 ?_
          refine mV_iload f10_readLike_87 rfl ?_
          refine mV_iadd f10_readLike_88 ?_
          refine mV_aload f10_readLike_89 rfl ?_
          refine mV_getP f10_readLike_90 (by decide) kk_119 rfl (pp_119_42 _) ?_
          refine mV_push f10_readLike_93 ?_
          refine mV_iload f10_readLike_95 rfl ?_
          refine mV_iadd f10_readLike_96 ?_
          obtain ⟨z3, hz3, hr⟩ := mBind hr
          refine mV_ldO f10_readLike_97 (by decide) kk_141 hz3 ?_
          refine mV_push f10_readLike_98 ?_
          refine mV_iload f10_readLike_99 rfl ?_
          refine mV_ishl f10_readLike_100 ?_
          refine mV_ior f10_readLike_101 ?_
          obtain ⟨z4, hz4, hr⟩ := mBind hr
          refine mV_stO f10_readLike_102 (by decide) kk_141 hz4 ?_
          refine mV_aload f10_readLike_103 rfl ?_
          refine mV_getP f10_readLike_104 (by decide) kk_119 rfl (pp_119_42 _) ?_
          refine mV_push f10_readLike_107 ?_
          refine mV_iload f10_readLike_109 rfl ?_
          refine mV_iadd f10_readLike_110 ?_
          refine mV_aload f10_readLike_111 rfl ?_
          refine mV_getP f10_readLike_112 (by decide) kk_119 rfl (pp_119_42 _) ?_
          refine mV_push f10_readLike_115 ?_
          refine mV_iload f10_readLike_117 rfl ?_
          refine mV_iadd f10_readLike_118 ?_
          obtain ⟨z5, hz5, hr⟩ := mBind hr
          refine mV_ldO f10_readLike_119 (by decide) kk_141 hz5 ?_
          refine mV_push f10_readLike_120 ?_
          refine mV_iload f10_readLike_121 rfl ?_
          refine mV_ishl f10_readLike_122 ?_
          refine mV_ior f10_readLike_123 ?_
          obtain ⟨z6, hz6, hr⟩ := mBind hr
          refine mV_stO f10_readLike_124 (by decide) kk_141 hz6 ?_
          refine mV_aload f10_readLike_125 rfl ?_
          refine mV_push f10_readLike_126 ?_
          obtain ⟨z7, hz7, hr⟩ := mBind hr
          refine mV_cV f10_readLike_128 tg_m10_readMark mCls10 (by decide) kk_119 (mC_deep (c10_readMark X z6 s 59 hz7) (by decide)) rfl rfl (Nat.le_of_ble_eq_true rfl) ?_
          have hr := Option.some.inj hr; subst hr
          exact mV_iret rfl rfl f10_readLike_131 hQ
        · rw [if_pos h3] at hr
          refine mV_push f10_readLike_79 ?_
          have hr := Option.some.inj hr; subst hr
          exact mV_iret rfl rfl f10_readLike_80 hQ
      · rw [if_pos h2] at hr
        refine mV_aload f10_readLike_48 rfl ?_
        refine mV_gI (z1 119 19) f10_readLike_49 (by decide) kk_119 rfl rfl ?_
        refine mV_iload f10_readLike_52 rfl ?_
        refine mV_icmp_ne f10_readLike_53 (fun h4 => ?_) (fun h4 => ?_)
        · rw [if_neg h4] at hr
          refine mV_aload f10_readLike_62 rfl ?_
          refine mV_push f10_readLike_63 ?_
          refine mV_aload f10_readLike_64 rfl ?_
          refine mV_gI (z1 119 6) f10_readLike_65 (by decide) kk_119 rfl rfl ?_
          refine mV_push f10_readLike_68 ?_
          refine mV_isub f10_readLike_69 ?_
          obtain ⟨z8, hz8, hr⟩ := mBind hr
          refine mV_cV f10_readLike_70 tg_m10_readNumber mCls10 (by decide) kk_119 (mC_deep (c10_readNumber X z1 s 0 (z1 119 6 - 1) hz8) (by decide)) rfl rfl (Nat.le_of_ble_eq_true rfl) ?_
          refine mV_istore (L' := [.ref 119, .int z0.1, .int z8.1]) f10_readLike_73 (by decide) rfl rfl ?_
          refine mV_iload f10_readLike_74 rfl ?_
          refine mV_push f10_readLike_75 ?_
          refine mV_icmp_ne f10_readLike_76 (fun h5 => ?_) (fun h5 => ?_)
          · rw [if_neg h5] at hr
            refine mV_aload f10_readLike_81 rfl ?_
            refine mV_getP f10_readLike_82 (by decide) kk_119 rfl (pp_119_42 _) ?_
            refine mV_push f10_readLike_85 ?_
            refine mV_iload f10_readLike_87 rfl ?_
            refine mV_iadd f10_readLike_88 ?_
            refine mV_aload f10_readLike_89 rfl ?_
            refine mV_getP f10_readLike_90 (by decide) kk_119 rfl (pp_119_42 _) ?_
            refine mV_push f10_readLike_93 ?_
            refine mV_iload f10_readLike_95 rfl ?_
            refine mV_iadd f10_readLike_96 ?_
            obtain ⟨z9, hz9, hr⟩ := mBind hr
            refine mV_ldO f10_readLike_97 (by decide) kk_141 hz9 ?_
            refine mV_push f10_readLike_98 ?_
            refine mV_iload f10_readLike_99 rfl ?_
            refine mV_ishl f10_readLike_100 ?_
            refine mV_ior f10_readLike_101 ?_
            obtain ⟨z10, hz10, hr⟩ := mBind hr
            refine mV_stO f10_readLike_102 (by decide) kk_141 hz10 ?_
            refine mV_aload f10_readLike_103 rfl ?_
            refine mV_getP f10_readLike_104 (by decide) kk_119 rfl (pp_119_42 _) ?_
            refine mV_push f10_readLike_107 ?_
            refine mV_iload f10_readLike_109 rfl ?_
            refine mV_iadd f10_readLike_110 ?_
            refine mV_aload f10_readLike_111 rfl ?_
            refine mV_getP f10_readLike_112 (by decide) kk_119 rfl (pp_119_42 _) ?_
            refine mV_push f10_readLike_115 ?_
            refine mV_iload f10_readLike_117 rfl ?_
            refine mV_iadd f10_readLike_118 ?_
            obtain ⟨z11, hz11, hr⟩ := mBind hr
            refine mV_ldO f10_readLike_119 (by decide) kk_141 hz11 ?_
            refine mV_push f10_readLike_120 ?_
            refine mV_iload f10_readLike_121 rfl ?_
            refine mV_ishl f10_readLike_122 ?_
            refine mV_ior f10_readLike_123 ?_
            obtain ⟨z12, hz12, hr⟩ := mBind hr
            refine mV_stO f10_readLike_124 (by decide) kk_141 hz12 ?_
            refine mV_aload f10_readLike_125 rfl ?_
            refine mV_push f10_readLike_126 ?_
            obtain ⟨z13, hz13, hr⟩ := mBind hr
            refine mV_cV f10_readLike_128 tg_m10_readMark mCls10 (by decide) kk_119 (mC_deep (c10_readMark X z12 s 59 hz13) (by decide)) rfl rfl (Nat.le_of_ble_eq_true rfl) ?_
            have hr := Option.some.inj hr; subst hr
            exact mV_iret rfl rfl f10_readLike_131 hQ
          · rw [if_pos h5] at hr
            refine mV_push f10_readLike_79 ?_
            have hr := Option.some.inj hr; subst hr
            exact mV_iret rfl rfl f10_readLike_80 hQ
        · rw [if_pos h4] at hr
          refine mV_aload f10_readLike_56 rfl ?_
          refine mV_push f10_readLike_57 ?_
          obtain ⟨z14, hz14, hr⟩ := mBind hr
          refine mV_cV f10_readLike_58 tg_m10_errs mCls10 (by decide) kk_119 (mC_deep (c10_errs X z1 s 2 hz14) (by decide)) rfl rfl (Nat.le_of_ble_eq_true rfl) ?_
          have hr := Option.some.inj hr; subst hr
          exact mV_iret rfl rfl f10_readLike_61 hQ
    · rw [if_pos h1] at hr
      refine mV_aload f10_readLike_30 rfl ?_
      refine mV_push f10_readLike_31 ?_
      obtain ⟨z15, hz15, hr⟩ := mBind hr
      refine mV_cV f10_readLike_32 tg_m10_errs mCls10 (by decide) kk_119 (mC_deep (c10_errs X z0.2 s 1 hz15) (by decide)) rfl rfl (Nat.le_of_ble_eq_true rfl) ?_
      have hr := Option.some.inj hr; subst hr
      exact mV_iret rfl rfl f10_readLike_35 hQ
  · rw [if_pos h0] at hr
    refine mV_push f10_readLike_19 ?_
    have hr := Option.some.inj hr; subst hr
    exact mV_iret rfl rfl f10_readLike_20 hQ
theorem c10_readLike (X : Nat × (Nat → Int32)) (I : mI) (s : Nat) {res : Int32 × mI} (hr : r10_readLike I = some res) : mC X m10_readLike 5 0 0 [.ref 119] NN KK I (PP s) (mRet (some (.int res.1)) NN KK res.2 (PP s)) :=
  mC_of (L0 := [.ref 119, mX0, mX0]) rfl (Nat.le_of_ble_eq_true rfl) (w10_readLike X I s _ hr (mRet_ok _ _ _ _ _))
def l10_readLikeness_2 : Nat → Int32 → mI → Option (mI)
  | 0, _, _ => none
  | f + 1, y1, I => if (12 : Int32) ≤ (y1 : Int32) then some I else (mSto I 141 24 (12 + y1) 0).bind fun z0 => l10_readLikeness_2 f (y1 + 1) z0
def l10_readLikeness_26 : Nat → Int32 → mI → Option ((Int32 × mI) ⊕ (Int32 × mI))
  | 0, _, _ => none
  | f + 1, y1, I => if ((r10_isWord I 21) : Int32) = (0 : Int32) then some (.inr (y1, I)) else if (y1 : Int32) = (16 : Int32) then (r10_errs I 3).bind fun z1 => some (.inl (z1.1, z1.2)) else (r10_readLike I).bind fun z0 => if (z0.1 : Int32) = ((-1) : Int32) then some (.inl ((-1), z0.2)) else l10_readLikeness_26 f (y1 + 1) z0.2
def r10_readLikeness (I : mI) : Option (Int32 × mI) := (l10_readLikeness_2 FU 0 I).bind fun z0 => (l10_readLikeness_26 FU 0 z0).bind fun z1 => match z1 with | .inl rz1 => some rz1 | .inr wz1 => (if (wz1.2 119 18 : Int32) = (0 : Int32) then some (wz1.1, wz1.2) else (r10_errs wz1.2 1).bind fun z3 => some (z3.1, z3.2) : Option (Int32 × mI)).bind fun z2 => some (z2.1, z2.2)
set_option maxHeartbeats 4000000 in
set_option maxRecDepth 100000 in
theorem t10_readLikeness_2 (X : Nat × (Nat → Int32)) (Q : mQ) (s : Nat) : ∀ (f : Nat) (y1 : Int32) (I : mI) (z : mI), l10_readLikeness_2 f y1 I = some z → mV X m10_readLikeness 6 0 0 24 [.ref 119, mX0] [] NN KK z (PP s) Q → mV X m10_readLikeness 6 0 0 2 [.ref 119, .int y1] [] NN KK I (PP s) Q := by
  intro f
  induction f with
  | zero => intro y1 I z hr hk; cases hr
  | succ f ih =>
    intro y1 I z hr hk
    unfold l10_readLikeness_2 at hr
    refine mV_iload f10_readLikeness_2 rfl ?_
    refine mV_push f10_readLikeness_3 ?_
    refine mV_icmp_ge f10_readLikeness_5 (fun h0 => ?_) (fun h0 => ?_)
    · rw [if_pos h0] at hr
      have hr := Option.some.inj hr; subst hr
      refine mV_drop (L' := [.ref 119, mX0]) (mSub_k (mSub_x mSub_n)) ?_
      exact hk
    · rw [if_neg h0] at hr
      refine mV_aload f10_readLikeness_8 rfl ?_
      refine mV_getP f10_readLikeness_9 (by decide) kk_119 rfl (pp_119_42 _) ?_
      refine mV_push f10_readLikeness_12 ?_
      refine mV_iload f10_readLikeness_14 rfl ?_
      refine mV_iadd f10_readLikeness_15 ?_
      refine mV_push f10_readLikeness_16 ?_
      obtain ⟨z0, hz0, hr⟩ := mBind hr
      refine mV_stO f10_readLikeness_17 (by decide) kk_141 hz0 ?_
      refine mV_iinc (y := (y1 + 1)) (L' := [.ref 119, .int (y1 + 1)]) f10_readLikeness_18 rfl rfl (by decide) rfl rfl ?_
      refine mV_goto f10_readLikeness_21 ?_
      exact ih (y1 + 1) z0 _ hr hk
set_option maxHeartbeats 4000000 in
set_option maxRecDepth 100000 in
theorem t10_readLikeness_26 (X : Nat × (Nat → Int32)) (Q : mQ) (s : Nat) : ∀ (f : Nat) (y1 : Int32) (I : mI) (z : (Int32 × mI) ⊕ (Int32 × mI)), l10_readLikeness_26 f y1 I = some z → (∀ res, z = .inl res → Q (some (.int res.1)) NN KK res.2 (PP s)) → (∀ w, z = .inr w → mV X m10_readLikeness 6 0 0 64 [.ref 119, .int w.1] [] NN KK w.2 (PP s) Q) → mV X m10_readLikeness 6 0 0 26 [.ref 119, .int y1] [] NN KK I (PP s) Q := by
  intro f
  induction f with
  | zero => intro y1 I z hr hret hk; cases hr
  | succ f ih =>
    intro y1 I z hr hret hk
    unfold l10_readLikeness_26 at hr
    refine mV_aload f10_readLikeness_26 rfl ?_
    refine mV_push f10_readLikeness_27 ?_
    refine mV_cV f10_readLikeness_29 tg_m10_isWord mCls10 (by decide) kk_119 (mC_deep (c10_isWord X I s 21 rfl) (by decide)) rfl rfl (Nat.le_of_ble_eq_true rfl) ?_
    refine mV_if_eq f10_readLikeness_32 (fun h0 => ?_) (fun h0 => ?_)
    · rw [if_pos h0] at hr
      have hr := Option.some.inj hr; subst hr
      exact hk _ rfl
    · rw [if_neg h0] at hr
      refine mV_iload f10_readLikeness_35 rfl ?_
      refine mV_push f10_readLikeness_36 ?_
      refine mV_icmp_ne f10_readLikeness_38 (fun h1 => ?_) (fun h1 => ?_)
      · rw [if_neg h1] at hr
        refine mV_aload f10_readLikeness_47 rfl ?_
        obtain ⟨z0, hz0, hr⟩ := mBind hr
        refine mV_cV f10_readLikeness_48 tg_m10_readLike mCls10 (by decide) kk_119 (mC_deep (c10_readLike X I s hz0) (by decide)) rfl rfl (Nat.le_of_ble_eq_true rfl) ?_
        refine mV_push f10_readLikeness_51 ?_
        refine mV_icmp_ne f10_readLikeness_52 (fun h2 => ?_) (fun h2 => ?_)
        · rw [if_neg h2] at hr
          refine mV_iload f10_readLikeness_57 rfl ?_
          refine mV_push f10_readLikeness_58 ?_
          refine mV_iadd f10_readLikeness_59 ?_
          refine mV_istore (L' := [.ref 119, .int (y1 + 1)]) f10_readLikeness_60 (by decide) rfl rfl ?_
          refine mV_goto f10_readLikeness_61 ?_
          exact ih (y1 + 1) z0.2 _ hr hret hk
        · rw [if_pos h2] at hr
          refine mV_push f10_readLikeness_55 ?_
          have hr := Option.some.inj hr; subst hr; have hQ := hret _ rfl
          exact mV_iret rfl rfl f10_readLikeness_56 hQ
      · rw [if_pos h1] at hr
        refine mV_aload f10_readLikeness_41 rfl ?_
        refine mV_push f10_readLikeness_42 ?_
        obtain ⟨z1, hz1, hr⟩ := mBind hr
        refine mV_cV f10_readLikeness_43 tg_m10_errs mCls10 (by decide) kk_119 (mC_deep (c10_errs X I s 3 hz1) (by decide)) rfl rfl (Nat.le_of_ble_eq_true rfl) ?_
        have hr := Option.some.inj hr; subst hr; have hQ := hret _ rfl
        exact mV_iret rfl rfl f10_readLikeness_46 hQ
set_option maxHeartbeats 4000000 in
set_option maxRecDepth 100000 in
theorem w10_readLikeness (X : Nat × (Nat → Int32)) (I : mI) (s : Nat) (Q : mQ) {res : Int32 × mI} (hr : r10_readLikeness I = some res) (hQ : Q (some (.int res.1)) NN KK res.2 (PP s)) : mV X m10_readLikeness 6 0 0 0 [.ref 119, mX0] [] NN KK I (PP s) Q := by
  unfold r10_readLikeness at hr
  refine mV_push f10_readLikeness_0 ?_
  refine mV_istore (L' := [.ref 119, .int 0]) f10_readLikeness_1 (by decide) rfl rfl ?_
  obtain ⟨z0, hz0, hr⟩ := mBind hr
  refine t10_readLikeness_2 X Q s FU 0 I _ hz0 ?_
  refine mV_push f10_readLikeness_24 ?_
  refine mV_istore (L' := [.ref 119, .int 0]) f10_readLikeness_25 (by decide) rfl rfl ?_
  obtain ⟨z1, hz1, hr⟩ := mBind hr
  refine t10_readLikeness_26 X Q s FU 0 z0 _ hz1 (fun res ez1 => ?_) (fun wz1 ez1 => ?_)
  · rw [ez1] at hr; have hr := Option.some.inj hr; subst hr; exact hQ
  rw [ez1] at hr
  dsimp only at hr
  refine mV_aload f10_readLikeness_64 rfl ?_
  refine mV_gI (wz1.2 119 18) f10_readLikeness_65 (by decide) kk_119 rfl rfl ?_
  obtain ⟨z2, hz2, hr⟩ := mBind hr
  have keyz2 : mV X m10_readLikeness 6 0 0 80 [.ref 119, mX0] [.int z2.1] NN KK z2.2 (PP s) Q := by
    have hr := Option.some.inj hr; subst hr
    exact mV_iret rfl rfl f10_readLikeness_80 hQ
  clear hr
  have hr := hz2
  clear hz2
  refine mV_if_ne f10_readLikeness_68 (fun h0 => ?_) (fun h0 => ?_)
  · rw [if_neg h0] at hr
    refine mV_aload f10_readLikeness_75 rfl ?_
    refine mV_push f10_readLikeness_76 ?_
    obtain ⟨z3, hz3, hr⟩ := mBind hr
    refine mV_cV f10_readLikeness_77 tg_m10_errs mCls10 (by decide) kk_119 (mC_deep (c10_errs X wz1.2 s 1 hz3) (by decide)) rfl rfl (Nat.le_of_ble_eq_true rfl) ?_
    have hr := Option.some.inj hr; subst hr
    refine mV_drop (L' := [.ref 119, mX0]) (mSub_k (mSub_x mSub_n)) ?_
    exact keyz2
  · rw [if_pos h0] at hr
    refine mV_iload f10_readLikeness_71 rfl ?_
    refine mV_goto f10_readLikeness_72 ?_
    have hr := Option.some.inj hr; subst hr
    refine mV_drop (L' := [.ref 119, mX0]) (mSub_k (mSub_x mSub_n)) ?_
    exact keyz2
theorem c10_readLikeness (X : Nat × (Nat → Int32)) (I : mI) (s : Nat) {res : Int32 × mI} (hr : r10_readLikeness I = some res) : mC X m10_readLikeness 6 0 0 [.ref 119] NN KK I (PP s) (mRet (some (.int res.1)) NN KK res.2 (PP s)) :=
  mC_of (L0 := [.ref 119, mX0]) rfl (Nat.le_of_ble_eq_true rfl) (w10_readLikeness X I s _ hr (mRet_ok _ _ _ _ _))
def r10_readsText (I : mI) (x0 : Int32) : Option (Int32 × mI) := (r10_reads (mW I 119 28 0)).bind fun z0 => if (x0 : Int32) = (1 : Int32) then (r10_readProgramme z0).bind fun z5 => some (z5.1, z5.2) else if (x0 : Int32) = (2 : Int32) then (r10_readCare z0).bind fun z4 => some (z4.1, z4.2) else (if (x0 : Int32) = (3 : Int32) then (r10_readLikeness z0).bind fun z3 => some (z3.1, z3.2) else (r10_readLaw z0).bind fun z2 => some (z2.1, z2.2) : Option (Int32 × mI)).bind fun z1 => some (z1.1, z1.2)
set_option maxHeartbeats 4000000 in
set_option maxRecDepth 100000 in
theorem w10_readsText (X : Nat × (Nat → Int32)) (I : mI) (s : Nat) (x0 : Int32) (Q : mQ) {res : Int32 × mI} (hr : r10_readsText I x0 = some res) (hQ : Q (some (.int res.1)) NN KK res.2 (PP s)) : mV X m10_readsText 9 0 0 0 [.ref 119, .int x0] [] NN KK I (PP s) Q := by
  unfold r10_readsText at hr
  refine mV_aload f10_readsText_0 rfl ?_
  refine mV_push f10_readsText_1 ?_
  refine mV_putI f10_readsText_2 (by decide) kk_119 rfl rfl ?_
  refine mV_aload f10_readsText_5 rfl ?_
  obtain ⟨z0, hz0, hr⟩ := mBind hr
  refine mV_cV f10_readsText_6 tg_m10_reads mCls10 (by decide) kk_119 (mC_deep (c10_reads X (mW I 119 28 0) s hz0) (by decide)) rfl rfl (Nat.le_of_ble_eq_true rfl) ?_
  refine mV_iload f10_readsText_9 rfl ?_
  refine mV_push f10_readsText_10 ?_
  refine mV_icmp_ne f10_readsText_11 (fun h0 => ?_) (fun h0 => ?_)
  · rw [if_neg h0] at hr
    refine mV_iload f10_readsText_19 rfl ?_
    refine mV_push f10_readsText_20 ?_
    refine mV_icmp_ne f10_readsText_21 (fun h1 => ?_) (fun h1 => ?_)
    · rw [if_neg h1] at hr
      refine mV_iload f10_readsText_29 rfl ?_
      refine mV_push f10_readsText_30 ?_
      obtain ⟨z1, hz1, hr⟩ := mBind hr
      have keyz1 : mV X m10_readsText 9 0 0 45 [.ref 119, mX0] [.int z1.1] NN KK z1.2 (PP s) Q := by
        have hr := Option.some.inj hr; subst hr
        exact mV_iret rfl rfl f10_readsText_45 hQ
      clear hr
      have hr := hz1
      clear hz1
      refine mV_icmp_ne f10_readsText_31 (fun h2 => ?_) (fun h2 => ?_)
      · rw [if_neg h2] at hr
        refine mV_aload f10_readsText_41 rfl ?_
        obtain ⟨z2, hz2, hr⟩ := mBind hr
        refine mV_cV f10_readsText_42 tg_m10_readLaw mCls10 (by decide) kk_119 (mC_deep (c10_readLaw X z0 s hz2) (by decide)) rfl rfl (Nat.le_of_ble_eq_true rfl) ?_
        have hr := Option.some.inj hr; subst hr
        refine mV_drop (L' := [.ref 119, mX0]) (mSub_k (mSub_x mSub_n)) ?_
        exact keyz1
      · rw [if_pos h2] at hr
        refine mV_aload f10_readsText_34 rfl ?_
        obtain ⟨z3, hz3, hr⟩ := mBind hr
        refine mV_cV f10_readsText_35 tg_m10_readLikeness mCls10 (by decide) kk_119 (mC_deep (c10_readLikeness X z0 s hz3) (by decide)) rfl rfl (Nat.le_of_ble_eq_true rfl) ?_
        refine mV_goto f10_readsText_38 ?_
        have hr := Option.some.inj hr; subst hr
        refine mV_drop (L' := [.ref 119, mX0]) (mSub_k (mSub_x mSub_n)) ?_
        exact keyz1
    · rw [if_pos h1] at hr
      refine mV_aload f10_readsText_24 rfl ?_
      obtain ⟨z4, hz4, hr⟩ := mBind hr
      refine mV_cV f10_readsText_25 tg_m10_readCare mCls10 (by decide) kk_119 (mC_deep (c10_readCare X z0 s hz4) (by decide)) rfl rfl (Nat.le_of_ble_eq_true rfl) ?_
      have hr := Option.some.inj hr; subst hr
      exact mV_iret rfl rfl f10_readsText_28 hQ
  · rw [if_pos h0] at hr
    refine mV_aload f10_readsText_14 rfl ?_
    obtain ⟨z5, hz5, hr⟩ := mBind hr
    refine mV_cV f10_readsText_15 tg_m10_readProgramme mCls10 (by decide) kk_119 (mC_deep (c10_readProgramme X z0 s hz5) (by decide)) rfl rfl (Nat.le_of_ble_eq_true rfl) ?_
    have hr := Option.some.inj hr; subst hr
    exact mV_iret rfl rfl f10_readsText_18 hQ
theorem c10_readsText (X : Nat × (Nat → Int32)) (I : mI) (s : Nat) (x0 : Int32) {res : Int32 × mI} (hr : r10_readsText I x0 = some res) : mC X m10_readsText 9 0 0 [.ref 119, .int x0] NN KK I (PP s) (mRet (some (.int res.1)) NN KK res.2 (PP s)) :=
  mC_of (L0 := [.ref 119, .int x0]) rfl (Nat.le_of_ble_eq_true rfl) (w10_readsText X I s x0 _ hr (mRet_ok _ _ _ _ _))
def l10_takesOther_87 (k2 : Int32) : Nat → Int32 → mI → Option (mI)
  | 0, _, _ => none
  | f + 1, y3, I => if ((3 * k2) : Int32) ≤ (y3 : Int32) then some I else (mLd I 140 96 (48 + y3)).bind fun z0 => (mSto I 140 96 y3 z0).bind fun z1 => l10_takesOther_87 k2 f (y3 + 1) z1
def l10_takesOther_47 (k2 : Int32) : Nat → Int32 → mI → Option (mI)
  | 0, _, _ => none
  | f + 1, y3, I => if ((9 * k2) : Int32) ≤ (y3 : Int32) then some I else (mLd I 139 288 (144 + y3)).bind fun z0 => (mSto I 139 288 y3 z0).bind fun z1 => l10_takesOther_47 k2 f (y3 + 1) z1
def l10_takesOther_7 : Nat → Int32 → mI → Option (mI)
  | 0, _, _ => none
  | f + 1, y3, I => if (12 : Int32) ≤ (y3 : Int32) then some I else (mLd I 141 24 (12 + y3)).bind fun z0 => (mSto I 141 24 y3 z0).bind fun z1 => l10_takesOther_7 f (y3 + 1) z1
def r10_takesOther (I : mI) (x0 : Int32) (x1 : Int32) : Option (mI) := if (x0 : Int32) = (3 : Int32) then (l10_takesOther_7 FU 0 I).bind fun z3 => some (mW z3 119 41 x1) else (if (x0 : Int32) = (1 : Int32) then (l10_takesOther_47 x1 FU 0 I).bind fun z2 => some (mW z2 119 37 x1) else (l10_takesOther_87 x1 FU 0 I).bind fun z1 => some (mW z1 119 39 x1) : Option (mI)).bind fun z0 => some (mW z0 119 3 0)
set_option maxHeartbeats 4000000 in
set_option maxRecDepth 100000 in
theorem t10_takesOther_87 (X : Nat × (Nat → Int32)) (Q : mQ) (s : Nat) (k2 : Int32) : ∀ (f : Nat) (y3 : Int32) (I : mI) (z : mI), l10_takesOther_87 k2 f y3 I = some z → mV X m10_takesOther 0 0 0 115 [.ref 119, mX0, .int k2, mX0] [] NN KK z (PP s) Q → mV X m10_takesOther 0 0 0 87 [.ref 119, mX0, .int k2, .int y3] [] NN KK I (PP s) Q := by
  intro f
  induction f with
  | zero => intro y3 I z hr hk; cases hr
  | succ f ih =>
    intro y3 I z hr hk
    unfold l10_takesOther_87 at hr
    refine mV_iload f10_takesOther_87 rfl ?_
    refine mV_push f10_takesOther_88 ?_
    refine mV_iload f10_takesOther_89 rfl ?_
    refine mV_imul f10_takesOther_90 ?_
    refine mV_icmp_ge f10_takesOther_91 (fun h0 => ?_) (fun h0 => ?_)
    · rw [if_pos h0] at hr
      have hr := Option.some.inj hr; subst hr
      refine mV_drop (L' := [.ref 119, mX0, .int k2, mX0]) (mSub_k (mSub_x (mSub_k (mSub_x mSub_n)))) ?_
      exact hk
    · rw [if_neg h0] at hr
      refine mV_aload f10_takesOther_94 rfl ?_
      refine mV_getP f10_takesOther_95 (by decide) kk_119 rfl (pp_119_40 _) ?_
      refine mV_iload f10_takesOther_98 rfl ?_
      refine mV_aload f10_takesOther_99 rfl ?_
      refine mV_getP f10_takesOther_100 (by decide) kk_119 rfl (pp_119_40 _) ?_
      refine mV_push f10_takesOther_103 ?_
      refine mV_iload f10_takesOther_105 rfl ?_
      refine mV_iadd f10_takesOther_106 ?_
      obtain ⟨z0, hz0, hr⟩ := mBind hr
      refine mV_ldO f10_takesOther_107 (by decide) kk_140 hz0 ?_
      obtain ⟨z1, hz1, hr⟩ := mBind hr
      refine mV_stO f10_takesOther_108 (by decide) kk_140 hz1 ?_
      refine mV_iinc (y := (y3 + 1)) (L' := [.ref 119, mX0, .int k2, .int (y3 + 1)]) f10_takesOther_109 rfl rfl (by decide) rfl rfl ?_
      refine mV_goto f10_takesOther_112 ?_
      exact ih (y3 + 1) z1 _ hr hk
set_option maxHeartbeats 4000000 in
set_option maxRecDepth 100000 in
theorem t10_takesOther_47 (X : Nat × (Nat → Int32)) (Q : mQ) (s : Nat) (k2 : Int32) : ∀ (f : Nat) (y3 : Int32) (I : mI) (z : mI), l10_takesOther_47 k2 f y3 I = some z → mV X m10_takesOther 0 0 0 77 [.ref 119, mX0, .int k2, mX0] [] NN KK z (PP s) Q → mV X m10_takesOther 0 0 0 47 [.ref 119, mX0, .int k2, .int y3] [] NN KK I (PP s) Q := by
  intro f
  induction f with
  | zero => intro y3 I z hr hk; cases hr
  | succ f ih =>
    intro y3 I z hr hk
    unfold l10_takesOther_47 at hr
    refine mV_iload f10_takesOther_47 rfl ?_
    refine mV_push f10_takesOther_48 ?_
    refine mV_iload f10_takesOther_50 rfl ?_
    refine mV_imul f10_takesOther_51 ?_
    refine mV_icmp_ge f10_takesOther_52 (fun h0 => ?_) (fun h0 => ?_)
    · rw [if_pos h0] at hr
      have hr := Option.some.inj hr; subst hr
      refine mV_drop (L' := [.ref 119, mX0, .int k2, mX0]) (mSub_k (mSub_x (mSub_k (mSub_x mSub_n)))) ?_
      exact hk
    · rw [if_neg h0] at hr
      refine mV_aload f10_takesOther_55 rfl ?_
      refine mV_getP f10_takesOther_56 (by decide) kk_119 rfl (pp_119_38 _) ?_
      refine mV_iload f10_takesOther_59 rfl ?_
      refine mV_aload f10_takesOther_60 rfl ?_
      refine mV_getP f10_takesOther_61 (by decide) kk_119 rfl (pp_119_38 _) ?_
      refine mV_push f10_takesOther_64 ?_
      refine mV_iload f10_takesOther_67 rfl ?_
      refine mV_iadd f10_takesOther_68 ?_
      obtain ⟨z0, hz0, hr⟩ := mBind hr
      refine mV_ldO f10_takesOther_69 (by decide) kk_139 hz0 ?_
      obtain ⟨z1, hz1, hr⟩ := mBind hr
      refine mV_stO f10_takesOther_70 (by decide) kk_139 hz1 ?_
      refine mV_iinc (y := (y3 + 1)) (L' := [.ref 119, mX0, .int k2, .int (y3 + 1)]) f10_takesOther_71 rfl rfl (by decide) rfl rfl ?_
      refine mV_goto f10_takesOther_74 ?_
      exact ih (y3 + 1) z1 _ hr hk
set_option maxHeartbeats 4000000 in
set_option maxRecDepth 100000 in
theorem t10_takesOther_7 (X : Nat × (Nat → Int32)) (Q : mQ) (s : Nat) (k2 : Int32) : ∀ (f : Nat) (y3 : Int32) (I : mI) (z : mI), l10_takesOther_7 f y3 I = some z → mV X m10_takesOther 0 0 0 34 [.ref 119, mX0, .int k2, mX0] [] NN KK z (PP s) Q → mV X m10_takesOther 0 0 0 7 [.ref 119, mX0, .int k2, .int y3] [] NN KK I (PP s) Q := by
  intro f
  induction f with
  | zero => intro y3 I z hr hk; cases hr
  | succ f ih =>
    intro y3 I z hr hk
    unfold l10_takesOther_7 at hr
    refine mV_iload f10_takesOther_7 rfl ?_
    refine mV_push f10_takesOther_8 ?_
    refine mV_icmp_ge f10_takesOther_10 (fun h0 => ?_) (fun h0 => ?_)
    · rw [if_pos h0] at hr
      have hr := Option.some.inj hr; subst hr
      refine mV_drop (L' := [.ref 119, mX0, .int k2, mX0]) (mSub_k (mSub_x (mSub_k (mSub_x mSub_n)))) ?_
      exact hk
    · rw [if_neg h0] at hr
      refine mV_aload f10_takesOther_13 rfl ?_
      refine mV_getP f10_takesOther_14 (by decide) kk_119 rfl (pp_119_42 _) ?_
      refine mV_iload f10_takesOther_17 rfl ?_
      refine mV_aload f10_takesOther_18 rfl ?_
      refine mV_getP f10_takesOther_19 (by decide) kk_119 rfl (pp_119_42 _) ?_
      refine mV_push f10_takesOther_22 ?_
      refine mV_iload f10_takesOther_24 rfl ?_
      refine mV_iadd f10_takesOther_25 ?_
      obtain ⟨z0, hz0, hr⟩ := mBind hr
      refine mV_ldO f10_takesOther_26 (by decide) kk_141 hz0 ?_
      obtain ⟨z1, hz1, hr⟩ := mBind hr
      refine mV_stO f10_takesOther_27 (by decide) kk_141 hz1 ?_
      refine mV_iinc (y := (y3 + 1)) (L' := [.ref 119, mX0, .int k2, .int (y3 + 1)]) f10_takesOther_28 rfl rfl (by decide) rfl rfl ?_
      refine mV_goto f10_takesOther_31 ?_
      exact ih (y3 + 1) z1 _ hr hk
set_option maxHeartbeats 4000000 in
set_option maxRecDepth 100000 in
theorem w10_takesOther (X : Nat × (Nat → Int32)) (I : mI) (s : Nat) (x0 : Int32) (x1 : Int32) (Q : mQ) {res : mI} (hr : r10_takesOther I x0 x1 = some res) (hQ : Q none NN KK res (PP s)) : mV X m10_takesOther 0 0 0 0 [.ref 119, .int x0, .int x1, mX0] [] NN KK I (PP s) Q := by
  unfold r10_takesOther at hr
  refine mV_iload f10_takesOther_0 rfl ?_
  refine mV_push f10_takesOther_1 ?_
  refine mV_icmp_ne f10_takesOther_2 (fun h0 => ?_) (fun h0 => ?_)
  · rw [if_neg h0] at hr
    refine mV_iload f10_takesOther_40 rfl ?_
    refine mV_push f10_takesOther_41 ?_
    obtain ⟨z0, hz0, hr⟩ := mBind hr
    have keyz0 : mV X m10_takesOther 0 0 0 120 [.ref 119, mX0, mX0, mX0] [] NN KK z0 (PP s) Q := by
      refine mV_aload f10_takesOther_120 rfl ?_
      refine mV_push f10_takesOther_121 ?_
      refine mV_putI f10_takesOther_122 (by decide) kk_119 rfl rfl ?_
      have hr := Option.some.inj hr; subst hr
      exact mV_vret rfl f10_takesOther_125 hQ
    clear hr
    have hr := hz0
    clear hz0
    refine mV_icmp_ne f10_takesOther_42 (fun h1 => ?_) (fun h1 => ?_)
    · rw [if_neg h1] at hr
      refine mV_push f10_takesOther_85 ?_
      refine mV_istore (L' := [.ref 119, .int x0, .int x1, .int 0]) f10_takesOther_86 (by decide) rfl rfl ?_
      obtain ⟨z1, hz1, hr⟩ := mBind hr
      refine mV_drop (L' := [.ref 119, mX0, .int x1, .int 0]) (mSub_k (mSub_x (mSub_k (mSub_k mSub_n)))) ?_
      refine t10_takesOther_87 X Q s x1 FU 0 I _ hz1 ?_
      refine mV_aload f10_takesOther_115 rfl ?_
      refine mV_iload f10_takesOther_116 rfl ?_
      refine mV_putI f10_takesOther_117 (by decide) kk_119 rfl rfl ?_
      have hr := Option.some.inj hr; subst hr
      refine mV_drop (L' := [.ref 119, mX0, mX0, mX0]) (mSub_k (mSub_x (mSub_x (mSub_x mSub_n)))) ?_
      exact keyz0
    · rw [if_pos h1] at hr
      refine mV_push f10_takesOther_45 ?_
      refine mV_istore (L' := [.ref 119, .int x0, .int x1, .int 0]) f10_takesOther_46 (by decide) rfl rfl ?_
      obtain ⟨z2, hz2, hr⟩ := mBind hr
      refine mV_drop (L' := [.ref 119, mX0, .int x1, .int 0]) (mSub_k (mSub_x (mSub_k (mSub_k mSub_n)))) ?_
      refine t10_takesOther_47 X Q s x1 FU 0 I _ hz2 ?_
      refine mV_aload f10_takesOther_77 rfl ?_
      refine mV_iload f10_takesOther_78 rfl ?_
      refine mV_putI f10_takesOther_79 (by decide) kk_119 rfl rfl ?_
      refine mV_goto f10_takesOther_82 ?_
      have hr := Option.some.inj hr; subst hr
      refine mV_drop (L' := [.ref 119, mX0, mX0, mX0]) (mSub_k (mSub_x (mSub_x (mSub_x mSub_n)))) ?_
      exact keyz0
  · rw [if_pos h0] at hr
    refine mV_push f10_takesOther_5 ?_
    refine mV_istore (L' := [.ref 119, .int x0, .int x1, .int 0]) f10_takesOther_6 (by decide) rfl rfl ?_
    obtain ⟨z3, hz3, hr⟩ := mBind hr
    refine mV_drop (L' := [.ref 119, mX0, .int x1, .int 0]) (mSub_k (mSub_x (mSub_k (mSub_k mSub_n)))) ?_
    refine t10_takesOther_7 X Q s x1 FU 0 I _ hz3 ?_
    refine mV_aload f10_takesOther_34 rfl ?_
    refine mV_iload f10_takesOther_35 rfl ?_
    refine mV_putI f10_takesOther_36 (by decide) kk_119 rfl rfl ?_
    have hr := Option.some.inj hr; subst hr
    exact mV_vret rfl f10_takesOther_39 hQ
theorem c10_takesOther (X : Nat × (Nat → Int32)) (I : mI) (s : Nat) (x0 : Int32) (x1 : Int32) {res : mI} (hr : r10_takesOther I x0 x1 = some res) : mC X m10_takesOther 0 0 0 [.ref 119, .int x0, .int x1] NN KK I (PP s) (mRet none NN KK res (PP s)) :=
  mC_of (L0 := [.ref 119, .int x0, .int x1, mX0]) rfl (Nat.le_of_ble_eq_true rfl) (w10_takesOther X I s x0 x1 _ hr (mRet_ok _ _ _ _ _))
def r10_text (I : mI) (x0 : Int32) : Option (Int32 × mI) := (if ((r10_isIn x0 0 3) : Int32) = (0 : Int32) then some ((-1), (mW (mW (mW (mW (mW (mW I 119 0 0) 119 35 0) 119 36 (-1)) 119 16 0) 119 29 0) 119 30 0)) else (r10_readsText (mW (mW (mW (mW (mW (mW I 119 0 0) 119 35 0) 119 36 (-1)) 119 16 0) 119 29 0) 119 30 0) x0).bind fun z1 => if (z1.1 : Int32) = ((-1) : Int32) then some (z1.1, (mW (mW z1.2 119 35 (z1.2 119 33)) 119 36 (z1.2 119 34))) else some (z1.1, z1.2) : Option (Int32 × mI)).bind fun z0 => if (z0.1 : Int32) = ((-1) : Int32) then some ((-1), (mW z0.2 119 15 0)) else (if (x0 : Int32) = (0 : Int32) then (r10_takesLaw (mW z0.2 119 15 0) z0.1).bind fun z4 => some z4 else (r10_takesOther (mW z0.2 119 15 0) x0 z0.1).bind fun z3 => some z3 : Option (mI)).bind fun z2 => some (z0.1, z2)
set_option maxHeartbeats 4000000 in
set_option maxRecDepth 100000 in
theorem w10_text (X : Nat × (Nat → Int32)) (I : mI) (s : Nat) (x0 : Int32) (Q : mQ) {res : Int32 × mI} (hr : r10_text I x0 = some res) (hQ : Q (some (.int res.1)) NN KK res.2 (PP s)) : mV X m10_text 10 0 0 0 [.ref 119, .int x0, mX0] [] NN KK I (PP s) Q := by
  unfold r10_text at hr
  refine mV_aload f10_text_0 rfl ?_
  refine mV_push f10_text_1 ?_
  refine mV_putI f10_text_2 (by decide) kk_119 rfl rfl ?_
  refine mV_aload f10_text_5 rfl ?_
  refine mV_push f10_text_6 ?_
  refine mV_putI f10_text_7 (by decide) kk_119 rfl rfl ?_
  refine mV_aload f10_text_10 rfl ?_
  refine mV_push f10_text_11 ?_
  refine mV_putI f10_text_12 (by decide) kk_119 rfl rfl ?_
  refine mV_aload f10_text_15 rfl ?_
  refine mV_push f10_text_16 ?_
  refine mV_putI f10_text_17 (by decide) kk_119 rfl rfl ?_
  refine mV_aload f10_text_20 rfl ?_
  refine mV_push f10_text_21 ?_
  refine mV_putI f10_text_22 (by decide) kk_119 rfl rfl ?_
  refine mV_aload f10_text_25 rfl ?_
  refine mV_push f10_text_26 ?_
  refine mV_putI f10_text_27 (by decide) kk_119 rfl rfl ?_
  refine mV_push f10_text_30 ?_
  refine mV_istore (L' := [.ref 119, .int x0, .int (-1)]) f10_text_31 (by decide) rfl rfl ?_
  refine mV_aload f10_text_32 rfl ?_
  refine mV_iload f10_text_33 rfl ?_
  refine mV_push f10_text_34 ?_
  refine mV_push f10_text_35 ?_
  refine mV_cV f10_text_36 tg_m10_isIn mCls10 (by decide) kk_119 (mC_deep (c10_isIn X (mW (mW (mW (mW (mW (mW I 119 0 0) 119 35 0) 119 36 (-1)) 119 16 0) 119 29 0) 119 30 0) s x0 0 3 rfl) (by decide)) rfl rfl (Nat.le_of_ble_eq_true rfl) ?_
  obtain ⟨z0, hz0, hr⟩ := mBind hr
  have keyz0 : mV X m10_text 10 0 0 69 [.ref 119, .int x0, .int z0.1] [] NN KK z0.2 (PP s) Q := by
    refine mV_aload f10_text_69 rfl ?_
    refine mV_push f10_text_70 ?_
    refine mV_putI f10_text_71 (by decide) kk_119 rfl rfl ?_
    refine mV_iload f10_text_74 rfl ?_
    refine mV_push f10_text_75 ?_
    refine mV_icmp_ne f10_text_76 (fun h2 => ?_) (fun h2 => ?_)
    · rw [if_neg h2] at hr
      refine mV_iload f10_text_81 rfl ?_
      obtain ⟨z2, hz2, hr⟩ := mBind hr
      have keyz2 : mV X m10_text 10 0 0 99 [.ref 119, mX0, .int z0.1] [] NN KK z2 (PP s) Q := by
        refine mV_iload f10_text_99 rfl ?_
        have hr := Option.some.inj hr; subst hr
        exact mV_iret rfl rfl f10_text_100 hQ
      clear hr
      have hr := hz2
      clear hz2
      refine mV_if_ne f10_text_82 (fun h3 => ?_) (fun h3 => ?_)
      · rw [if_neg h3] at hr
        refine mV_aload f10_text_93 rfl ?_
        refine mV_iload f10_text_94 rfl ?_
        refine mV_iload f10_text_95 rfl ?_
        obtain ⟨z3, hz3, hr⟩ := mBind hr
        refine mV_cV f10_text_96 tg_m10_takesOther mCls10 (by decide) kk_119 (mC_deep (c10_takesOther X (mW z0.2 119 15 0) s x0 z0.1 hz3) (by decide)) rfl rfl (Nat.le_of_ble_eq_true rfl) ?_
        have hr := Option.some.inj hr; subst hr
        refine mV_drop (L' := [.ref 119, mX0, .int z0.1]) (mSub_k (mSub_x (mSub_k mSub_n))) ?_
        exact keyz2
      · rw [if_pos h3] at hr
        refine mV_aload f10_text_85 rfl ?_
        refine mV_iload f10_text_86 rfl ?_
        obtain ⟨z4, hz4, hr⟩ := mBind hr
        refine mV_cV f10_text_87 tg_m10_takesLaw mCls10 (by decide) kk_119 (mC_deep (c10_takesLaw X (mW z0.2 119 15 0) s z0.1 hz4) (by decide)) rfl rfl (Nat.le_of_ble_eq_true rfl) ?_
        refine mV_goto f10_text_90 ?_
        have hr := Option.some.inj hr; subst hr
        refine mV_drop (L' := [.ref 119, mX0, .int z0.1]) (mSub_k (mSub_x (mSub_k mSub_n))) ?_
        exact keyz2
    · rw [if_pos h2] at hr
      refine mV_push f10_text_79 ?_
      have hr := Option.some.inj hr; subst hr
      exact mV_iret rfl rfl f10_text_80 hQ
  clear hr
  have hr := hz0
  clear hz0
  refine mV_if_eq f10_text_39 (fun h0 => ?_) (fun h0 => ?_)
  · rw [if_pos h0] at hr
    have hr := Option.some.inj hr; subst hr
    exact keyz0
  · rw [if_neg h0] at hr
    refine mV_aload f10_text_42 rfl ?_
    refine mV_iload f10_text_43 rfl ?_
    obtain ⟨z1, hz1, hr⟩ := mBind hr
    refine mV_cV f10_text_44 tg_m10_readsText mCls10 (by decide) kk_119 (mC_deep (c10_readsText X (mW (mW (mW (mW (mW (mW I 119 0 0) 119 35 0) 119 36 (-1)) 119 16 0) 119 29 0) 119 30 0) s x0 hz1) (by decide)) rfl rfl (Nat.le_of_ble_eq_true rfl) ?_
    refine mV_istore (L' := [.ref 119, .int x0, .int z1.1]) f10_text_47 (by decide) rfl rfl ?_
    refine mV_iload f10_text_48 rfl ?_
    refine mV_push f10_text_49 ?_
    refine mV_icmp_ne f10_text_50 (fun h1 => ?_) (fun h1 => ?_)
    · rw [if_neg h1] at hr
      have hr := Option.some.inj hr; subst hr
      exact keyz0
    · rw [if_pos h1] at hr
      refine mV_aload f10_text_53 rfl ?_
      refine mV_aload f10_text_54 rfl ?_
      refine mV_gI (z1.2 119 33) f10_text_55 (by decide) kk_119 rfl rfl ?_
      refine mV_putI f10_text_58 (by decide) kk_119 rfl rfl ?_
      refine mV_aload f10_text_61 rfl ?_
      refine mV_aload f10_text_62 rfl ?_
      refine mV_gI (z1.2 119 34) f10_text_63 (by decide) kk_119 rfl rfl ?_
      refine mV_putI f10_text_66 (by decide) kk_119 rfl rfl ?_
      have hr := Option.some.inj hr; subst hr
      exact keyz0
theorem c10_text (X : Nat × (Nat → Int32)) (I : mI) (s : Nat) (x0 : Int32) {res : Int32 × mI} (hr : r10_text I x0 = some res) : mC X m10_text 10 0 0 [.ref 119, .int x0] NN KK I (PP s) (mRet (some (.int res.1)) NN KK res.2 (PP s)) :=
  mC_of (L0 := [.ref 119, .int x0, mX0]) rfl (Nat.le_of_ble_eq_true rfl) (w10_text X I s x0 _ hr (mRet_ok _ _ _ _ _))
def r10_fault (I : mI) (x0 : Int32) : Option (Int32 × mI) := (if (x0 : Int32) = (0 : Int32) then some (I 119 35) else if (x0 : Int32) = (1 : Int32) then some (I 119 36) else some (-1) : Option (Int32)).bind fun z0 => some (z0, (mW I 119 0 0))
set_option maxHeartbeats 4000000 in
set_option maxRecDepth 100000 in
theorem w10_fault (X : Nat × (Nat → Int32)) (I : mI) (s : Nat) (x0 : Int32) (Q : mQ) {res : Int32 × mI} (hr : r10_fault I x0 = some res) (hQ : Q (some (.int res.1)) NN KK res.2 (PP s)) : mV X m10_fault 0 0 0 0 [.ref 119, .int x0] [] NN KK I (PP s) Q := by
  unfold r10_fault at hr
  refine mV_aload f10_fault_0 rfl ?_
  refine mV_push f10_fault_1 ?_
  refine mV_putI f10_fault_2 (by decide) kk_119 rfl rfl ?_
  refine mV_iload f10_fault_5 rfl ?_
  obtain ⟨z0, hz0, hr⟩ := mBind hr
  have keyz0 : mV X m10_fault 0 0 0 29 [.ref 119, mX0] [.int z0] NN KK (mW I 119 0 0) (PP s) Q := by
    have hr := Option.some.inj hr; subst hr
    exact mV_iret rfl rfl f10_fault_29 hQ
  clear hr
  have hr := hz0
  clear hz0
  refine mV_if_ne f10_fault_6 (fun h0 => ?_) (fun h0 => ?_)
  · rw [if_neg h0] at hr
    refine mV_iload f10_fault_16 rfl ?_
    refine mV_push f10_fault_17 ?_
    refine mV_icmp_ne f10_fault_18 (fun h1 => ?_) (fun h1 => ?_)
    · rw [if_neg h1] at hr
      refine mV_push f10_fault_28 ?_
      have hr := Option.some.inj hr; subst hr
      refine mV_drop (L' := [.ref 119, mX0]) (mSub_k (mSub_x mSub_n)) ?_
      exact keyz0
    · rw [if_pos h1] at hr
      refine mV_aload f10_fault_21 rfl ?_
      refine mV_gI (I 119 36) f10_fault_22 (by decide) kk_119 rfl rfl ?_
      refine mV_goto f10_fault_25 ?_
      have hr := Option.some.inj hr; subst hr
      refine mV_drop (L' := [.ref 119, mX0]) (mSub_k (mSub_x mSub_n)) ?_
      exact keyz0
  · rw [if_pos h0] at hr
    refine mV_aload f10_fault_9 rfl ?_
    refine mV_gI (I 119 35) f10_fault_10 (by decide) kk_119 rfl rfl ?_
    refine mV_goto f10_fault_13 ?_
    have hr := Option.some.inj hr; subst hr
    refine mV_drop (L' := [.ref 119, mX0]) (mSub_k (mSub_x mSub_n)) ?_
    exact keyz0
theorem c10_fault (X : Nat × (Nat → Int32)) (I : mI) (s : Nat) (x0 : Int32) {res : Int32 × mI} (hr : r10_fault I x0 = some res) : mC X m10_fault 0 0 0 [.ref 119, .int x0] NN KK I (PP s) (mRet (some (.int res.1)) NN KK res.2 (PP s)) :=
  mC_of (L0 := [.ref 119, .int x0]) rfl (Nat.le_of_ble_eq_true rfl) (w10_fault X I s x0 _ hr (mRet_ok _ _ _ _ _))
def r10_twoOf (x0 : Int32) (x1 : Int32) (x2 : Int32) : Option (Int32) := if (x0 : Int32) = (2 : Int32) then some (x1 + x2) else if (x0 : Int32) = (3 : Int32) then some (x1 - x2) else if (x0 : Int32) = (4 : Int32) then some (x1 * x2) else if (x0 : Int32) = (5 : Int32) then (mDivO x1 x2).bind fun z4 => some z4 else if (x0 : Int32) = (6 : Int32) then (if (x2 : Int32) ≤ (x1 : Int32) then some 0 else some 1 : Option (Int32)).bind fun z3 => some z3 else if (x0 : Int32) = (7 : Int32) then (if (x1 : Int32) = (x2 : Int32) then some 1 else some 0 : Option (Int32)).bind fun z2 => some z2 else if (x0 : Int32) = (8 : Int32) then (if (x1 : Int32) ≤ (x2 : Int32) then some 0 else some 1 : Option (Int32)).bind fun z1 => some z1 else (if (x0 : Int32) = (10 : Int32) then some (x1 * x2) else if ((x1 + x2) : Int32) ≤ (0 : Int32) then some 0 else some 1 : Option (Int32)).bind fun z0 => some z0
set_option maxHeartbeats 4000000 in
set_option maxRecDepth 100000 in
theorem w10_twoOf (X : Nat × (Nat → Int32)) (I : mI) (s : Nat) (x0 : Int32) (x1 : Int32) (x2 : Int32) (Q : mQ) {res : Int32} (hr : r10_twoOf x0 x1 x2 = some res) (hQ : Q (some (.int res)) NN KK I (PP s)) : mV X m10_twoOf 0 0 0 0 [.ref 119, .int x0, .int x1, .int x2] [] NN KK I (PP s) Q := by
  unfold r10_twoOf at hr
  refine mV_iload f10_twoOf_0 rfl ?_
  refine mV_push f10_twoOf_1 ?_
  refine mV_icmp_ne f10_twoOf_2 (fun h0 => ?_) (fun h0 => ?_)
  · rw [if_neg h0] at hr
    refine mV_iload f10_twoOf_9 rfl ?_
    refine mV_push f10_twoOf_10 ?_
    refine mV_icmp_ne f10_twoOf_11 (fun h1 => ?_) (fun h1 => ?_)
    · rw [if_neg h1] at hr
      refine mV_iload f10_twoOf_18 rfl ?_
      refine mV_push f10_twoOf_19 ?_
      refine mV_icmp_ne f10_twoOf_20 (fun h2 => ?_) (fun h2 => ?_)
      · rw [if_neg h2] at hr
        refine mV_iload f10_twoOf_27 rfl ?_
        refine mV_push f10_twoOf_28 ?_
        refine mV_icmp_ne f10_twoOf_29 (fun h3 => ?_) (fun h3 => ?_)
        · rw [if_neg h3] at hr
          refine mV_iload f10_twoOf_36 rfl ?_
          refine mV_push f10_twoOf_37 ?_
          refine mV_icmp_ne f10_twoOf_39 (fun h4 => ?_) (fun h4 => ?_)
          · rw [if_neg h4] at hr
            refine mV_iload f10_twoOf_53 rfl ?_
            refine mV_push f10_twoOf_54 ?_
            refine mV_icmp_ne f10_twoOf_56 (fun h5 => ?_) (fun h5 => ?_)
            · rw [if_neg h5] at hr
              refine mV_iload f10_twoOf_70 rfl ?_
              refine mV_push f10_twoOf_71 ?_
              refine mV_icmp_ne f10_twoOf_73 (fun h6 => ?_) (fun h6 => ?_)
              · rw [if_neg h6] at hr
                refine mV_iload f10_twoOf_87 rfl ?_
                refine mV_push f10_twoOf_88 ?_
                obtain ⟨z0, hz0, hr⟩ := mBind hr
                have keyz0 : mV X m10_twoOf 0 0 0 110 [.ref 119, mX0, mX0, mX0] [.int z0] NN KK I (PP s) Q := by
                  have hr := Option.some.inj hr; subst hr
                  exact mV_iret rfl rfl f10_twoOf_110 hQ
                clear hr
                have hr := hz0
                clear hz0
                refine mV_icmp_ne f10_twoOf_90 (fun h7 => ?_) (fun h7 => ?_)
                · rw [if_neg h7] at hr
                  refine mV_iload f10_twoOf_99 rfl ?_
                  refine mV_iload f10_twoOf_100 rfl ?_
                  refine mV_iadd f10_twoOf_101 ?_
                  refine mV_if_le f10_twoOf_102 (fun h8 => ?_) (fun h8 => ?_)
                  · rw [if_pos h8] at hr
                    refine mV_push f10_twoOf_109 ?_
                    have hr := Option.some.inj hr; subst hr
                    refine mV_drop (L' := [.ref 119, mX0, mX0, mX0]) (mSub_k (mSub_x (mSub_x (mSub_x mSub_n)))) ?_
                    exact keyz0
                  · rw [if_neg h8] at hr
                    refine mV_push f10_twoOf_105 ?_
                    refine mV_goto f10_twoOf_106 ?_
                    have hr := Option.some.inj hr; subst hr
                    refine mV_drop (L' := [.ref 119, mX0, mX0, mX0]) (mSub_k (mSub_x (mSub_x (mSub_x mSub_n)))) ?_
                    exact keyz0
                · rw [if_pos h7] at hr
                  refine mV_iload f10_twoOf_93 rfl ?_
                  refine mV_iload f10_twoOf_94 rfl ?_
                  refine mV_imul f10_twoOf_95 ?_
                  refine mV_goto f10_twoOf_96 ?_
                  have hr := Option.some.inj hr; subst hr
                  refine mV_drop (L' := [.ref 119, mX0, mX0, mX0]) (mSub_k (mSub_x (mSub_x (mSub_x mSub_n)))) ?_
                  exact keyz0
              · rw [if_pos h6] at hr
                refine mV_iload f10_twoOf_76 rfl ?_
                refine mV_iload f10_twoOf_77 rfl ?_
                obtain ⟨z1, hz1, hr⟩ := mBind hr
                have keyz1 : mV X m10_twoOf 0 0 0 86 [.ref 119, mX0, mX0, mX0] [.int z1] NN KK I (PP s) Q := by
                  have hr := Option.some.inj hr; subst hr
                  exact mV_iret rfl rfl f10_twoOf_86 hQ
                clear hr
                have hr := hz1
                clear hz1
                refine mV_icmp_le f10_twoOf_78 (fun h9 => ?_) (fun h9 => ?_)
                · rw [if_pos h9] at hr
                  refine mV_push f10_twoOf_85 ?_
                  have hr := Option.some.inj hr; subst hr
                  refine mV_drop (L' := [.ref 119, mX0, mX0, mX0]) (mSub_k (mSub_x (mSub_x (mSub_x mSub_n)))) ?_
                  exact keyz1
                · rw [if_neg h9] at hr
                  refine mV_push f10_twoOf_81 ?_
                  refine mV_goto f10_twoOf_82 ?_
                  have hr := Option.some.inj hr; subst hr
                  refine mV_drop (L' := [.ref 119, mX0, mX0, mX0]) (mSub_k (mSub_x (mSub_x (mSub_x mSub_n)))) ?_
                  exact keyz1
            · rw [if_pos h5] at hr
              refine mV_iload f10_twoOf_59 rfl ?_
              refine mV_iload f10_twoOf_60 rfl ?_
              obtain ⟨z2, hz2, hr⟩ := mBind hr
              have keyz2 : mV X m10_twoOf 0 0 0 69 [.ref 119, mX0, mX0, mX0] [.int z2] NN KK I (PP s) Q := by
                have hr := Option.some.inj hr; subst hr
                exact mV_iret rfl rfl f10_twoOf_69 hQ
              clear hr
              have hr := hz2
              clear hz2
              refine mV_icmp_ne f10_twoOf_61 (fun h10 => ?_) (fun h10 => ?_)
              · rw [if_neg h10] at hr
                refine mV_push f10_twoOf_68 ?_
                have hr := Option.some.inj hr; subst hr
                refine mV_drop (L' := [.ref 119, mX0, mX0, mX0]) (mSub_k (mSub_x (mSub_x (mSub_x mSub_n)))) ?_
                exact keyz2
              · rw [if_pos h10] at hr
                refine mV_push f10_twoOf_64 ?_
                refine mV_goto f10_twoOf_65 ?_
                have hr := Option.some.inj hr; subst hr
                refine mV_drop (L' := [.ref 119, mX0, mX0, mX0]) (mSub_k (mSub_x (mSub_x (mSub_x mSub_n)))) ?_
                exact keyz2
          · rw [if_pos h4] at hr
            refine mV_iload f10_twoOf_42 rfl ?_
            refine mV_iload f10_twoOf_43 rfl ?_
            obtain ⟨z3, hz3, hr⟩ := mBind hr
            have keyz3 : mV X m10_twoOf 0 0 0 52 [.ref 119, mX0, mX0, mX0] [.int z3] NN KK I (PP s) Q := by
              have hr := Option.some.inj hr; subst hr
              exact mV_iret rfl rfl f10_twoOf_52 hQ
            clear hr
            have hr := hz3
            clear hz3
            refine mV_icmp_ge f10_twoOf_44 (fun h11 => ?_) (fun h11 => ?_)
            · rw [if_pos h11] at hr
              refine mV_push f10_twoOf_51 ?_
              have hr := Option.some.inj hr; subst hr
              refine mV_drop (L' := [.ref 119, mX0, mX0, mX0]) (mSub_k (mSub_x (mSub_x (mSub_x mSub_n)))) ?_
              exact keyz3
            · rw [if_neg h11] at hr
              refine mV_push f10_twoOf_47 ?_
              refine mV_goto f10_twoOf_48 ?_
              have hr := Option.some.inj hr; subst hr
              refine mV_drop (L' := [.ref 119, mX0, mX0, mX0]) (mSub_k (mSub_x (mSub_x (mSub_x mSub_n)))) ?_
              exact keyz3
        · rw [if_pos h3] at hr
          refine mV_iload f10_twoOf_32 rfl ?_
          refine mV_iload f10_twoOf_33 rfl ?_
          obtain ⟨z4, hz4, hr⟩ := mBind hr
          refine mV_divO f10_twoOf_34 hz4 ?_
          have hr := Option.some.inj hr; subst hr
          exact mV_iret rfl rfl f10_twoOf_35 hQ
      · rw [if_pos h2] at hr
        refine mV_iload f10_twoOf_23 rfl ?_
        refine mV_iload f10_twoOf_24 rfl ?_
        refine mV_imul f10_twoOf_25 ?_
        have hr := Option.some.inj hr; subst hr
        exact mV_iret rfl rfl f10_twoOf_26 hQ
    · rw [if_pos h1] at hr
      refine mV_iload f10_twoOf_14 rfl ?_
      refine mV_iload f10_twoOf_15 rfl ?_
      refine mV_isub f10_twoOf_16 ?_
      have hr := Option.some.inj hr; subst hr
      exact mV_iret rfl rfl f10_twoOf_17 hQ
  · rw [if_pos h0] at hr
    refine mV_iload f10_twoOf_5 rfl ?_
    refine mV_iload f10_twoOf_6 rfl ?_
    refine mV_iadd f10_twoOf_7 ?_
    have hr := Option.some.inj hr; subst hr
    exact mV_iret rfl rfl f10_twoOf_8 hQ
theorem c10_twoOf (X : Nat × (Nat → Int32)) (I : mI) (s : Nat) (x0 : Int32) (x1 : Int32) (x2 : Int32) {res : Int32} (hr : r10_twoOf x0 x1 x2 = some res) : mC X m10_twoOf 0 0 0 [.ref 119, .int x0, .int x1, .int x2] NN KK I (PP s) (mRet (some (.int res)) NN KK I (PP s)) :=
  mC_of (L0 := [.ref 119, .int x0, .int x1, .int x2]) rfl (Nat.le_of_ble_eq_true rfl) (w10_twoOf X I s x0 x1 x2 _ hr (mRet_ok _ _ _ _ _))
def l10_runs_12 (k1 : Int32) (k3 : Int32) : Nat → Int32 → Int32 → mI → Option (mI)
  | 0, _, _, _ => none
  | f + 1, y4, y5, I => if (((400 * k1) + k3) : Int32) ≤ (y5 : Int32) then some I else (mLd I 136 1200 y5).bind fun z0 => (if (z0 : Int32) = (0 : Int32) then (mLd I 136 1200 y5).bind fun z2 => (if (z2 : Int32) = (0 : Int32) then (mLd I 137 1200 y5).bind fun z6 => some z6 else (mLd I 137 1200 y5).bind fun z4 => (mLd I 142 12 z4).bind fun z5 => some z5 : Option (Int32)).bind fun z3 => (mSto I 143 420 y4 z3).bind fun z7 => some ((y4 + 1), z7) else (mLd I 136 1200 y5).bind fun z8 => if (z8 : Int32) = (1 : Int32) then (mLd I 136 1200 y5).bind fun z17 => (if (z17 : Int32) = (0 : Int32) then (mLd I 137 1200 y5).bind fun z21 => some z21 else (mLd I 137 1200 y5).bind fun z19 => (mLd I 142 12 z19).bind fun z20 => some z20 : Option (Int32)).bind fun z18 => (mSto I 143 420 y4 z18).bind fun z22 => some ((y4 + 1), z22) else (mLd I 136 1200 y5).bind fun z9 => if (z9 : Int32) = (9 : Int32) then (mLd I 143 420 (y4 - 1)).bind fun z15 => (mSto I 143 420 (y4 - 1) (1 - z15)).bind fun z16 => some (y4, z16) else (mLd I 136 1200 y5).bind fun z10 => (mLd I 143 420 ((y4 - 1) - 1)).bind fun z11 => (mLd I 143 420 (y4 - 1)).bind fun z12 => (r10_twoOf z10 z11 z12).bind fun z13 => (mSto I 143 420 ((y4 - 1) - 1) z13).bind fun z14 => some ((y4 - 1), z14) : Option (Int32 × mI)).bind fun z1 => l10_runs_12 k1 k3 f z1.1 (y5 + 1) z1.2
def r10_runs (I : mI) (x0 : Int32) (x1 : Int32) (x2 : Int32) : Option (Int32 × mI) := (l10_runs_12 x0 x2 FU 0 ((400 * x0) + x1) I).bind fun z0 => some (z0 143 0, z0)
set_option maxHeartbeats 4000000 in
set_option maxRecDepth 100000 in
theorem t10_runs_12 (X : Nat × (Nat → Int32)) (Q : mQ) (s : Nat) (k1 : Int32) (k3 : Int32) : ∀ (f : Nat) (y4 : Int32) (y5 : Int32) (I : mI) (z : mI), l10_runs_12 k1 k3 f y4 y5 I = some z → mV X m10_runs 1 0 0 176 [.ref 119, .int k1, mX0, .int k3, mX0, mX0] [] NN KK z (PP s) Q → mV X m10_runs 1 0 0 12 [.ref 119, .int k1, mX0, .int k3, .int y4, .int y5] [] NN KK I (PP s) Q := by
  intro f
  induction f with
  | zero => intro y4 y5 I z hr hk; cases hr
  | succ f ih =>
    intro y4 y5 I z hr hk
    unfold l10_runs_12 at hr
    refine mV_iload f10_runs_12 rfl ?_
    refine mV_push f10_runs_14 ?_
    refine mV_iload f10_runs_17 rfl ?_
    refine mV_imul f10_runs_18 ?_
    refine mV_iload f10_runs_19 rfl ?_
    refine mV_iadd f10_runs_20 ?_
    refine mV_icmp_ge f10_runs_21 (fun h0 => ?_) (fun h0 => ?_)
    · rw [if_pos h0] at hr
      have hr := Option.some.inj hr; subst hr
      refine mV_drop (L' := [.ref 119, .int k1, mX0, .int k3, mX0, mX0]) (mSub_k (mSub_k (mSub_x (mSub_k (mSub_x (mSub_x mSub_n)))))) ?_
      exact hk
    · rw [if_neg h0] at hr
      refine mV_aload f10_runs_24 rfl ?_
      refine mV_getP f10_runs_25 (by decide) kk_119 rfl (pp_119_26 _) ?_
      refine mV_iload f10_runs_28 rfl ?_
      obtain ⟨z0, hz0, hr⟩ := mBind hr
      refine mV_ldO f10_runs_30 (by decide) kk_136 hz0 ?_
      obtain ⟨z1, hz1, hr⟩ := mBind hr
      have keyz1 : mV X m10_runs 1 0 0 170 [.ref 119, .int k1, mX0, .int k3, .int z1.1, .int y5] [] NN KK z1.2 (PP s) Q := by
        refine mV_iinc (y := (y5 + 1)) (L' := [.ref 119, .int k1, mX0, .int k3, .int z1.1, .int (y5 + 1)]) f10_runs_170 rfl rfl (by decide) rfl rfl ?_
        refine mV_goto f10_runs_173 ?_
        exact ih z1.1 (y5 + 1) z1.2 _ hr hk
      clear hr
      have hr := hz1
      clear hz1
      refine mV_if_eq f10_runs_31 (fun h1 => ?_) (fun h1 => ?_)
      · rw [if_pos h1] at hr
        refine mV_aload f10_runs_45 rfl ?_
        refine mV_getP f10_runs_46 (by decide) kk_119 rfl (pp_119_44 _) ?_
        refine mV_iload f10_runs_49 rfl ?_
        refine mV_aload f10_runs_51 rfl ?_
        refine mV_getP f10_runs_52 (by decide) kk_119 rfl (pp_119_26 _) ?_
        refine mV_iload f10_runs_55 rfl ?_
        obtain ⟨z2, hz2, hr⟩ := mBind hr
        refine mV_ldO f10_runs_57 (by decide) kk_136 hz2 ?_
        obtain ⟨z3, hz3, hr⟩ := mBind hr
        have keyz3 : mV X m10_runs 1 0 0 83 [.ref 119, .int k1, mX0, .int k3, .int y4, .int y5] [.int z3, .int y4, .ref 143] NN KK I (PP s) Q := by
          obtain ⟨z7, hz7, hr⟩ := mBind hr
          refine mV_stO f10_runs_83 (by decide) kk_143 hz7 ?_
          refine mV_iload f10_runs_84 rfl ?_
          refine mV_push f10_runs_86 ?_
          refine mV_iadd f10_runs_87 ?_
          refine mV_istore (L' := [.ref 119, .int k1, mX0, .int k3, .int (y4 + 1), .int y5]) f10_runs_88 (by decide) rfl rfl ?_
          refine mV_goto f10_runs_90 ?_
          have hr := Option.some.inj hr; subst hr
          exact keyz1
        clear hr
        have hr := hz3
        clear hz3
        refine mV_if_ne f10_runs_58 (fun h2 => ?_) (fun h2 => ?_)
        · rw [if_neg h2] at hr
          refine mV_aload f10_runs_71 rfl ?_
          refine mV_getP f10_runs_72 (by decide) kk_119 rfl (pp_119_43 _) ?_
          refine mV_aload f10_runs_75 rfl ?_
          refine mV_getP f10_runs_76 (by decide) kk_119 rfl (pp_119_27 _) ?_
          refine mV_iload f10_runs_79 rfl ?_
          obtain ⟨z4, hz4, hr⟩ := mBind hr
          refine mV_ldO f10_runs_81 (by decide) kk_137 hz4 ?_
          obtain ⟨z5, hz5, hr⟩ := mBind hr
          refine mV_ldO f10_runs_82 (by decide) kk_142 hz5 ?_
          have hr := Option.some.inj hr; subst hr
          exact keyz3
        · rw [if_pos h2] at hr
          refine mV_aload f10_runs_61 rfl ?_
          refine mV_getP f10_runs_62 (by decide) kk_119 rfl (pp_119_27 _) ?_
          refine mV_iload f10_runs_65 rfl ?_
          obtain ⟨z6, hz6, hr⟩ := mBind hr
          refine mV_ldO f10_runs_67 (by decide) kk_137 hz6 ?_
          refine mV_goto f10_runs_68 ?_
          have hr := Option.some.inj hr; subst hr
          exact keyz3
      · rw [if_neg h1] at hr
        refine mV_aload f10_runs_34 rfl ?_
        refine mV_getP f10_runs_35 (by decide) kk_119 rfl (pp_119_26 _) ?_
        refine mV_iload f10_runs_38 rfl ?_
        obtain ⟨z8, hz8, hr⟩ := mBind hr
        refine mV_ldO f10_runs_40 (by decide) kk_136 hz8 ?_
        refine mV_push f10_runs_41 ?_
        refine mV_icmp_ne f10_runs_42 (fun h3 => ?_) (fun h3 => ?_)
        · rw [if_neg h3] at hr
          refine mV_aload f10_runs_93 rfl ?_
          refine mV_getP f10_runs_94 (by decide) kk_119 rfl (pp_119_26 _) ?_
          refine mV_iload f10_runs_97 rfl ?_
          obtain ⟨z9, hz9, hr⟩ := mBind hr
          refine mV_ldO f10_runs_99 (by decide) kk_136 hz9 ?_
          refine mV_push f10_runs_100 ?_
          refine mV_icmp_ne f10_runs_102 (fun h4 => ?_) (fun h4 => ?_)
          · rw [if_neg h4] at hr
            refine mV_iload f10_runs_128 rfl ?_
            refine mV_push f10_runs_130 ?_
            refine mV_isub f10_runs_131 ?_
            refine mV_istore (L' := [.ref 119, .int k1, mX0, .int k3, .int (y4 - 1), .int y5]) f10_runs_132 (by decide) rfl rfl ?_
            refine mV_aload f10_runs_134 rfl ?_
            refine mV_getP f10_runs_135 (by decide) kk_119 rfl (pp_119_44 _) ?_
            refine mV_iload f10_runs_138 rfl ?_
            refine mV_push f10_runs_140 ?_
            refine mV_isub f10_runs_141 ?_
            refine mV_aload f10_runs_142 rfl ?_
            refine mV_aload f10_runs_143 rfl ?_
            refine mV_getP f10_runs_144 (by decide) kk_119 rfl (pp_119_26 _) ?_
            refine mV_iload f10_runs_147 rfl ?_
            obtain ⟨z10, hz10, hr⟩ := mBind hr
            refine mV_ldO f10_runs_149 (by decide) kk_136 hz10 ?_
            refine mV_aload f10_runs_150 rfl ?_
            refine mV_getP f10_runs_151 (by decide) kk_119 rfl (pp_119_44 _) ?_
            refine mV_iload f10_runs_154 rfl ?_
            refine mV_push f10_runs_156 ?_
            refine mV_isub f10_runs_157 ?_
            obtain ⟨z11, hz11, hr⟩ := mBind hr
            refine mV_ldO f10_runs_158 (by decide) kk_143 hz11 ?_
            refine mV_aload f10_runs_159 rfl ?_
            refine mV_getP f10_runs_160 (by decide) kk_119 rfl (pp_119_44 _) ?_
            refine mV_iload f10_runs_163 rfl ?_
            obtain ⟨z12, hz12, hr⟩ := mBind hr
            refine mV_ldO f10_runs_165 (by decide) kk_143 hz12 ?_
            obtain ⟨z13, hz13, hr⟩ := mBind hr
            refine mV_cV f10_runs_166 tg_m10_twoOf mCls10 (by decide) kk_119 (mC_deep (c10_twoOf X I s z10 z11 z12 hz13) (by decide)) rfl rfl (Nat.le_of_ble_eq_true rfl) ?_
            obtain ⟨z14, hz14, hr⟩ := mBind hr
            refine mV_stO f10_runs_169 (by decide) kk_143 hz14 ?_
            have hr := Option.some.inj hr; subst hr
            exact keyz1
          · rw [if_pos h4] at hr
            refine mV_aload f10_runs_105 rfl ?_
            refine mV_getP f10_runs_106 (by decide) kk_119 rfl (pp_119_44 _) ?_
            refine mV_iload f10_runs_109 rfl ?_
            refine mV_push f10_runs_111 ?_
            refine mV_isub f10_runs_112 ?_
            refine mV_push f10_runs_113 ?_
            refine mV_aload f10_runs_114 rfl ?_
            refine mV_getP f10_runs_115 (by decide) kk_119 rfl (pp_119_44 _) ?_
            refine mV_iload f10_runs_118 rfl ?_
            refine mV_push f10_runs_120 ?_
            refine mV_isub f10_runs_121 ?_
            obtain ⟨z15, hz15, hr⟩ := mBind hr
            refine mV_ldO f10_runs_122 (by decide) kk_143 hz15 ?_
            refine mV_isub f10_runs_123 ?_
            obtain ⟨z16, hz16, hr⟩ := mBind hr
            refine mV_stO f10_runs_124 (by decide) kk_143 hz16 ?_
            refine mV_goto f10_runs_125 ?_
            have hr := Option.some.inj hr; subst hr
            exact keyz1
        · rw [if_pos h3] at hr
          refine mV_aload f10_runs_45 rfl ?_
          refine mV_getP f10_runs_46 (by decide) kk_119 rfl (pp_119_44 _) ?_
          refine mV_iload f10_runs_49 rfl ?_
          refine mV_aload f10_runs_51 rfl ?_
          refine mV_getP f10_runs_52 (by decide) kk_119 rfl (pp_119_26 _) ?_
          refine mV_iload f10_runs_55 rfl ?_
          obtain ⟨z17, hz17, hr⟩ := mBind hr
          refine mV_ldO f10_runs_57 (by decide) kk_136 hz17 ?_
          obtain ⟨z18, hz18, hr⟩ := mBind hr
          have keyz18 : mV X m10_runs 1 0 0 83 [.ref 119, .int k1, mX0, .int k3, .int y4, .int y5] [.int z18, .int y4, .ref 143] NN KK I (PP s) Q := by
            obtain ⟨z22, hz22, hr⟩ := mBind hr
            refine mV_stO f10_runs_83 (by decide) kk_143 hz22 ?_
            refine mV_iload f10_runs_84 rfl ?_
            refine mV_push f10_runs_86 ?_
            refine mV_iadd f10_runs_87 ?_
            refine mV_istore (L' := [.ref 119, .int k1, mX0, .int k3, .int (y4 + 1), .int y5]) f10_runs_88 (by decide) rfl rfl ?_
            refine mV_goto f10_runs_90 ?_
            have hr := Option.some.inj hr; subst hr
            exact keyz1
          clear hr
          have hr := hz18
          clear hz18
          refine mV_if_ne f10_runs_58 (fun h5 => ?_) (fun h5 => ?_)
          · rw [if_neg h5] at hr
            refine mV_aload f10_runs_71 rfl ?_
            refine mV_getP f10_runs_72 (by decide) kk_119 rfl (pp_119_43 _) ?_
            refine mV_aload f10_runs_75 rfl ?_
            refine mV_getP f10_runs_76 (by decide) kk_119 rfl (pp_119_27 _) ?_
            refine mV_iload f10_runs_79 rfl ?_
            obtain ⟨z19, hz19, hr⟩ := mBind hr
            refine mV_ldO f10_runs_81 (by decide) kk_137 hz19 ?_
            obtain ⟨z20, hz20, hr⟩ := mBind hr
            refine mV_ldO f10_runs_82 (by decide) kk_142 hz20 ?_
            have hr := Option.some.inj hr; subst hr
            exact keyz18
          · rw [if_pos h5] at hr
            refine mV_aload f10_runs_61 rfl ?_
            refine mV_getP f10_runs_62 (by decide) kk_119 rfl (pp_119_27 _) ?_
            refine mV_iload f10_runs_65 rfl ?_
            obtain ⟨z21, hz21, hr⟩ := mBind hr
            refine mV_ldO f10_runs_67 (by decide) kk_137 hz21 ?_
            refine mV_goto f10_runs_68 ?_
            have hr := Option.some.inj hr; subst hr
            exact keyz18
set_option maxHeartbeats 4000000 in
set_option maxRecDepth 100000 in
theorem w10_runs (X : Nat × (Nat → Int32)) (I : mI) (s : Nat) (x0 : Int32) (x1 : Int32) (x2 : Int32) (Q : mQ) {res : Int32 × mI} (hr : r10_runs I x0 x1 x2 = some res) (hQ : Q (some (.int res.1)) NN KK res.2 (PP s)) : mV X m10_runs 1 0 0 0 [.ref 119, .int x0, .int x1, .int x2, mX0, mX0] [] NN KK I (PP s) Q := by
  unfold r10_runs at hr
  refine mV_push f10_runs_0 ?_
  refine mV_istore (L' := [.ref 119, .int x0, .int x1, .int x2, .int 0, mX0]) f10_runs_1 (by decide) rfl rfl ?_
  refine mV_push f10_runs_3 ?_
  refine mV_iload f10_runs_6 rfl ?_
  refine mV_imul f10_runs_7 ?_
  refine mV_iload f10_runs_8 rfl ?_
  refine mV_iadd f10_runs_9 ?_
  refine mV_istore (L' := [.ref 119, .int x0, .int x1, .int x2, .int 0, .int ((400 * x0) + x1)]) f10_runs_10 (by decide) rfl rfl ?_
  obtain ⟨z0, hz0, hr⟩ := mBind hr
  refine mV_drop (L' := [.ref 119, .int x0, mX0, .int x2, .int 0, .int ((400 * x0) + x1)]) (mSub_k (mSub_k (mSub_x (mSub_k (mSub_k (mSub_k mSub_n)))))) ?_
  refine t10_runs_12 X Q s x0 x2 FU 0 ((400 * x0) + x1) I _ hz0 ?_
  refine mV_aload f10_runs_176 rfl ?_
  refine mV_getP f10_runs_177 (by decide) kk_119 rfl (pp_119_44 _) ?_
  refine mV_push f10_runs_180 ?_
  refine mV_ld (z0 143 0) 0 f10_runs_181 (by decide) kk_143 (by decide) rfl ?_
  have hr := Option.some.inj hr; subst hr
  exact mV_iret rfl rfl f10_runs_182 hQ
theorem c10_runs (X : Nat × (Nat → Int32)) (I : mI) (s : Nat) (x0 : Int32) (x1 : Int32) (x2 : Int32) {res : Int32 × mI} (hr : r10_runs I x0 x1 x2 = some res) : mC X m10_runs 1 0 0 [.ref 119, .int x0, .int x1, .int x2] NN KK I (PP s) (mRet (some (.int res.1)) NN KK res.2 (PP s)) :=
  mC_of (L0 := [.ref 119, .int x0, .int x1, .int x2, mX0, mX0]) rfl (Nat.le_of_ble_eq_true rfl) (w10_runs X I s x0 x1 x2 _ hr (mRet_ok _ _ _ _ _))
def l10_lineOf_2 (k1 : Int32) : Nat → Int32 → mI → Option ((Int32 × mI) ⊕ (mI))
  | 0, _, _ => none
  | f + 1, y2, I => if (I 131 0 : Int32) ≤ (y2 : Int32) then some (.inr I) else (mLd I 132 48 y2).bind fun z0 => if (z0 : Int32) = (k1 : Int32) then (mLd I 134 48 y2).bind fun z1 => (mLd I 135 48 y2).bind fun z2 => if (z1 : Int32) = (z2 : Int32) then some (.inl (y2, I)) else (mLd I 134 48 y2).bind fun z3 => (mLd I 135 48 y2).bind fun z4 => (r10_runs I 0 z3 z4).bind fun z5 => if (z5.1 : Int32) = (0 : Int32) then l10_lineOf_2 k1 f (y2 + 1) z5.2 else some (.inl (y2, z5.2)) else l10_lineOf_2 k1 f (y2 + 1) I
def r10_lineOf (I : mI) (x0 : Int32) : Option (Int32 × mI) := (l10_lineOf_2 x0 FU 0 I).bind fun z0 => match z0 with | .inl rz0 => some rz0 | .inr wz0 => some ((-1), wz0)
set_option maxHeartbeats 4000000 in
set_option maxRecDepth 100000 in
theorem t10_lineOf_2 (X : Nat × (Nat → Int32)) (Q : mQ) (s : Nat) (k1 : Int32) : ∀ (f : Nat) (y2 : Int32) (I : mI) (z : (Int32 × mI) ⊕ (mI)), l10_lineOf_2 k1 f y2 I = some z → (∀ res, z = .inl res → Q (some (.int res.1)) NN KK res.2 (PP s)) → (∀ w, z = .inr w → mV X m10_lineOf 2 0 0 65 [.ref 119, .int k1, mX0] [] NN KK w (PP s) Q) → mV X m10_lineOf 2 0 0 2 [.ref 119, .int k1, .int y2] [] NN KK I (PP s) Q := by
  intro f
  induction f with
  | zero => intro y2 I z hr hret hk; cases hr
  | succ f ih =>
    intro y2 I z hr hret hk
    unfold l10_lineOf_2 at hr
    refine mV_iload f10_lineOf_2 rfl ?_
    refine mV_aload f10_lineOf_3 rfl ?_
    refine mV_getP f10_lineOf_4 (by decide) kk_119 rfl (pp_119_21 _) ?_
    refine mV_push f10_lineOf_7 ?_
    refine mV_ld (I 131 0) 0 f10_lineOf_8 (by decide) kk_131 (by decide) rfl ?_
    refine mV_icmp_ge f10_lineOf_9 (fun h0 => ?_) (fun h0 => ?_)
    · rw [if_pos h0] at hr
      have hr := Option.some.inj hr; subst hr
      refine mV_drop (L' := [.ref 119, .int k1, mX0]) (mSub_k (mSub_k (mSub_x mSub_n))) ?_
      exact hk _ rfl
    · rw [if_neg h0] at hr
      refine mV_aload f10_lineOf_12 rfl ?_
      refine mV_getP f10_lineOf_13 (by decide) kk_119 rfl (pp_119_22 _) ?_
      refine mV_iload f10_lineOf_16 rfl ?_
      obtain ⟨z0, hz0, hr⟩ := mBind hr
      refine mV_ldO f10_lineOf_17 (by decide) kk_132 hz0 ?_
      refine mV_iload f10_lineOf_18 rfl ?_
      refine mV_icmp_ne f10_lineOf_19 (fun h1 => ?_) (fun h1 => ?_)
      · rw [if_neg h1] at hr
        refine mV_iinc (y := (y2 + 1)) (L' := [.ref 119, .int k1, .int (y2 + 1)]) f10_lineOf_59 rfl rfl (by decide) rfl rfl ?_
        refine mV_goto f10_lineOf_62 ?_
        exact ih (y2 + 1) I _ hr hret hk
      · rw [if_pos h1] at hr
        refine mV_aload f10_lineOf_22 rfl ?_
        refine mV_getP f10_lineOf_23 (by decide) kk_119 rfl (pp_119_24 _) ?_
        refine mV_iload f10_lineOf_26 rfl ?_
        obtain ⟨z1, hz1, hr⟩ := mBind hr
        refine mV_ldO f10_lineOf_27 (by decide) kk_134 hz1 ?_
        refine mV_aload f10_lineOf_28 rfl ?_
        refine mV_getP f10_lineOf_29 (by decide) kk_119 rfl (pp_119_25 _) ?_
        refine mV_iload f10_lineOf_32 rfl ?_
        obtain ⟨z2, hz2, hr⟩ := mBind hr
        refine mV_ldO f10_lineOf_33 (by decide) kk_135 hz2 ?_
        refine mV_icmp_eq f10_lineOf_34 (fun h2 => ?_) (fun h2 => ?_)
        · rw [if_pos h2] at hr
          refine mV_iload f10_lineOf_57 rfl ?_
          have hr := Option.some.inj hr; subst hr; have hQ := hret _ rfl
          exact mV_iret rfl rfl f10_lineOf_58 hQ
        · rw [if_neg h2] at hr
          refine mV_aload f10_lineOf_37 rfl ?_
          refine mV_push f10_lineOf_38 ?_
          refine mV_aload f10_lineOf_39 rfl ?_
          refine mV_getP f10_lineOf_40 (by decide) kk_119 rfl (pp_119_24 _) ?_
          refine mV_iload f10_lineOf_43 rfl ?_
          obtain ⟨z3, hz3, hr⟩ := mBind hr
          refine mV_ldO f10_lineOf_44 (by decide) kk_134 hz3 ?_
          refine mV_aload f10_lineOf_45 rfl ?_
          refine mV_getP f10_lineOf_46 (by decide) kk_119 rfl (pp_119_25 _) ?_
          refine mV_iload f10_lineOf_49 rfl ?_
          obtain ⟨z4, hz4, hr⟩ := mBind hr
          refine mV_ldO f10_lineOf_50 (by decide) kk_135 hz4 ?_
          obtain ⟨z5, hz5, hr⟩ := mBind hr
          refine mV_cV f10_lineOf_51 tg_m10_runs mCls10 (by decide) kk_119 (mC_deep (c10_runs X I s 0 z3 z4 hz5) (by decide)) rfl rfl (Nat.le_of_ble_eq_true rfl) ?_
          refine mV_if_eq f10_lineOf_54 (fun h3 => ?_) (fun h3 => ?_)
          · rw [if_pos h3] at hr
            refine mV_iinc (y := (y2 + 1)) (L' := [.ref 119, .int k1, .int (y2 + 1)]) f10_lineOf_59 rfl rfl (by decide) rfl rfl ?_
            refine mV_goto f10_lineOf_62 ?_
            exact ih (y2 + 1) z5.2 _ hr hret hk
          · rw [if_neg h3] at hr
            refine mV_iload f10_lineOf_57 rfl ?_
            have hr := Option.some.inj hr; subst hr; have hQ := hret _ rfl
            exact mV_iret rfl rfl f10_lineOf_58 hQ
set_option maxHeartbeats 4000000 in
set_option maxRecDepth 100000 in
theorem w10_lineOf (X : Nat × (Nat → Int32)) (I : mI) (s : Nat) (x0 : Int32) (Q : mQ) {res : Int32 × mI} (hr : r10_lineOf I x0 = some res) (hQ : Q (some (.int res.1)) NN KK res.2 (PP s)) : mV X m10_lineOf 2 0 0 0 [.ref 119, .int x0, mX0] [] NN KK I (PP s) Q := by
  unfold r10_lineOf at hr
  refine mV_push f10_lineOf_0 ?_
  refine mV_istore (L' := [.ref 119, .int x0, .int 0]) f10_lineOf_1 (by decide) rfl rfl ?_
  obtain ⟨z0, hz0, hr⟩ := mBind hr
  refine t10_lineOf_2 X Q s x0 FU 0 I _ hz0 (fun res ez0 => ?_) (fun wz0 ez0 => ?_)
  · rw [ez0] at hr; have hr := Option.some.inj hr; subst hr; exact hQ
  rw [ez0] at hr
  dsimp only at hr
  refine mV_push f10_lineOf_65 ?_
  have hr := Option.some.inj hr; subst hr
  exact mV_iret rfl rfl f10_lineOf_66 hQ
theorem c10_lineOf (X : Nat × (Nat → Int32)) (I : mI) (s : Nat) (x0 : Int32) {res : Int32 × mI} (hr : r10_lineOf I x0 = some res) : mC X m10_lineOf 2 0 0 [.ref 119, .int x0] NN KK I (PP s) (mRet (some (.int res.1)) NN KK res.2 (PP s)) :=
  mC_of (L0 := [.ref 119, .int x0, mX0]) rfl (Nat.le_of_ble_eq_true rfl) (w10_lineOf X I s x0 _ hr (mRet_ok _ _ _ _ _))

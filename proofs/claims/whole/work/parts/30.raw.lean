def r3_forget (I : mI) : Option (mI) := some (mW I 77 2 0)
set_option maxHeartbeats 4000000 in
set_option maxRecDepth 100000 in
theorem w3_forget (X : Nat × (Nat → Int32)) (I : mI) (s : Nat) (Q : mQ) {res : mI} (hr : r3_forget I = some res) (hQ : Q none NN KK res (PP s)) : mV X m3_forget 0 0 0 0 [.ref 77] [] NN KK I (PP s) Q := by
  unfold r3_forget at hr
  refine mV_aload f3_forget_0 rfl ?_
  refine mV_push f3_forget_1 ?_
  refine mV_putI f3_forget_2 (by decide) kk_77 rfl rfl ?_
  have hr := Option.some.inj hr; subst hr
  exact mV_vret rfl f3_forget_5 hQ
theorem c3_forget (X : Nat × (Nat → Int32)) (I : mI) (s : Nat) {res : mI} (hr : r3_forget I = some res) : mC X m3_forget 0 0 0 [.ref 77] NN KK I (PP s) (mRet none NN KK res (PP s)) :=
  mC_of (L0 := [.ref 77]) rfl (Nat.le_of_ble_eq_true rfl) (w3_forget X I s _ hr (mRet_ok _ _ _ _ _))
def r9_state (I : mI) (x0 : Int32) : Option (Int32 × mI) := (r3_forget (mW I 3 11 x0)).bind fun z0 => some (I 3 11, z0)
set_option maxHeartbeats 4000000 in
set_option maxRecDepth 100000 in
theorem w9_state (X : Nat × (Nat → Int32)) (I : mI) (s : Nat) (x0 : Int32) (Q : mQ) {res : Int32 × mI} (hr : r9_state I x0 = some res) (hQ : Q (some (.int res.1)) NN KK res.2 (PP s)) : mV X m9_state 1 0 0 0 [.ref 0, .int x0, mX0] [] NN KK I (PP s) Q := by
  unfold r9_state at hr
  refine mV_aload f9_state_0 rfl ?_
  refine mV_getP f9_state_1 (by decide) kk_0 rfl (pp_0_1 _) ?_
  refine mV_getP f9_state_4 (by decide) kk_2 rfl (pp_2_0 _) ?_
  refine mV_gI (I 3 11) f9_state_7 (by decide) kk_3 rfl rfl ?_
  refine mV_istore (L' := [.ref 0, .int x0, .int (I 3 11)]) f9_state_10 (by decide) rfl rfl ?_
  refine mV_aload f9_state_11 rfl ?_
  refine mV_getP f9_state_12 (by decide) kk_0 rfl (pp_0_1 _) ?_
  refine mV_getP f9_state_15 (by decide) kk_2 rfl (pp_2_0 _) ?_
  refine mV_iload f9_state_18 rfl ?_
  refine mV_putI f9_state_19 (by decide) kk_3 rfl rfl ?_
  refine mV_aload f9_state_22 rfl ?_
  refine mV_getP f9_state_23 (by decide) kk_0 rfl (pp_0_4 _) ?_
  obtain ⟨z0, hz0, hr⟩ := mBind hr
  refine mV_cV f9_state_26 tg_m3_forget mCls3 (by decide) kk_77 (mC_deep (c3_forget X (mW I 3 11 x0) s hz0) (by decide)) rfl rfl (Nat.le_of_ble_eq_true rfl) ?_
  refine mV_iload f9_state_29 rfl ?_
  have hr := Option.some.inj hr; subst hr
  exact mV_iret rfl rfl f9_state_30 hQ
theorem c9_state (X : Nat × (Nat → Int32)) (I : mI) (s : Nat) (x0 : Int32) {res : Int32 × mI} (hr : r9_state I x0 = some res) : mC X m9_state 1 0 0 [.ref 0, .int x0] NN KK I (PP s) (mRet (some (.int res.1)) NN KK res.2 (PP s)) :=
  mC_of (L0 := [.ref 0, .int x0, mX0]) rfl (Nat.le_of_ble_eq_true rfl) (w9_state X I s x0 _ hr (mRet_ok _ _ _ _ _))
def r0_isGrade (x0 : Int32) : Int32 := if (x0 : Int32) < (0 : Int32) then 0 else if (9 : Int32) < (x0 : Int32) then 0 else 1
set_option maxHeartbeats 4000000 in
set_option maxRecDepth 100000 in
theorem w0_isGrade (X : Nat × (Nat → Int32)) (I : mI) (s : Nat) (x0 : Int32) (Q : mQ) {res : Int32} (hr : r0_isGrade x0 = res) (hQ : Q (some (.int res)) NN KK I (PP s)) : mV X m0_isGrade 0 0 0 0 [.int x0] [] NN KK I (PP s) Q := by
  unfold r0_isGrade at hr
  refine mV_iload f0_isGrade_0 rfl ?_
  refine mV_if_lt f0_isGrade_1 (fun h0 => ?_) (fun h0 => ?_)
  · rw [if_pos h0] at hr
    refine mV_push f0_isGrade_14 ?_
    subst hr
    exact mV_iret rfl rfl f0_isGrade_15 hQ
  · rw [if_neg h0] at hr
    refine mV_iload f0_isGrade_4 rfl ?_
    refine mV_push f0_isGrade_5 ?_
    refine mV_icmp_gt f0_isGrade_7 (fun h1 => ?_) (fun h1 => ?_)
    · rw [if_pos h1] at hr
      refine mV_push f0_isGrade_14 ?_
      subst hr
      exact mV_iret rfl rfl f0_isGrade_15 hQ
    · rw [if_neg h1] at hr
      refine mV_push f0_isGrade_10 ?_
      refine mV_goto f0_isGrade_11 ?_
      subst hr
      exact mV_iret rfl rfl f0_isGrade_15 hQ
theorem c0_isGrade (X : Nat × (Nat → Int32)) (I : mI) (s : Nat) (x0 : Int32) {res : Int32} (hr : r0_isGrade x0 = res) : mC X m0_isGrade 0 0 0 [.int x0] NN KK I (PP s) (mRet (some (.int res)) NN KK I (PP s)) :=
  mC_of (L0 := [.int x0]) rfl (Nat.le_of_ble_eq_true rfl) (w0_isGrade X I s x0 _ hr (mRet_ok _ _ _ _ _))
def r0_addPiece (I : mI) (x0 : Int32) (x1 : Int32) (x2 : Int32) : Option (Int32 × mI) := if (x0 : Int32) < (1 : Int32) then some ((-1), I) else if (30 : Int32) < (x0 : Int32) then some ((-1), I) else if ((r0_isGrade x1) : Int32) = (0 : Int32) then some ((-1), I) else if ((r0_isGrade x2) : Int32) = (0 : Int32) then some ((-1), I) else if (I 8 6 : Int32) < (12 : Int32) then (mSto I 9 12 (I 8 6) x0).bind fun z0 => (mSto z0 10 12 (z0 8 6) x1).bind fun z1 => (mSto z1 11 12 (z1 8 6) x2).bind fun z2 => some (((z2 8 6 + 1) - 1), (mW z2 8 6 (z2 8 6 + 1))) else some ((-1), I)
set_option maxHeartbeats 4000000 in
set_option maxRecDepth 100000 in
theorem w0_addPiece (X : Nat × (Nat → Int32)) (I : mI) (s : Nat) (x0 : Int32) (x1 : Int32) (x2 : Int32) (Q : mQ) {res : Int32 × mI} (hr : r0_addPiece I x0 x1 x2 = some res) (hQ : Q (some (.int res.1)) NN KK res.2 (PP s)) : mV X m0_addPiece 1 0 0 0 [.ref 8, .int x0, .int x1, .int x2] [] NN KK I (PP s) Q := by
  unfold r0_addPiece at hr
  refine mV_iload f0_addPiece_0 rfl ?_
  refine mV_push f0_addPiece_1 ?_
  refine mV_icmp_lt f0_addPiece_2 (fun h0 => ?_) (fun h0 => ?_)
  · rw [if_pos h0] at hr
    refine mV_push f0_addPiece_34 ?_
    have hr := Option.some.inj hr; subst hr
    exact mV_iret rfl rfl f0_addPiece_35 hQ
  · rw [if_neg h0] at hr
    refine mV_iload f0_addPiece_5 rfl ?_
    refine mV_push f0_addPiece_6 ?_
    refine mV_icmp_gt f0_addPiece_8 (fun h1 => ?_) (fun h1 => ?_)
    · rw [if_pos h1] at hr
      refine mV_push f0_addPiece_34 ?_
      have hr := Option.some.inj hr; subst hr
      exact mV_iret rfl rfl f0_addPiece_35 hQ
    · rw [if_neg h1] at hr
      refine mV_iload f0_addPiece_11 rfl ?_
      refine mV_cS f0_addPiece_12 tg_m0_isGrade (mC_deep (c0_isGrade X I s x1 rfl) (by decide)) rfl rfl (Nat.le_of_ble_eq_true rfl) ?_
      refine mV_if_eq f0_addPiece_15 (fun h2 => ?_) (fun h2 => ?_)
      · rw [if_pos h2] at hr
        refine mV_push f0_addPiece_34 ?_
        have hr := Option.some.inj hr; subst hr
        exact mV_iret rfl rfl f0_addPiece_35 hQ
      · rw [if_neg h2] at hr
        refine mV_iload f0_addPiece_18 rfl ?_
        refine mV_cS f0_addPiece_19 tg_m0_isGrade (mC_deep (c0_isGrade X I s x2 rfl) (by decide)) rfl rfl (Nat.le_of_ble_eq_true rfl) ?_
        refine mV_if_eq f0_addPiece_22 (fun h3 => ?_) (fun h3 => ?_)
        · rw [if_pos h3] at hr
          refine mV_push f0_addPiece_34 ?_
          have hr := Option.some.inj hr; subst hr
          exact mV_iret rfl rfl f0_addPiece_35 hQ
        · rw [if_neg h3] at hr
          refine mV_aload f0_addPiece_25 rfl ?_
          refine mV_gI (I 8 6) f0_addPiece_26 (by decide) kk_8 rfl rfl ?_
          refine mV_push f0_addPiece_29 ?_
          refine mV_icmp_lt f0_addPiece_31 (fun h4 => ?_) (fun h4 => ?_)
          · rw [if_pos h4] at hr
            refine mV_aload f0_addPiece_36 rfl ?_
            refine mV_getP f0_addPiece_37 (by decide) kk_8 rfl (pp_8_0 _) ?_
            refine mV_aload f0_addPiece_40 rfl ?_
            refine mV_gI (I 8 6) f0_addPiece_41 (by decide) kk_8 rfl rfl ?_
            refine mV_iload f0_addPiece_44 rfl ?_
            obtain ⟨z0, hz0, hr⟩ := mBind hr
            refine mV_stO f0_addPiece_45 (by decide) kk_9 hz0 ?_
            refine mV_aload f0_addPiece_46 rfl ?_
            refine mV_getP f0_addPiece_47 (by decide) kk_8 rfl (pp_8_1 _) ?_
            refine mV_aload f0_addPiece_50 rfl ?_
            refine mV_gI (z0 8 6) f0_addPiece_51 (by decide) kk_8 rfl rfl ?_
            refine mV_iload f0_addPiece_54 rfl ?_
            obtain ⟨z1, hz1, hr⟩ := mBind hr
            refine mV_stO f0_addPiece_55 (by decide) kk_10 hz1 ?_
            refine mV_aload f0_addPiece_56 rfl ?_
            refine mV_getP f0_addPiece_57 (by decide) kk_8 rfl (pp_8_2 _) ?_
            refine mV_aload f0_addPiece_60 rfl ?_
            refine mV_gI (z1 8 6) f0_addPiece_61 (by decide) kk_8 rfl rfl ?_
            refine mV_iload f0_addPiece_64 rfl ?_
            obtain ⟨z2, hz2, hr⟩ := mBind hr
            refine mV_stO f0_addPiece_65 (by decide) kk_11 hz2 ?_
            refine mV_aload f0_addPiece_66 rfl ?_
            refine mV_dup f0_addPiece_67 rfl ?_
            refine mV_gI (z2 8 6) f0_addPiece_68 (by decide) kk_8 rfl rfl ?_
            refine mV_push f0_addPiece_71 ?_
            refine mV_iadd f0_addPiece_72 ?_
            refine mV_putI f0_addPiece_73 (by decide) kk_8 rfl rfl ?_
            refine mV_aload f0_addPiece_76 rfl ?_
            refine mV_gI (z2 8 6 + 1) f0_addPiece_77 (by decide) kk_8 rfl rfl ?_
            refine mV_push f0_addPiece_80 ?_
            refine mV_isub f0_addPiece_81 ?_
            have hr := Option.some.inj hr; subst hr
            exact mV_iret rfl rfl f0_addPiece_82 hQ
          · rw [if_neg h4] at hr
            refine mV_push f0_addPiece_34 ?_
            have hr := Option.some.inj hr; subst hr
            exact mV_iret rfl rfl f0_addPiece_35 hQ
theorem c0_addPiece (X : Nat × (Nat → Int32)) (I : mI) (s : Nat) (x0 : Int32) (x1 : Int32) (x2 : Int32) {res : Int32 × mI} (hr : r0_addPiece I x0 x1 x2 = some res) : mC X m0_addPiece 1 0 0 [.ref 8, .int x0, .int x1, .int x2] NN KK I (PP s) (mRet (some (.int res.1)) NN KK res.2 (PP s)) :=
  mC_of (L0 := [.ref 8, .int x0, .int x1, .int x2]) rfl (Nat.le_of_ble_eq_true rfl) (w0_addPiece X I s x0 x1 x2 _ hr (mRet_ok _ _ _ _ _))
def r9_piece (I : mI) (x0 : Int32) (x1 : Int32) (x2 : Int32) : Option (Int32 × mI) := (r0_addPiece I x0 x1 x2).bind fun z0 => (if (z0.1 : Int32) = ((-1) : Int32) then some z0.2 else (r3_forget z0.2).bind fun z2 => some z2 : Option (mI)).bind fun z1 => some (z0.1, z1)
set_option maxHeartbeats 4000000 in
set_option maxRecDepth 100000 in
theorem w9_piece (X : Nat × (Nat → Int32)) (I : mI) (s : Nat) (x0 : Int32) (x1 : Int32) (x2 : Int32) (Q : mQ) {res : Int32 × mI} (hr : r9_piece I x0 x1 x2 = some res) (hQ : Q (some (.int res.1)) NN KK res.2 (PP s)) : mV X m9_piece 2 0 0 0 [.ref 0, .int x0, .int x1, .int x2, mX0] [] NN KK I (PP s) Q := by
  unfold r9_piece at hr
  refine mV_aload f9_piece_0 rfl ?_
  refine mV_getP f9_piece_1 (by decide) kk_0 rfl (pp_0_1 _) ?_
  refine mV_getP f9_piece_4 (by decide) kk_2 rfl (pp_2_1 _) ?_
  refine mV_iload f9_piece_7 rfl ?_
  refine mV_iload f9_piece_8 rfl ?_
  refine mV_iload f9_piece_9 rfl ?_
  obtain ⟨z0, hz0, hr⟩ := mBind hr
  refine mV_cV f9_piece_10 tg_m0_addPiece mCls0 (by decide) kk_8 (mC_deep (c0_addPiece X I s x0 x1 x2 hz0) (by decide)) rfl rfl (Nat.le_of_ble_eq_true rfl) ?_
  refine mV_istore (L' := [.ref 0, .int x0, .int x1, .int x2, .int z0.1]) f9_piece_13 (by decide) rfl rfl ?_
  refine mV_iload f9_piece_15 rfl ?_
  refine mV_push f9_piece_17 ?_
  obtain ⟨z1, hz1, hr⟩ := mBind hr
  have keyz1 : mV X m9_piece 2 0 0 28 [.ref 0, mX0, mX0, mX0, .int z0.1] [] NN KK z1 (PP s) Q := by
    refine mV_iload f9_piece_28 rfl ?_
    have hr := Option.some.inj hr; subst hr
    exact mV_iret rfl rfl f9_piece_30 hQ
  clear hr
  have hr := hz1
  clear hz1
  refine mV_icmp_eq f9_piece_18 (fun h0 => ?_) (fun h0 => ?_)
  · rw [if_pos h0] at hr
    have hr := Option.some.inj hr; subst hr
    refine mV_drop (L' := [.ref 0, mX0, mX0, mX0, .int z0.1]) (mSub_k (mSub_x (mSub_x (mSub_x (mSub_k mSub_n))))) ?_
    exact keyz1
  · rw [if_neg h0] at hr
    refine mV_aload f9_piece_21 rfl ?_
    refine mV_getP f9_piece_22 (by decide) kk_0 rfl (pp_0_4 _) ?_
    obtain ⟨z2, hz2, hr⟩ := mBind hr
    refine mV_cV f9_piece_25 tg_m3_forget mCls3 (by decide) kk_77 (mC_deep (c3_forget X z0.2 s hz2) (by decide)) rfl rfl (Nat.le_of_ble_eq_true rfl) ?_
    have hr := Option.some.inj hr; subst hr
    refine mV_drop (L' := [.ref 0, mX0, mX0, mX0, .int z0.1]) (mSub_k (mSub_x (mSub_x (mSub_x (mSub_k mSub_n))))) ?_
    exact keyz1
theorem c9_piece (X : Nat × (Nat → Int32)) (I : mI) (s : Nat) (x0 : Int32) (x1 : Int32) (x2 : Int32) {res : Int32 × mI} (hr : r9_piece I x0 x1 x2 = some res) : mC X m9_piece 2 0 0 [.ref 0, .int x0, .int x1, .int x2] NN KK I (PP s) (mRet (some (.int res.1)) NN KK res.2 (PP s)) :=
  mC_of (L0 := [.ref 0, .int x0, .int x1, .int x2, mX0]) rfl (Nat.le_of_ble_eq_true rfl) (w9_piece X I s x0 x1 x2 _ hr (mRet_ok _ _ _ _ _))
def r0_addPlayer (I : mI) (x0 : Int32) (x1 : Int32) : Option (Int32 × mI) := if ((r0_isGrade x0) : Int32) = (0 : Int32) then some ((-1), I) else if ((r0_isGrade x1) : Int32) = (0 : Int32) then some ((-1), I) else if (I 8 7 : Int32) < (6 : Int32) then (mSto I 12 6 (I 8 7) x0).bind fun z0 => (mSto z0 13 6 (z0 8 7) x1).bind fun z1 => some (((z1 8 7 + 1) - 1), (mW z1 8 7 (z1 8 7 + 1))) else some ((-1), I)
set_option maxHeartbeats 4000000 in
set_option maxRecDepth 100000 in
theorem w0_addPlayer (X : Nat × (Nat → Int32)) (I : mI) (s : Nat) (x0 : Int32) (x1 : Int32) (Q : mQ) {res : Int32 × mI} (hr : r0_addPlayer I x0 x1 = some res) (hQ : Q (some (.int res.1)) NN KK res.2 (PP s)) : mV X m0_addPlayer 1 0 0 0 [.ref 8, .int x0, .int x1] [] NN KK I (PP s) Q := by
  unfold r0_addPlayer at hr
  refine mV_iload f0_addPlayer_0 rfl ?_
  refine mV_cS f0_addPlayer_1 tg_m0_isGrade (mC_deep (c0_isGrade X I s x0 rfl) (by decide)) rfl rfl (Nat.le_of_ble_eq_true rfl) ?_
  refine mV_if_eq f0_addPlayer_4 (fun h0 => ?_) (fun h0 => ?_)
  · rw [if_pos h0] at hr
    refine mV_push f0_addPlayer_23 ?_
    have hr := Option.some.inj hr; subst hr
    exact mV_iret rfl rfl f0_addPlayer_24 hQ
  · rw [if_neg h0] at hr
    refine mV_iload f0_addPlayer_7 rfl ?_
    refine mV_cS f0_addPlayer_8 tg_m0_isGrade (mC_deep (c0_isGrade X I s x1 rfl) (by decide)) rfl rfl (Nat.le_of_ble_eq_true rfl) ?_
    refine mV_if_eq f0_addPlayer_11 (fun h1 => ?_) (fun h1 => ?_)
    · rw [if_pos h1] at hr
      refine mV_push f0_addPlayer_23 ?_
      have hr := Option.some.inj hr; subst hr
      exact mV_iret rfl rfl f0_addPlayer_24 hQ
    · rw [if_neg h1] at hr
      refine mV_aload f0_addPlayer_14 rfl ?_
      refine mV_gI (I 8 7) f0_addPlayer_15 (by decide) kk_8 rfl rfl ?_
      refine mV_push f0_addPlayer_18 ?_
      refine mV_icmp_lt f0_addPlayer_20 (fun h2 => ?_) (fun h2 => ?_)
      · rw [if_pos h2] at hr
        refine mV_aload f0_addPlayer_25 rfl ?_
        refine mV_getP f0_addPlayer_26 (by decide) kk_8 rfl (pp_8_3 _) ?_
        refine mV_aload f0_addPlayer_29 rfl ?_
        refine mV_gI (I 8 7) f0_addPlayer_30 (by decide) kk_8 rfl rfl ?_
        refine mV_iload f0_addPlayer_33 rfl ?_
        obtain ⟨z0, hz0, hr⟩ := mBind hr
        refine mV_stO f0_addPlayer_34 (by decide) kk_12 hz0 ?_
        refine mV_aload f0_addPlayer_35 rfl ?_
        refine mV_getP f0_addPlayer_36 (by decide) kk_8 rfl (pp_8_4 _) ?_
        refine mV_aload f0_addPlayer_39 rfl ?_
        refine mV_gI (z0 8 7) f0_addPlayer_40 (by decide) kk_8 rfl rfl ?_
        refine mV_iload f0_addPlayer_43 rfl ?_
        obtain ⟨z1, hz1, hr⟩ := mBind hr
        refine mV_stO f0_addPlayer_44 (by decide) kk_13 hz1 ?_
        refine mV_aload f0_addPlayer_45 rfl ?_
        refine mV_dup f0_addPlayer_46 rfl ?_
        refine mV_gI (z1 8 7) f0_addPlayer_47 (by decide) kk_8 rfl rfl ?_
        refine mV_push f0_addPlayer_50 ?_
        refine mV_iadd f0_addPlayer_51 ?_
        refine mV_putI f0_addPlayer_52 (by decide) kk_8 rfl rfl ?_
        refine mV_aload f0_addPlayer_55 rfl ?_
        refine mV_gI (z1 8 7 + 1) f0_addPlayer_56 (by decide) kk_8 rfl rfl ?_
        refine mV_push f0_addPlayer_59 ?_
        refine mV_isub f0_addPlayer_60 ?_
        have hr := Option.some.inj hr; subst hr
        exact mV_iret rfl rfl f0_addPlayer_61 hQ
      · rw [if_neg h2] at hr
        refine mV_push f0_addPlayer_23 ?_
        have hr := Option.some.inj hr; subst hr
        exact mV_iret rfl rfl f0_addPlayer_24 hQ
theorem c0_addPlayer (X : Nat × (Nat → Int32)) (I : mI) (s : Nat) (x0 : Int32) (x1 : Int32) {res : Int32 × mI} (hr : r0_addPlayer I x0 x1 = some res) : mC X m0_addPlayer 1 0 0 [.ref 8, .int x0, .int x1] NN KK I (PP s) (mRet (some (.int res.1)) NN KK res.2 (PP s)) :=
  mC_of (L0 := [.ref 8, .int x0, .int x1]) rfl (Nat.le_of_ble_eq_true rfl) (w0_addPlayer X I s x0 x1 _ hr (mRet_ok _ _ _ _ _))
def r9_player (I : mI) (x0 : Int32) (x1 : Int32) : Option (Int32 × mI) := (r0_addPlayer I x0 x1).bind fun z0 => (if (z0.1 : Int32) = ((-1) : Int32) then some z0.2 else (r3_forget z0.2).bind fun z2 => some z2 : Option (mI)).bind fun z1 => some (z0.1, z1)
set_option maxHeartbeats 4000000 in
set_option maxRecDepth 100000 in
theorem w9_player (X : Nat × (Nat → Int32)) (I : mI) (s : Nat) (x0 : Int32) (x1 : Int32) (Q : mQ) {res : Int32 × mI} (hr : r9_player I x0 x1 = some res) (hQ : Q (some (.int res.1)) NN KK res.2 (PP s)) : mV X m9_player 2 0 0 0 [.ref 0, .int x0, .int x1, mX0] [] NN KK I (PP s) Q := by
  unfold r9_player at hr
  refine mV_aload f9_player_0 rfl ?_
  refine mV_getP f9_player_1 (by decide) kk_0 rfl (pp_0_1 _) ?_
  refine mV_getP f9_player_4 (by decide) kk_2 rfl (pp_2_1 _) ?_
  refine mV_iload f9_player_7 rfl ?_
  refine mV_iload f9_player_8 rfl ?_
  obtain ⟨z0, hz0, hr⟩ := mBind hr
  refine mV_cV f9_player_9 tg_m0_addPlayer mCls0 (by decide) kk_8 (mC_deep (c0_addPlayer X I s x0 x1 hz0) (by decide)) rfl rfl (Nat.le_of_ble_eq_true rfl) ?_
  refine mV_istore (L' := [.ref 0, .int x0, .int x1, .int z0.1]) f9_player_12 (by decide) rfl rfl ?_
  refine mV_iload f9_player_13 rfl ?_
  refine mV_push f9_player_14 ?_
  obtain ⟨z1, hz1, hr⟩ := mBind hr
  have keyz1 : mV X m9_player 2 0 0 25 [.ref 0, mX0, mX0, .int z0.1] [] NN KK z1 (PP s) Q := by
    refine mV_iload f9_player_25 rfl ?_
    have hr := Option.some.inj hr; subst hr
    exact mV_iret rfl rfl f9_player_26 hQ
  clear hr
  have hr := hz1
  clear hz1
  refine mV_icmp_eq f9_player_15 (fun h0 => ?_) (fun h0 => ?_)
  · rw [if_pos h0] at hr
    have hr := Option.some.inj hr; subst hr
    refine mV_drop (L' := [.ref 0, mX0, mX0, .int z0.1]) (mSub_k (mSub_x (mSub_x (mSub_k mSub_n)))) ?_
    exact keyz1
  · rw [if_neg h0] at hr
    refine mV_aload f9_player_18 rfl ?_
    refine mV_getP f9_player_19 (by decide) kk_0 rfl (pp_0_4 _) ?_
    obtain ⟨z2, hz2, hr⟩ := mBind hr
    refine mV_cV f9_player_22 tg_m3_forget mCls3 (by decide) kk_77 (mC_deep (c3_forget X z0.2 s hz2) (by decide)) rfl rfl (Nat.le_of_ble_eq_true rfl) ?_
    have hr := Option.some.inj hr; subst hr
    refine mV_drop (L' := [.ref 0, mX0, mX0, .int z0.1]) (mSub_k (mSub_x (mSub_x (mSub_k mSub_n)))) ?_
    exact keyz1
theorem c9_player (X : Nat × (Nat → Int32)) (I : mI) (s : Nat) (x0 : Int32) (x1 : Int32) {res : Int32 × mI} (hr : r9_player I x0 x1 = some res) : mC X m9_player 2 0 0 [.ref 0, .int x0, .int x1] NN KK I (PP s) (mRet (some (.int res.1)) NN KK res.2 (PP s)) :=
  mC_of (L0 := [.ref 0, .int x0, .int x1, mX0]) rfl (Nat.le_of_ble_eq_true rfl) (w9_player X I s x0 x1 _ hr (mRet_ok _ _ _ _ _))
def r0_hasPiece (I : mI) (x0 : Int32) : Int32 := if (x0 : Int32) < (0 : Int32) then 0 else if (I 8 6 : Int32) ≤ (x0 : Int32) then 0 else if (12 : Int32) ≤ (x0 : Int32) then 0 else 1
set_option maxHeartbeats 4000000 in
set_option maxRecDepth 100000 in
theorem w0_hasPiece (X : Nat × (Nat → Int32)) (I : mI) (s : Nat) (x0 : Int32) (Q : mQ) {res : Int32} (hr : r0_hasPiece I x0 = res) (hQ : Q (some (.int res)) NN KK I (PP s)) : mV X m0_hasPiece 0 0 0 0 [.ref 8, .int x0] [] NN KK I (PP s) Q := by
  unfold r0_hasPiece at hr
  refine mV_iload f0_hasPiece_0 rfl ?_
  refine mV_if_lt f0_hasPiece_1 (fun h0 => ?_) (fun h0 => ?_)
  · rw [if_pos h0] at hr
    refine mV_push f0_hasPiece_22 ?_
    subst hr
    exact mV_iret rfl rfl f0_hasPiece_23 hQ
  · rw [if_neg h0] at hr
    refine mV_iload f0_hasPiece_4 rfl ?_
    refine mV_aload f0_hasPiece_5 rfl ?_
    refine mV_gI (I 8 6) f0_hasPiece_6 (by decide) kk_8 rfl rfl ?_
    refine mV_icmp_ge f0_hasPiece_9 (fun h1 => ?_) (fun h1 => ?_)
    · rw [if_pos h1] at hr
      refine mV_push f0_hasPiece_22 ?_
      subst hr
      exact mV_iret rfl rfl f0_hasPiece_23 hQ
    · rw [if_neg h1] at hr
      refine mV_iload f0_hasPiece_12 rfl ?_
      refine mV_push f0_hasPiece_13 ?_
      refine mV_icmp_ge f0_hasPiece_15 (fun h2 => ?_) (fun h2 => ?_)
      · rw [if_pos h2] at hr
        refine mV_push f0_hasPiece_22 ?_
        subst hr
        exact mV_iret rfl rfl f0_hasPiece_23 hQ
      · rw [if_neg h2] at hr
        refine mV_push f0_hasPiece_18 ?_
        refine mV_goto f0_hasPiece_19 ?_
        subst hr
        exact mV_iret rfl rfl f0_hasPiece_23 hQ
theorem c0_hasPiece (X : Nat × (Nat → Int32)) (I : mI) (s : Nat) (x0 : Int32) {res : Int32} (hr : r0_hasPiece I x0 = res) : mC X m0_hasPiece 0 0 0 [.ref 8, .int x0] NN KK I (PP s) (mRet (some (.int res)) NN KK I (PP s)) :=
  mC_of (L0 := [.ref 8, .int x0]) rfl (Nat.le_of_ble_eq_true rfl) (w0_hasPiece X I s x0 _ hr (mRet_ok _ _ _ _ _))
def r0_hasPlayer (I : mI) (x0 : Int32) : Int32 := if (x0 : Int32) < (0 : Int32) then 0 else if (I 8 7 : Int32) ≤ (x0 : Int32) then 0 else if (6 : Int32) ≤ (x0 : Int32) then 0 else 1
set_option maxHeartbeats 4000000 in
set_option maxRecDepth 100000 in
theorem w0_hasPlayer (X : Nat × (Nat → Int32)) (I : mI) (s : Nat) (x0 : Int32) (Q : mQ) {res : Int32} (hr : r0_hasPlayer I x0 = res) (hQ : Q (some (.int res)) NN KK I (PP s)) : mV X m0_hasPlayer 0 0 0 0 [.ref 8, .int x0] [] NN KK I (PP s) Q := by
  unfold r0_hasPlayer at hr
  refine mV_iload f0_hasPlayer_0 rfl ?_
  refine mV_if_lt f0_hasPlayer_1 (fun h0 => ?_) (fun h0 => ?_)
  · rw [if_pos h0] at hr
    refine mV_push f0_hasPlayer_22 ?_
    subst hr
    exact mV_iret rfl rfl f0_hasPlayer_23 hQ
  · rw [if_neg h0] at hr
    refine mV_iload f0_hasPlayer_4 rfl ?_
    refine mV_aload f0_hasPlayer_5 rfl ?_
    refine mV_gI (I 8 7) f0_hasPlayer_6 (by decide) kk_8 rfl rfl ?_
    refine mV_icmp_ge f0_hasPlayer_9 (fun h1 => ?_) (fun h1 => ?_)
    · rw [if_pos h1] at hr
      refine mV_push f0_hasPlayer_22 ?_
      subst hr
      exact mV_iret rfl rfl f0_hasPlayer_23 hQ
    · rw [if_neg h1] at hr
      refine mV_iload f0_hasPlayer_12 rfl ?_
      refine mV_push f0_hasPlayer_13 ?_
      refine mV_icmp_ge f0_hasPlayer_15 (fun h2 => ?_) (fun h2 => ?_)
      · rw [if_pos h2] at hr
        refine mV_push f0_hasPlayer_22 ?_
        subst hr
        exact mV_iret rfl rfl f0_hasPlayer_23 hQ
      · rw [if_neg h2] at hr
        refine mV_push f0_hasPlayer_18 ?_
        refine mV_goto f0_hasPlayer_19 ?_
        subst hr
        exact mV_iret rfl rfl f0_hasPlayer_23 hQ
theorem c0_hasPlayer (X : Nat × (Nat → Int32)) (I : mI) (s : Nat) (x0 : Int32) {res : Int32} (hr : r0_hasPlayer I x0 = res) : mC X m0_hasPlayer 0 0 0 [.ref 8, .int x0] NN KK I (PP s) (mRet (some (.int res)) NN KK I (PP s)) :=
  mC_of (L0 := [.ref 8, .int x0]) rfl (Nat.le_of_ble_eq_true rfl) (w0_hasPlayer X I s x0 _ hr (mRet_ok _ _ _ _ _))
def r0_change (I : mI) (x0 : Int32) (x1 : Int32) (x2 : Int32) : Option (Int32 × mI) := (if (x0 : Int32) = (0 : Int32) then some (r0_hasPiece I x1) else if (x0 : Int32) = (1 : Int32) then some (r0_hasPiece I x1) else if (x0 : Int32) = (2 : Int32) then if ((r0_hasPlayer I x1) : Int32) = (0 : Int32) then some 0 else some 1 else if (x0 : Int32) = (3 : Int32) then if ((r0_hasPlayer I x1) : Int32) = (0 : Int32) then some 0 else some 1 else some 0 : Option (Int32)).bind fun z0 => if (z0 : Int32) = (0 : Int32) then some (0, I) else if ((r0_isGrade x2) : Int32) = (0 : Int32) then some (0, I) else (if (x0 : Int32) = 0 then (mSto I 10 12 x1 x2).bind fun z2 => some z2 else if (x0 : Int32) = 1 then (mSto I 11 12 x1 x2).bind fun z3 => some z3 else if (x0 : Int32) = 2 then (mSto I 12 6 x1 x2).bind fun z4 => some z4 else (mSto I 13 6 x1 x2).bind fun z5 => some z5 : Option (mI)).bind fun z1 => some (1, z1)
set_option maxHeartbeats 4000000 in
set_option maxRecDepth 100000 in
theorem w0_change (X : Nat × (Nat → Int32)) (I : mI) (s : Nat) (x0 : Int32) (x1 : Int32) (x2 : Int32) (Q : mQ) {res : Int32 × mI} (hr : r0_change I x0 x1 x2 = some res) (hQ : Q (some (.int res.1)) NN KK res.2 (PP s)) : mV X m0_change 1 0 0 0 [.ref 8, .int x0, .int x1, .int x2, mX0] [] NN KK I (PP s) Q := by
  unfold r0_change at hr
  refine mV_iload f0_change_0 rfl ?_
  obtain ⟨z0, hz0, hr⟩ := mBind hr
  have keyz0 : mV X m0_change 1 0 0 40 [.ref 8, .int x0, .int x1, .int x2, mX0] [.int z0] NN KK I (PP s) Q := by
    refine mV_istore (L' := [.ref 8, .int x0, .int x1, .int x2, .int z0]) f0_change_40 (by decide) rfl rfl ?_
    refine mV_iload f0_change_42 rfl ?_
    refine mV_if_eq f0_change_44 (fun h6 => ?_) (fun h6 => ?_)
    · rw [if_pos h6] at hr
      refine mV_push f0_change_54 ?_
      have hr := Option.some.inj hr; subst hr
      exact mV_iret rfl rfl f0_change_55 hQ
    · rw [if_neg h6] at hr
      refine mV_iload f0_change_47 rfl ?_
      refine mV_cS f0_change_48 tg_m0_isGrade (mC_deep (c0_isGrade X I s x2 rfl) (by decide)) rfl rfl (Nat.le_of_ble_eq_true rfl) ?_
      refine mV_if_ne f0_change_51 (fun h7 => ?_) (fun h7 => ?_)
      · rw [if_neg h7] at hr
        refine mV_iload f0_change_56 rfl ?_
        obtain ⟨z1, hz1, hr⟩ := mBind hr
        have keyz1 : mV X m0_change 1 0 0 121 [.ref 8, mX0, mX0, mX0, mX0] [] NN KK z1 (PP s) Q := by
          refine mV_push f0_change_121 ?_
          have hr := Option.some.inj hr; subst hr
          exact mV_iret rfl rfl f0_change_122 hQ
        clear hr
        have hr := hz1
        clear hz1
        by_cases h8 : x0 = 0
        · rw [if_pos h8] at hr
          refine mV_tabEq (v := 0) f0_change_57 h8 (by decide) (by decide) (by decide) (by decide : (57 : Int) + 27 = (84 : Nat)) ?_
          refine mV_aload f0_change_84 rfl ?_
          refine mV_getP f0_change_85 (by decide) kk_8 rfl (pp_8_1 _) ?_
          refine mV_iload f0_change_88 rfl ?_
          refine mV_iload f0_change_89 rfl ?_
          obtain ⟨z2, hz2, hr⟩ := mBind hr
          refine mV_stO f0_change_90 (by decide) kk_10 hz2 ?_
          refine mV_goto f0_change_91 ?_
          have hr := Option.some.inj hr; subst hr
          refine mV_drop (L' := [.ref 8, mX0, mX0, mX0, mX0]) (mSub_k (mSub_x (mSub_x (mSub_x (mSub_x mSub_n))))) ?_
          exact keyz1
        rw [if_neg h8] at hr
        by_cases h9 : x0 = 1
        · rw [if_pos h9] at hr
          refine mV_tabEq (v := 1) f0_change_57 h9 (by decide) (by decide) (by decide) (by decide : (57 : Int) + 37 = (94 : Nat)) ?_
          refine mV_aload f0_change_94 rfl ?_
          refine mV_getP f0_change_95 (by decide) kk_8 rfl (pp_8_2 _) ?_
          refine mV_iload f0_change_98 rfl ?_
          refine mV_iload f0_change_99 rfl ?_
          obtain ⟨z3, hz3, hr⟩ := mBind hr
          refine mV_stO f0_change_100 (by decide) kk_11 hz3 ?_
          refine mV_goto f0_change_101 ?_
          have hr := Option.some.inj hr; subst hr
          refine mV_drop (L' := [.ref 8, mX0, mX0, mX0, mX0]) (mSub_k (mSub_x (mSub_x (mSub_x (mSub_x mSub_n))))) ?_
          exact keyz1
        rw [if_neg h9] at hr
        by_cases h10 : x0 = 2
        · rw [if_pos h10] at hr
          refine mV_tabEq (v := 2) f0_change_57 h10 (by decide) (by decide) (by decide) (by decide : (57 : Int) + 47 = (104 : Nat)) ?_
          refine mV_aload f0_change_104 rfl ?_
          refine mV_getP f0_change_105 (by decide) kk_8 rfl (pp_8_3 _) ?_
          refine mV_iload f0_change_108 rfl ?_
          refine mV_iload f0_change_109 rfl ?_
          obtain ⟨z4, hz4, hr⟩ := mBind hr
          refine mV_stO f0_change_110 (by decide) kk_12 hz4 ?_
          refine mV_goto f0_change_111 ?_
          have hr := Option.some.inj hr; subst hr
          refine mV_drop (L' := [.ref 8, mX0, mX0, mX0, mX0]) (mSub_k (mSub_x (mSub_x (mSub_x (mSub_x mSub_n))))) ?_
          exact keyz1
        rw [if_neg h10] at hr
        refine mV_tabNo f0_change_57 [0, 1, 2] (by decide) (List.forall_mem_cons.mpr ⟨h8, (List.forall_mem_cons.mpr ⟨h9, (List.forall_mem_cons.mpr ⟨h10, (fun _ hc => absurd hc List.not_mem_nil)⟩)⟩)⟩) (by decide : (57 : Int) + 57 = (114 : Nat)) ?_
        refine mV_aload f0_change_114 rfl ?_
        refine mV_getP f0_change_115 (by decide) kk_8 rfl (pp_8_4 _) ?_
        refine mV_iload f0_change_118 rfl ?_
        refine mV_iload f0_change_119 rfl ?_
        obtain ⟨z5, hz5, hr⟩ := mBind hr
        refine mV_stO f0_change_120 (by decide) kk_13 hz5 ?_
        have hr := Option.some.inj hr; subst hr
        refine mV_drop (L' := [.ref 8, mX0, mX0, mX0, mX0]) (mSub_k (mSub_x (mSub_x (mSub_x (mSub_x mSub_n))))) ?_
        exact keyz1
      · rw [if_pos h7] at hr
        refine mV_push f0_change_54 ?_
        have hr := Option.some.inj hr; subst hr
        exact mV_iret rfl rfl f0_change_55 hQ
  clear hr
  have hr := hz0
  clear hz0
  refine mV_if_eq f0_change_1 (fun h0 => ?_) (fun h0 => ?_)
  · rw [if_pos h0] at hr
    refine mV_aload f0_change_9 rfl ?_
    refine mV_iload f0_change_10 rfl ?_
    refine mV_cV f0_change_11 tg_m0_hasPiece mCls0 (by decide) kk_8 (mC_deep (c0_hasPiece X I s x1 rfl) (by decide)) rfl rfl (Nat.le_of_ble_eq_true rfl) ?_
    refine mV_goto f0_change_14 ?_
    have hr := Option.some.inj hr; subst hr
    exact keyz0
  · rw [if_neg h0] at hr
    refine mV_iload f0_change_4 rfl ?_
    refine mV_push f0_change_5 ?_
    refine mV_icmp_ne f0_change_6 (fun h1 => ?_) (fun h1 => ?_)
    · rw [if_neg h1] at hr
      refine mV_iload f0_change_17 rfl ?_
      refine mV_push f0_change_18 ?_
      refine mV_icmp_eq f0_change_19 (fun h2 => ?_) (fun h2 => ?_)
      · rw [if_pos h2] at hr
        refine mV_aload f0_change_27 rfl ?_
        refine mV_iload f0_change_28 rfl ?_
        refine mV_cV f0_change_29 tg_m0_hasPlayer mCls0 (by decide) kk_8 (mC_deep (c0_hasPlayer X I s x1 rfl) (by decide)) rfl rfl (Nat.le_of_ble_eq_true rfl) ?_
        refine mV_if_eq f0_change_32 (fun h3 => ?_) (fun h3 => ?_)
        · rw [if_pos h3] at hr
          refine mV_push f0_change_39 ?_
          have hr := Option.some.inj hr; subst hr
          exact keyz0
        · rw [if_neg h3] at hr
          refine mV_push f0_change_35 ?_
          refine mV_goto f0_change_36 ?_
          have hr := Option.some.inj hr; subst hr
          exact keyz0
      · rw [if_neg h2] at hr
        refine mV_iload f0_change_22 rfl ?_
        refine mV_push f0_change_23 ?_
        refine mV_icmp_ne f0_change_24 (fun h4 => ?_) (fun h4 => ?_)
        · rw [if_neg h4] at hr
          refine mV_push f0_change_39 ?_
          have hr := Option.some.inj hr; subst hr
          exact keyz0
        · rw [if_pos h4] at hr
          refine mV_aload f0_change_27 rfl ?_
          refine mV_iload f0_change_28 rfl ?_
          refine mV_cV f0_change_29 tg_m0_hasPlayer mCls0 (by decide) kk_8 (mC_deep (c0_hasPlayer X I s x1 rfl) (by decide)) rfl rfl (Nat.le_of_ble_eq_true rfl) ?_
          refine mV_if_eq f0_change_32 (fun h5 => ?_) (fun h5 => ?_)
          · rw [if_pos h5] at hr
            refine mV_push f0_change_39 ?_
            have hr := Option.some.inj hr; subst hr
            exact keyz0
          · rw [if_neg h5] at hr
            refine mV_push f0_change_35 ?_
            refine mV_goto f0_change_36 ?_
            have hr := Option.some.inj hr; subst hr
            exact keyz0
    · rw [if_pos h1] at hr
      refine mV_aload f0_change_9 rfl ?_
      refine mV_iload f0_change_10 rfl ?_
      refine mV_cV f0_change_11 tg_m0_hasPiece mCls0 (by decide) kk_8 (mC_deep (c0_hasPiece X I s x1 rfl) (by decide)) rfl rfl (Nat.le_of_ble_eq_true rfl) ?_
      refine mV_goto f0_change_14 ?_
      have hr := Option.some.inj hr; subst hr
      exact keyz0
theorem c0_change (X : Nat × (Nat → Int32)) (I : mI) (s : Nat) (x0 : Int32) (x1 : Int32) (x2 : Int32) {res : Int32 × mI} (hr : r0_change I x0 x1 x2 = some res) : mC X m0_change 1 0 0 [.ref 8, .int x0, .int x1, .int x2] NN KK I (PP s) (mRet (some (.int res.1)) NN KK res.2 (PP s)) :=
  mC_of (L0 := [.ref 8, .int x0, .int x1, .int x2, mX0]) rfl (Nat.le_of_ble_eq_true rfl) (w0_change X I s x0 x1 x2 _ hr (mRet_ok _ _ _ _ _))
def r7_change (I : mI) (a : Nat) (x0 : Int32) (x1 : Int32) (x2 : Int32) : Option (Int32 × mI) := if (0 : Int32) ≤ (x2 : Int32) then if (x0 : Int32) = (4 : Int32) then if (x1 : Int32) < (0 : Int32) then if (x0 : Int32) = (5 : Int32) then if (999 : Int32) < (x2 : Int32) then if (x0 : Int32) = (6 : Int32) then if (99 : Int32) < (x2 : Int32) then if (x0 : Int32) = (7 : Int32) then if (9 : Int32) < (x2 : Int32) then some (0, I) else some (1, (mW I a 7 x2)) else some (0, I) else some (1, (mW I a 6 x2)) else if (x0 : Int32) = (7 : Int32) then if (9 : Int32) < (x2 : Int32) then some (0, I) else some (1, (mW I a 7 x2)) else some (0, I) else some (1, (mW I a 4 x2)) else if (x0 : Int32) = (6 : Int32) then if (99 : Int32) < (x2 : Int32) then if (x0 : Int32) = (7 : Int32) then if (9 : Int32) < (x2 : Int32) then some (0, I) else some (1, (mW I a 7 x2)) else some (0, I) else some (1, (mW I a 6 x2)) else if (x0 : Int32) = (7 : Int32) then if (9 : Int32) < (x2 : Int32) then some (0, I) else some (1, (mW I a 7 x2)) else some (0, I) else if (8 : Int32) ≤ (x1 : Int32) then if (x0 : Int32) = (5 : Int32) then if (999 : Int32) < (x2 : Int32) then if (x0 : Int32) = (6 : Int32) then if (99 : Int32) < (x2 : Int32) then if (x0 : Int32) = (7 : Int32) then if (9 : Int32) < (x2 : Int32) then some (0, I) else some (1, (mW I a 7 x2)) else some (0, I) else some (1, (mW I a 6 x2)) else if (x0 : Int32) = (7 : Int32) then if (9 : Int32) < (x2 : Int32) then some (0, I) else some (1, (mW I a 7 x2)) else some (0, I) else some (1, (mW I a 4 x2)) else if (x0 : Int32) = (6 : Int32) then if (99 : Int32) < (x2 : Int32) then if (x0 : Int32) = (7 : Int32) then if (9 : Int32) < (x2 : Int32) then some (0, I) else some (1, (mW I a 7 x2)) else some (0, I) else some (1, (mW I a 6 x2)) else if (x0 : Int32) = (7 : Int32) then if (9 : Int32) < (x2 : Int32) then some (0, I) else some (1, (mW I a 7 x2)) else some (0, I) else if (50 : Int32) < (x2 : Int32) then if (x0 : Int32) = (5 : Int32) then if (999 : Int32) < (x2 : Int32) then if (x0 : Int32) = (6 : Int32) then if (99 : Int32) < (x2 : Int32) then if (x0 : Int32) = (7 : Int32) then if (9 : Int32) < (x2 : Int32) then some (0, I) else some (1, (mW I a 7 x2)) else some (0, I) else some (1, (mW I a 6 x2)) else if (x0 : Int32) = (7 : Int32) then if (9 : Int32) < (x2 : Int32) then some (0, I) else some (1, (mW I a 7 x2)) else some (0, I) else some (1, (mW I a 4 x2)) else if (x0 : Int32) = (6 : Int32) then if (99 : Int32) < (x2 : Int32) then if (x0 : Int32) = (7 : Int32) then if (9 : Int32) < (x2 : Int32) then some (0, I) else some (1, (mW I a 7 x2)) else some (0, I) else some (1, (mW I a 6 x2)) else if (x0 : Int32) = (7 : Int32) then if (9 : Int32) < (x2 : Int32) then some (0, I) else some (1, (mW I a 7 x2)) else some (0, I) else (mSto I (a + 4) 8 x1 x2).bind fun z0 => some (1, z0) else if (x0 : Int32) = (5 : Int32) then if (999 : Int32) < (x2 : Int32) then if (x0 : Int32) = (6 : Int32) then if (99 : Int32) < (x2 : Int32) then if (x0 : Int32) = (7 : Int32) then if (9 : Int32) < (x2 : Int32) then some (0, I) else some (1, (mW I a 7 x2)) else some (0, I) else some (1, (mW I a 6 x2)) else if (x0 : Int32) = (7 : Int32) then if (9 : Int32) < (x2 : Int32) then some (0, I) else some (1, (mW I a 7 x2)) else some (0, I) else some (1, (mW I a 4 x2)) else if (x0 : Int32) = (6 : Int32) then if (99 : Int32) < (x2 : Int32) then if (x0 : Int32) = (7 : Int32) then if (9 : Int32) < (x2 : Int32) then some (0, I) else some (1, (mW I a 7 x2)) else some (0, I) else some (1, (mW I a 6 x2)) else if (x0 : Int32) = (7 : Int32) then if (9 : Int32) < (x2 : Int32) then some (0, I) else some (1, (mW I a 7 x2)) else some (0, I) else some (0, I)
set_option maxHeartbeats 4000000 in
set_option maxRecDepth 100000 in
theorem w7_change (X : Nat × (Nat → Int32)) (I : mI) (s : Nat) (a : Nat) (ha : mStg a) (x0 : Int32) (x1 : Int32) (x2 : Int32) (Q : mQ) {res : Int32 × mI} (hr : r7_change I a x0 x1 x2 = some res) (hQ : Q (some (.int res.1)) NN KK res.2 (PP s)) : mV X m7_change 0 0 0 0 [.ref a, .int x0, .int x1, .int x2] [] NN KK I (PP s) Q := by
  unfold r7_change at hr
  refine mV_iload f7_change_0 rfl ?_
  refine mV_if_ge f7_change_1 (fun h0 => ?_) (fun h0 => ?_)
  · rw [if_pos h0] at hr
    refine mV_iload f7_change_6 rfl ?_
    refine mV_push f7_change_7 ?_
    refine mV_icmp_ne f7_change_8 (fun h1 => ?_) (fun h1 => ?_)
    · rw [if_neg h1] at hr
      refine mV_iload f7_change_36 rfl ?_
      refine mV_push f7_change_37 ?_
      refine mV_icmp_ne f7_change_38 (fun h2 => ?_) (fun h2 => ?_)
      · rw [if_neg h2] at hr
        refine mV_iload f7_change_55 rfl ?_
        refine mV_push f7_change_56 ?_
        refine mV_icmp_ne f7_change_58 (fun h3 => ?_) (fun h3 => ?_)
        · rw [if_neg h3] at hr
          refine mV_iload f7_change_74 rfl ?_
          refine mV_push f7_change_75 ?_
          refine mV_icmp_ne f7_change_77 (fun h4 => ?_) (fun h4 => ?_)
          · rw [if_neg h4] at hr
            refine mV_push f7_change_93 ?_
            have hr := Option.some.inj hr; subst hr
            exact mV_iret rfl rfl f7_change_94 hQ
          · rw [if_pos h4] at hr
            refine mV_iload f7_change_80 rfl ?_
            refine mV_push f7_change_81 ?_
            refine mV_icmp_gt f7_change_83 (fun h5 => ?_) (fun h5 => ?_)
            · rw [if_pos h5] at hr
              refine mV_push f7_change_93 ?_
              have hr := Option.some.inj hr; subst hr
              exact mV_iret rfl rfl f7_change_94 hQ
            · rw [if_neg h5] at hr
              refine mV_aload f7_change_86 rfl ?_
              refine mV_iload f7_change_87 rfl ?_
              refine mV_putI f7_change_88 ha.l0 ha.1.2.1 rfl rfl ?_
              refine mV_push f7_change_91 ?_
              have hr := Option.some.inj hr; subst hr
              exact mV_iret rfl rfl f7_change_92 hQ
        · rw [if_pos h3] at hr
          refine mV_iload f7_change_61 rfl ?_
          refine mV_push f7_change_62 ?_
          refine mV_icmp_gt f7_change_64 (fun h6 => ?_) (fun h6 => ?_)
          · rw [if_pos h6] at hr
            refine mV_iload f7_change_74 rfl ?_
            refine mV_push f7_change_75 ?_
            refine mV_icmp_ne f7_change_77 (fun h7 => ?_) (fun h7 => ?_)
            · rw [if_neg h7] at hr
              refine mV_push f7_change_93 ?_
              have hr := Option.some.inj hr; subst hr
              exact mV_iret rfl rfl f7_change_94 hQ
            · rw [if_pos h7] at hr
              refine mV_iload f7_change_80 rfl ?_
              refine mV_push f7_change_81 ?_
              refine mV_icmp_gt f7_change_83 (fun h8 => ?_) (fun h8 => ?_)
              · rw [if_pos h8] at hr
                refine mV_push f7_change_93 ?_
                have hr := Option.some.inj hr; subst hr
                exact mV_iret rfl rfl f7_change_94 hQ
              · rw [if_neg h8] at hr
                refine mV_aload f7_change_86 rfl ?_
                refine mV_iload f7_change_87 rfl ?_
                refine mV_putI f7_change_88 ha.l0 ha.1.2.1 rfl rfl ?_
                refine mV_push f7_change_91 ?_
                have hr := Option.some.inj hr; subst hr
                exact mV_iret rfl rfl f7_change_92 hQ
          · rw [if_neg h6] at hr
            refine mV_aload f7_change_67 rfl ?_
            refine mV_iload f7_change_68 rfl ?_
            refine mV_putI f7_change_69 ha.l0 ha.1.2.1 rfl rfl ?_
            refine mV_push f7_change_72 ?_
            have hr := Option.some.inj hr; subst hr
            exact mV_iret rfl rfl f7_change_73 hQ
      · rw [if_pos h2] at hr
        refine mV_iload f7_change_41 rfl ?_
        refine mV_push f7_change_42 ?_
        refine mV_icmp_gt f7_change_45 (fun h9 => ?_) (fun h9 => ?_)
        · rw [if_pos h9] at hr
          refine mV_iload f7_change_55 rfl ?_
          refine mV_push f7_change_56 ?_
          refine mV_icmp_ne f7_change_58 (fun h10 => ?_) (fun h10 => ?_)
          · rw [if_neg h10] at hr
            refine mV_iload f7_change_74 rfl ?_
            refine mV_push f7_change_75 ?_
            refine mV_icmp_ne f7_change_77 (fun h11 => ?_) (fun h11 => ?_)
            · rw [if_neg h11] at hr
              refine mV_push f7_change_93 ?_
              have hr := Option.some.inj hr; subst hr
              exact mV_iret rfl rfl f7_change_94 hQ
            · rw [if_pos h11] at hr
              refine mV_iload f7_change_80 rfl ?_
              refine mV_push f7_change_81 ?_
              refine mV_icmp_gt f7_change_83 (fun h12 => ?_) (fun h12 => ?_)
              · rw [if_pos h12] at hr
                refine mV_push f7_change_93 ?_
                have hr := Option.some.inj hr; subst hr
                exact mV_iret rfl rfl f7_change_94 hQ
              · rw [if_neg h12] at hr
                refine mV_aload f7_change_86 rfl ?_
                refine mV_iload f7_change_87 rfl ?_
                refine mV_putI f7_change_88 ha.l0 ha.1.2.1 rfl rfl ?_
                refine mV_push f7_change_91 ?_
                have hr := Option.some.inj hr; subst hr
                exact mV_iret rfl rfl f7_change_92 hQ
          · rw [if_pos h10] at hr
            refine mV_iload f7_change_61 rfl ?_
            refine mV_push f7_change_62 ?_
            refine mV_icmp_gt f7_change_64 (fun h13 => ?_) (fun h13 => ?_)
            · rw [if_pos h13] at hr
              refine mV_iload f7_change_74 rfl ?_
              refine mV_push f7_change_75 ?_
              refine mV_icmp_ne f7_change_77 (fun h14 => ?_) (fun h14 => ?_)
              · rw [if_neg h14] at hr
                refine mV_push f7_change_93 ?_
                have hr := Option.some.inj hr; subst hr
                exact mV_iret rfl rfl f7_change_94 hQ
              · rw [if_pos h14] at hr
                refine mV_iload f7_change_80 rfl ?_
                refine mV_push f7_change_81 ?_
                refine mV_icmp_gt f7_change_83 (fun h15 => ?_) (fun h15 => ?_)
                · rw [if_pos h15] at hr
                  refine mV_push f7_change_93 ?_
                  have hr := Option.some.inj hr; subst hr
                  exact mV_iret rfl rfl f7_change_94 hQ
                · rw [if_neg h15] at hr
                  refine mV_aload f7_change_86 rfl ?_
                  refine mV_iload f7_change_87 rfl ?_
                  refine mV_putI f7_change_88 ha.l0 ha.1.2.1 rfl rfl ?_
                  refine mV_push f7_change_91 ?_
                  have hr := Option.some.inj hr; subst hr
                  exact mV_iret rfl rfl f7_change_92 hQ
            · rw [if_neg h13] at hr
              refine mV_aload f7_change_67 rfl ?_
              refine mV_iload f7_change_68 rfl ?_
              refine mV_putI f7_change_69 ha.l0 ha.1.2.1 rfl rfl ?_
              refine mV_push f7_change_72 ?_
              have hr := Option.some.inj hr; subst hr
              exact mV_iret rfl rfl f7_change_73 hQ
        · rw [if_neg h9] at hr
          refine mV_aload f7_change_48 rfl ?_
          refine mV_iload f7_change_49 rfl ?_
          refine mV_putI f7_change_50 ha.l0 ha.1.2.1 rfl rfl ?_
          refine mV_push f7_change_53 ?_
          have hr := Option.some.inj hr; subst hr
          exact mV_iret rfl rfl f7_change_54 hQ
    · rw [if_pos h1] at hr
      refine mV_iload f7_change_11 rfl ?_
      refine mV_if_lt f7_change_12 (fun h16 => ?_) (fun h16 => ?_)
      · rw [if_pos h16] at hr
        refine mV_iload f7_change_36 rfl ?_
        refine mV_push f7_change_37 ?_
        refine mV_icmp_ne f7_change_38 (fun h17 => ?_) (fun h17 => ?_)
        · rw [if_neg h17] at hr
          refine mV_iload f7_change_55 rfl ?_
          refine mV_push f7_change_56 ?_
          refine mV_icmp_ne f7_change_58 (fun h18 => ?_) (fun h18 => ?_)
          · rw [if_neg h18] at hr
            refine mV_iload f7_change_74 rfl ?_
            refine mV_push f7_change_75 ?_
            refine mV_icmp_ne f7_change_77 (fun h19 => ?_) (fun h19 => ?_)
            · rw [if_neg h19] at hr
              refine mV_push f7_change_93 ?_
              have hr := Option.some.inj hr; subst hr
              exact mV_iret rfl rfl f7_change_94 hQ
            · rw [if_pos h19] at hr
              refine mV_iload f7_change_80 rfl ?_
              refine mV_push f7_change_81 ?_
              refine mV_icmp_gt f7_change_83 (fun h20 => ?_) (fun h20 => ?_)
              · rw [if_pos h20] at hr
                refine mV_push f7_change_93 ?_
                have hr := Option.some.inj hr; subst hr
                exact mV_iret rfl rfl f7_change_94 hQ
              · rw [if_neg h20] at hr
                refine mV_aload f7_change_86 rfl ?_
                refine mV_iload f7_change_87 rfl ?_
                refine mV_putI f7_change_88 ha.l0 ha.1.2.1 rfl rfl ?_
                refine mV_push f7_change_91 ?_
                have hr := Option.some.inj hr; subst hr
                exact mV_iret rfl rfl f7_change_92 hQ
          · rw [if_pos h18] at hr
            refine mV_iload f7_change_61 rfl ?_
            refine mV_push f7_change_62 ?_
            refine mV_icmp_gt f7_change_64 (fun h21 => ?_) (fun h21 => ?_)
            · rw [if_pos h21] at hr
              refine mV_iload f7_change_74 rfl ?_
              refine mV_push f7_change_75 ?_
              refine mV_icmp_ne f7_change_77 (fun h22 => ?_) (fun h22 => ?_)
              · rw [if_neg h22] at hr
                refine mV_push f7_change_93 ?_
                have hr := Option.some.inj hr; subst hr
                exact mV_iret rfl rfl f7_change_94 hQ
              · rw [if_pos h22] at hr
                refine mV_iload f7_change_80 rfl ?_
                refine mV_push f7_change_81 ?_
                refine mV_icmp_gt f7_change_83 (fun h23 => ?_) (fun h23 => ?_)
                · rw [if_pos h23] at hr
                  refine mV_push f7_change_93 ?_
                  have hr := Option.some.inj hr; subst hr
                  exact mV_iret rfl rfl f7_change_94 hQ
                · rw [if_neg h23] at hr
                  refine mV_aload f7_change_86 rfl ?_
                  refine mV_iload f7_change_87 rfl ?_
                  refine mV_putI f7_change_88 ha.l0 ha.1.2.1 rfl rfl ?_
                  refine mV_push f7_change_91 ?_
                  have hr := Option.some.inj hr; subst hr
                  exact mV_iret rfl rfl f7_change_92 hQ
            · rw [if_neg h21] at hr
              refine mV_aload f7_change_67 rfl ?_
              refine mV_iload f7_change_68 rfl ?_
              refine mV_putI f7_change_69 ha.l0 ha.1.2.1 rfl rfl ?_
              refine mV_push f7_change_72 ?_
              have hr := Option.some.inj hr; subst hr
              exact mV_iret rfl rfl f7_change_73 hQ
        · rw [if_pos h17] at hr
          refine mV_iload f7_change_41 rfl ?_
          refine mV_push f7_change_42 ?_
          refine mV_icmp_gt f7_change_45 (fun h24 => ?_) (fun h24 => ?_)
          · rw [if_pos h24] at hr
            refine mV_iload f7_change_55 rfl ?_
            refine mV_push f7_change_56 ?_
            refine mV_icmp_ne f7_change_58 (fun h25 => ?_) (fun h25 => ?_)
            · rw [if_neg h25] at hr
              refine mV_iload f7_change_74 rfl ?_
              refine mV_push f7_change_75 ?_
              refine mV_icmp_ne f7_change_77 (fun h26 => ?_) (fun h26 => ?_)
              · rw [if_neg h26] at hr
                refine mV_push f7_change_93 ?_
                have hr := Option.some.inj hr; subst hr
                exact mV_iret rfl rfl f7_change_94 hQ
              · rw [if_pos h26] at hr
                refine mV_iload f7_change_80 rfl ?_
                refine mV_push f7_change_81 ?_
                refine mV_icmp_gt f7_change_83 (fun h27 => ?_) (fun h27 => ?_)
                · rw [if_pos h27] at hr
                  refine mV_push f7_change_93 ?_
                  have hr := Option.some.inj hr; subst hr
                  exact mV_iret rfl rfl f7_change_94 hQ
                · rw [if_neg h27] at hr
                  refine mV_aload f7_change_86 rfl ?_
                  refine mV_iload f7_change_87 rfl ?_
                  refine mV_putI f7_change_88 ha.l0 ha.1.2.1 rfl rfl ?_
                  refine mV_push f7_change_91 ?_
                  have hr := Option.some.inj hr; subst hr
                  exact mV_iret rfl rfl f7_change_92 hQ
            · rw [if_pos h25] at hr
              refine mV_iload f7_change_61 rfl ?_
              refine mV_push f7_change_62 ?_
              refine mV_icmp_gt f7_change_64 (fun h28 => ?_) (fun h28 => ?_)
              · rw [if_pos h28] at hr
                refine mV_iload f7_change_74 rfl ?_
                refine mV_push f7_change_75 ?_
                refine mV_icmp_ne f7_change_77 (fun h29 => ?_) (fun h29 => ?_)
                · rw [if_neg h29] at hr
                  refine mV_push f7_change_93 ?_
                  have hr := Option.some.inj hr; subst hr
                  exact mV_iret rfl rfl f7_change_94 hQ
                · rw [if_pos h29] at hr
                  refine mV_iload f7_change_80 rfl ?_
                  refine mV_push f7_change_81 ?_
                  refine mV_icmp_gt f7_change_83 (fun h30 => ?_) (fun h30 => ?_)
                  · rw [if_pos h30] at hr
                    refine mV_push f7_change_93 ?_
                    have hr := Option.some.inj hr; subst hr
                    exact mV_iret rfl rfl f7_change_94 hQ
                  · rw [if_neg h30] at hr
                    refine mV_aload f7_change_86 rfl ?_
                    refine mV_iload f7_change_87 rfl ?_
                    refine mV_putI f7_change_88 ha.l0 ha.1.2.1 rfl rfl ?_
                    refine mV_push f7_change_91 ?_
                    have hr := Option.some.inj hr; subst hr
                    exact mV_iret rfl rfl f7_change_92 hQ
              · rw [if_neg h28] at hr
                refine mV_aload f7_change_67 rfl ?_
                refine mV_iload f7_change_68 rfl ?_
                refine mV_putI f7_change_69 ha.l0 ha.1.2.1 rfl rfl ?_
                refine mV_push f7_change_72 ?_
                have hr := Option.some.inj hr; subst hr
                exact mV_iret rfl rfl f7_change_73 hQ
          · rw [if_neg h24] at hr
            refine mV_aload f7_change_48 rfl ?_
            refine mV_iload f7_change_49 rfl ?_
            refine mV_putI f7_change_50 ha.l0 ha.1.2.1 rfl rfl ?_
            refine mV_push f7_change_53 ?_
            have hr := Option.some.inj hr; subst hr
            exact mV_iret rfl rfl f7_change_54 hQ
      · rw [if_neg h16] at hr
        refine mV_iload f7_change_15 rfl ?_
        refine mV_push f7_change_16 ?_
        refine mV_icmp_ge f7_change_18 (fun h31 => ?_) (fun h31 => ?_)
        · rw [if_pos h31] at hr
          refine mV_iload f7_change_36 rfl ?_
          refine mV_push f7_change_37 ?_
          refine mV_icmp_ne f7_change_38 (fun h32 => ?_) (fun h32 => ?_)
          · rw [if_neg h32] at hr
            refine mV_iload f7_change_55 rfl ?_
            refine mV_push f7_change_56 ?_
            refine mV_icmp_ne f7_change_58 (fun h33 => ?_) (fun h33 => ?_)
            · rw [if_neg h33] at hr
              refine mV_iload f7_change_74 rfl ?_
              refine mV_push f7_change_75 ?_
              refine mV_icmp_ne f7_change_77 (fun h34 => ?_) (fun h34 => ?_)
              · rw [if_neg h34] at hr
                refine mV_push f7_change_93 ?_
                have hr := Option.some.inj hr; subst hr
                exact mV_iret rfl rfl f7_change_94 hQ
              · rw [if_pos h34] at hr
                refine mV_iload f7_change_80 rfl ?_
                refine mV_push f7_change_81 ?_
                refine mV_icmp_gt f7_change_83 (fun h35 => ?_) (fun h35 => ?_)
                · rw [if_pos h35] at hr
                  refine mV_push f7_change_93 ?_
                  have hr := Option.some.inj hr; subst hr
                  exact mV_iret rfl rfl f7_change_94 hQ
                · rw [if_neg h35] at hr
                  refine mV_aload f7_change_86 rfl ?_
                  refine mV_iload f7_change_87 rfl ?_
                  refine mV_putI f7_change_88 ha.l0 ha.1.2.1 rfl rfl ?_
                  refine mV_push f7_change_91 ?_
                  have hr := Option.some.inj hr; subst hr
                  exact mV_iret rfl rfl f7_change_92 hQ
            · rw [if_pos h33] at hr
              refine mV_iload f7_change_61 rfl ?_
              refine mV_push f7_change_62 ?_
              refine mV_icmp_gt f7_change_64 (fun h36 => ?_) (fun h36 => ?_)
              · rw [if_pos h36] at hr
                refine mV_iload f7_change_74 rfl ?_
                refine mV_push f7_change_75 ?_
                refine mV_icmp_ne f7_change_77 (fun h37 => ?_) (fun h37 => ?_)
                · rw [if_neg h37] at hr
                  refine mV_push f7_change_93 ?_
                  have hr := Option.some.inj hr; subst hr
                  exact mV_iret rfl rfl f7_change_94 hQ
                · rw [if_pos h37] at hr
                  refine mV_iload f7_change_80 rfl ?_
                  refine mV_push f7_change_81 ?_
                  refine mV_icmp_gt f7_change_83 (fun h38 => ?_) (fun h38 => ?_)
                  · rw [if_pos h38] at hr
                    refine mV_push f7_change_93 ?_
                    have hr := Option.some.inj hr; subst hr
                    exact mV_iret rfl rfl f7_change_94 hQ
                  · rw [if_neg h38] at hr
                    refine mV_aload f7_change_86 rfl ?_
                    refine mV_iload f7_change_87 rfl ?_
                    refine mV_putI f7_change_88 ha.l0 ha.1.2.1 rfl rfl ?_
                    refine mV_push f7_change_91 ?_
                    have hr := Option.some.inj hr; subst hr
                    exact mV_iret rfl rfl f7_change_92 hQ
              · rw [if_neg h36] at hr
                refine mV_aload f7_change_67 rfl ?_
                refine mV_iload f7_change_68 rfl ?_
                refine mV_putI f7_change_69 ha.l0 ha.1.2.1 rfl rfl ?_
                refine mV_push f7_change_72 ?_
                have hr := Option.some.inj hr; subst hr
                exact mV_iret rfl rfl f7_change_73 hQ
          · rw [if_pos h32] at hr
            refine mV_iload f7_change_41 rfl ?_
            refine mV_push f7_change_42 ?_
            refine mV_icmp_gt f7_change_45 (fun h39 => ?_) (fun h39 => ?_)
            · rw [if_pos h39] at hr
              refine mV_iload f7_change_55 rfl ?_
              refine mV_push f7_change_56 ?_
              refine mV_icmp_ne f7_change_58 (fun h40 => ?_) (fun h40 => ?_)
              · rw [if_neg h40] at hr
                refine mV_iload f7_change_74 rfl ?_
                refine mV_push f7_change_75 ?_
                refine mV_icmp_ne f7_change_77 (fun h41 => ?_) (fun h41 => ?_)
                · rw [if_neg h41] at hr
                  refine mV_push f7_change_93 ?_
                  have hr := Option.some.inj hr; subst hr
                  exact mV_iret rfl rfl f7_change_94 hQ
                · rw [if_pos h41] at hr
                  refine mV_iload f7_change_80 rfl ?_
                  refine mV_push f7_change_81 ?_
                  refine mV_icmp_gt f7_change_83 (fun h42 => ?_) (fun h42 => ?_)
                  · rw [if_pos h42] at hr
                    refine mV_push f7_change_93 ?_
                    have hr := Option.some.inj hr; subst hr
                    exact mV_iret rfl rfl f7_change_94 hQ
                  · rw [if_neg h42] at hr
                    refine mV_aload f7_change_86 rfl ?_
                    refine mV_iload f7_change_87 rfl ?_
                    refine mV_putI f7_change_88 ha.l0 ha.1.2.1 rfl rfl ?_
                    refine mV_push f7_change_91 ?_
                    have hr := Option.some.inj hr; subst hr
                    exact mV_iret rfl rfl f7_change_92 hQ
              · rw [if_pos h40] at hr
                refine mV_iload f7_change_61 rfl ?_
                refine mV_push f7_change_62 ?_
                refine mV_icmp_gt f7_change_64 (fun h43 => ?_) (fun h43 => ?_)
                · rw [if_pos h43] at hr
                  refine mV_iload f7_change_74 rfl ?_
                  refine mV_push f7_change_75 ?_
                  refine mV_icmp_ne f7_change_77 (fun h44 => ?_) (fun h44 => ?_)
                  · rw [if_neg h44] at hr
                    refine mV_push f7_change_93 ?_
                    have hr := Option.some.inj hr; subst hr
                    exact mV_iret rfl rfl f7_change_94 hQ
                  · rw [if_pos h44] at hr
                    refine mV_iload f7_change_80 rfl ?_
                    refine mV_push f7_change_81 ?_
                    refine mV_icmp_gt f7_change_83 (fun h45 => ?_) (fun h45 => ?_)
                    · rw [if_pos h45] at hr
                      refine mV_push f7_change_93 ?_
                      have hr := Option.some.inj hr; subst hr
                      exact mV_iret rfl rfl f7_change_94 hQ
                    · rw [if_neg h45] at hr
                      refine mV_aload f7_change_86 rfl ?_
                      refine mV_iload f7_change_87 rfl ?_
                      refine mV_putI f7_change_88 ha.l0 ha.1.2.1 rfl rfl ?_
                      refine mV_push f7_change_91 ?_
                      have hr := Option.some.inj hr; subst hr
                      exact mV_iret rfl rfl f7_change_92 hQ
                · rw [if_neg h43] at hr
                  refine mV_aload f7_change_67 rfl ?_
                  refine mV_iload f7_change_68 rfl ?_
                  refine mV_putI f7_change_69 ha.l0 ha.1.2.1 rfl rfl ?_
                  refine mV_push f7_change_72 ?_
                  have hr := Option.some.inj hr; subst hr
                  exact mV_iret rfl rfl f7_change_73 hQ
            · rw [if_neg h39] at hr
              refine mV_aload f7_change_48 rfl ?_
              refine mV_iload f7_change_49 rfl ?_
              refine mV_putI f7_change_50 ha.l0 ha.1.2.1 rfl rfl ?_
              refine mV_push f7_change_53 ?_
              have hr := Option.some.inj hr; subst hr
              exact mV_iret rfl rfl f7_change_54 hQ
        · rw [if_neg h31] at hr
          refine mV_iload f7_change_21 rfl ?_
          refine mV_push f7_change_22 ?_
          refine mV_icmp_gt f7_change_24 (fun h46 => ?_) (fun h46 => ?_)
          · rw [if_pos h46] at hr
            refine mV_iload f7_change_36 rfl ?_
            refine mV_push f7_change_37 ?_
            refine mV_icmp_ne f7_change_38 (fun h47 => ?_) (fun h47 => ?_)
            · rw [if_neg h47] at hr
              refine mV_iload f7_change_55 rfl ?_
              refine mV_push f7_change_56 ?_
              refine mV_icmp_ne f7_change_58 (fun h48 => ?_) (fun h48 => ?_)
              · rw [if_neg h48] at hr
                refine mV_iload f7_change_74 rfl ?_
                refine mV_push f7_change_75 ?_
                refine mV_icmp_ne f7_change_77 (fun h49 => ?_) (fun h49 => ?_)
                · rw [if_neg h49] at hr
                  refine mV_push f7_change_93 ?_
                  have hr := Option.some.inj hr; subst hr
                  exact mV_iret rfl rfl f7_change_94 hQ
                · rw [if_pos h49] at hr
                  refine mV_iload f7_change_80 rfl ?_
                  refine mV_push f7_change_81 ?_
                  refine mV_icmp_gt f7_change_83 (fun h50 => ?_) (fun h50 => ?_)
                  · rw [if_pos h50] at hr
                    refine mV_push f7_change_93 ?_
                    have hr := Option.some.inj hr; subst hr
                    exact mV_iret rfl rfl f7_change_94 hQ
                  · rw [if_neg h50] at hr
                    refine mV_aload f7_change_86 rfl ?_
                    refine mV_iload f7_change_87 rfl ?_
                    refine mV_putI f7_change_88 ha.l0 ha.1.2.1 rfl rfl ?_
                    refine mV_push f7_change_91 ?_
                    have hr := Option.some.inj hr; subst hr
                    exact mV_iret rfl rfl f7_change_92 hQ
              · rw [if_pos h48] at hr
                refine mV_iload f7_change_61 rfl ?_
                refine mV_push f7_change_62 ?_
                refine mV_icmp_gt f7_change_64 (fun h51 => ?_) (fun h51 => ?_)
                · rw [if_pos h51] at hr
                  refine mV_iload f7_change_74 rfl ?_
                  refine mV_push f7_change_75 ?_
                  refine mV_icmp_ne f7_change_77 (fun h52 => ?_) (fun h52 => ?_)
                  · rw [if_neg h52] at hr
                    refine mV_push f7_change_93 ?_
                    have hr := Option.some.inj hr; subst hr
                    exact mV_iret rfl rfl f7_change_94 hQ
                  · rw [if_pos h52] at hr
                    refine mV_iload f7_change_80 rfl ?_
                    refine mV_push f7_change_81 ?_
                    refine mV_icmp_gt f7_change_83 (fun h53 => ?_) (fun h53 => ?_)
                    · rw [if_pos h53] at hr
                      refine mV_push f7_change_93 ?_
                      have hr := Option.some.inj hr; subst hr
                      exact mV_iret rfl rfl f7_change_94 hQ
                    · rw [if_neg h53] at hr
                      refine mV_aload f7_change_86 rfl ?_
                      refine mV_iload f7_change_87 rfl ?_
                      refine mV_putI f7_change_88 ha.l0 ha.1.2.1 rfl rfl ?_
                      refine mV_push f7_change_91 ?_
                      have hr := Option.some.inj hr; subst hr
                      exact mV_iret rfl rfl f7_change_92 hQ
                · rw [if_neg h51] at hr
                  refine mV_aload f7_change_67 rfl ?_
                  refine mV_iload f7_change_68 rfl ?_
                  refine mV_putI f7_change_69 ha.l0 ha.1.2.1 rfl rfl ?_
                  refine mV_push f7_change_72 ?_
                  have hr := Option.some.inj hr; subst hr
                  exact mV_iret rfl rfl f7_change_73 hQ
            · rw [if_pos h47] at hr
              refine mV_iload f7_change_41 rfl ?_
              refine mV_push f7_change_42 ?_
              refine mV_icmp_gt f7_change_45 (fun h54 => ?_) (fun h54 => ?_)
              · rw [if_pos h54] at hr
                refine mV_iload f7_change_55 rfl ?_
                refine mV_push f7_change_56 ?_
                refine mV_icmp_ne f7_change_58 (fun h55 => ?_) (fun h55 => ?_)
                · rw [if_neg h55] at hr
                  refine mV_iload f7_change_74 rfl ?_
                  refine mV_push f7_change_75 ?_
                  refine mV_icmp_ne f7_change_77 (fun h56 => ?_) (fun h56 => ?_)
                  · rw [if_neg h56] at hr
                    refine mV_push f7_change_93 ?_
                    have hr := Option.some.inj hr; subst hr
                    exact mV_iret rfl rfl f7_change_94 hQ
                  · rw [if_pos h56] at hr
                    refine mV_iload f7_change_80 rfl ?_
                    refine mV_push f7_change_81 ?_
                    refine mV_icmp_gt f7_change_83 (fun h57 => ?_) (fun h57 => ?_)
                    · rw [if_pos h57] at hr
                      refine mV_push f7_change_93 ?_
                      have hr := Option.some.inj hr; subst hr
                      exact mV_iret rfl rfl f7_change_94 hQ
                    · rw [if_neg h57] at hr
                      refine mV_aload f7_change_86 rfl ?_
                      refine mV_iload f7_change_87 rfl ?_
                      refine mV_putI f7_change_88 ha.l0 ha.1.2.1 rfl rfl ?_
                      refine mV_push f7_change_91 ?_
                      have hr := Option.some.inj hr; subst hr
                      exact mV_iret rfl rfl f7_change_92 hQ
                · rw [if_pos h55] at hr
                  refine mV_iload f7_change_61 rfl ?_
                  refine mV_push f7_change_62 ?_
                  refine mV_icmp_gt f7_change_64 (fun h58 => ?_) (fun h58 => ?_)
                  · rw [if_pos h58] at hr
                    refine mV_iload f7_change_74 rfl ?_
                    refine mV_push f7_change_75 ?_
                    refine mV_icmp_ne f7_change_77 (fun h59 => ?_) (fun h59 => ?_)
                    · rw [if_neg h59] at hr
                      refine mV_push f7_change_93 ?_
                      have hr := Option.some.inj hr; subst hr
                      exact mV_iret rfl rfl f7_change_94 hQ
                    · rw [if_pos h59] at hr
                      refine mV_iload f7_change_80 rfl ?_
                      refine mV_push f7_change_81 ?_
                      refine mV_icmp_gt f7_change_83 (fun h60 => ?_) (fun h60 => ?_)
                      · rw [if_pos h60] at hr
                        refine mV_push f7_change_93 ?_
                        have hr := Option.some.inj hr; subst hr
                        exact mV_iret rfl rfl f7_change_94 hQ
                      · rw [if_neg h60] at hr
                        refine mV_aload f7_change_86 rfl ?_
                        refine mV_iload f7_change_87 rfl ?_
                        refine mV_putI f7_change_88 ha.l0 ha.1.2.1 rfl rfl ?_
                        refine mV_push f7_change_91 ?_
                        have hr := Option.some.inj hr; subst hr
                        exact mV_iret rfl rfl f7_change_92 hQ
                  · rw [if_neg h58] at hr
                    refine mV_aload f7_change_67 rfl ?_
                    refine mV_iload f7_change_68 rfl ?_
                    refine mV_putI f7_change_69 ha.l0 ha.1.2.1 rfl rfl ?_
                    refine mV_push f7_change_72 ?_
                    have hr := Option.some.inj hr; subst hr
                    exact mV_iret rfl rfl f7_change_73 hQ
              · rw [if_neg h54] at hr
                refine mV_aload f7_change_48 rfl ?_
                refine mV_iload f7_change_49 rfl ?_
                refine mV_putI f7_change_50 ha.l0 ha.1.2.1 rfl rfl ?_
                refine mV_push f7_change_53 ?_
                have hr := Option.some.inj hr; subst hr
                exact mV_iret rfl rfl f7_change_54 hQ
          · rw [if_neg h46] at hr
            refine mV_aload f7_change_27 rfl ?_
            refine mV_getP f7_change_28 ha.l0 ha.1.2.1 rfl (ha.p3 _) ?_
            refine mV_iload f7_change_31 rfl ?_
            refine mV_iload f7_change_32 rfl ?_
            obtain ⟨z0, hz0, hr⟩ := mBind hr
            refine mV_stO f7_change_33 (ha.l (by decide)) ha.1.2.2.2.2.2 hz0 ?_
            refine mV_push f7_change_34 ?_
            have hr := Option.some.inj hr; subst hr
            exact mV_iret rfl rfl f7_change_35 hQ
  · rw [if_neg h0] at hr
    refine mV_push f7_change_4 ?_
    have hr := Option.some.inj hr; subst hr
    exact mV_iret rfl rfl f7_change_5 hQ
theorem c7_change (X : Nat × (Nat → Int32)) (I : mI) (s : Nat) (a : Nat) (ha : mStg a) (x0 : Int32) (x1 : Int32) (x2 : Int32) {res : Int32 × mI} (hr : r7_change I a x0 x1 x2 = some res) : mC X m7_change 0 0 0 [.ref a, .int x0, .int x1, .int x2] NN KK I (PP s) (mRet (some (.int res.1)) NN KK res.2 (PP s)) :=
  mC_of (L0 := [.ref a, .int x0, .int x1, .int x2]) rfl (Nat.le_of_ble_eq_true rfl) (w7_change X I s a ha x0 x1 x2 _ hr (mRet_ok _ _ _ _ _))
def r9_set (I : mI) (x0 : Int32) (x1 : Int32) (x2 : Int32) : Option (Int32 × mI) := (if (3 : Int32) < (x0 : Int32) then (r7_change I 3 x0 x1 x2).bind fun z1 => some (z1.1, z1.2) else (r0_change I x0 x1 x2).bind fun z2 => some (z2.1, z2.2) : Option (Int32 × mI)).bind fun z0 => (if (z0.1 : Int32) = (0 : Int32) then some z0.2 else (r3_forget z0.2).bind fun z4 => some z4 : Option (mI)).bind fun z3 => some ((z0.1 &&& 1), z3)
set_option maxHeartbeats 4000000 in
set_option maxRecDepth 100000 in
theorem w9_set (X : Nat × (Nat → Int32)) (I : mI) (s : Nat) (x0 : Int32) (x1 : Int32) (x2 : Int32) (Q : mQ) {res : Int32 × mI} (hr : r9_set I x0 x1 x2 = some res) (hQ : Q (some (.int res.1)) NN KK res.2 (PP s)) : mV X m9_set 2 0 0 0 [.ref 0, .int x0, .int x1, .int x2, mX0] [] NN KK I (PP s) Q := by
  unfold r9_set at hr
  refine mV_iload f9_set_0 rfl ?_
  refine mV_push f9_set_1 ?_
  obtain ⟨z0, hz0, hr⟩ := mBind hr
  have keyz0 : mV X m9_set 2 0 0 34 [.ref 0, mX0, mX0, mX0, mX0] [.int z0.1] NN KK z0.2 (PP s) Q := by
    refine mV_istore (L' := [.ref 0, mX0, mX0, mX0, .int z0.1]) f9_set_34 (by decide) rfl rfl ?_
    refine mV_iload f9_set_36 rfl ?_
    obtain ⟨z3, hz3, hr⟩ := mBind hr
    have keyz3 : mV X m9_set 2 0 0 48 [.ref 0, mX0, mX0, mX0, .int z0.1] [] NN KK z3 (PP s) Q := by
      refine mV_iload f9_set_48 rfl ?_
      have hr := Option.some.inj hr; subst hr
      exact mV_zret rfl f9_set_50 hQ
    clear hr
    have hr := hz3
    clear hz3
    refine mV_if_eq f9_set_38 (fun h1 => ?_) (fun h1 => ?_)
    · rw [if_pos h1] at hr
      have hr := Option.some.inj hr; subst hr
      exact keyz3
    · rw [if_neg h1] at hr
      refine mV_aload f9_set_41 rfl ?_
      refine mV_getP f9_set_42 (by decide) kk_0 rfl (pp_0_4 _) ?_
      obtain ⟨z4, hz4, hr⟩ := mBind hr
      refine mV_cV f9_set_45 tg_m3_forget mCls3 (by decide) kk_77 (mC_deep (c3_forget X z0.2 s hz4) (by decide)) rfl rfl (Nat.le_of_ble_eq_true rfl) ?_
      have hr := Option.some.inj hr; subst hr
      exact keyz3
  clear hr
  have hr := hz0
  clear hz0
  refine mV_icmp_gt f9_set_2 (fun h0 => ?_) (fun h0 => ?_)
  · rw [if_pos h0] at hr
    refine mV_aload f9_set_21 rfl ?_
    refine mV_getP f9_set_22 (by decide) kk_0 rfl (pp_0_1 _) ?_
    refine mV_getP f9_set_25 (by decide) kk_2 rfl (pp_2_0 _) ?_
    refine mV_iload f9_set_28 rfl ?_
    refine mV_iload f9_set_29 rfl ?_
    refine mV_iload f9_set_30 rfl ?_
    obtain ⟨z1, hz1, hr⟩ := mBind hr
    refine mV_cV f9_set_31 tg_m7_change mCls7 (by decide) kk_3 (mC_deep (c7_change X I s 3 mStg_3 x0 x1 x2 hz1) (by decide)) rfl rfl (Nat.le_of_ble_eq_true rfl) ?_
    have hr := Option.some.inj hr; subst hr
    refine mV_drop (L' := [.ref 0, mX0, mX0, mX0, mX0]) (mSub_k (mSub_x (mSub_x (mSub_x (mSub_x mSub_n))))) ?_
    exact keyz0
  · rw [if_neg h0] at hr
    refine mV_aload f9_set_5 rfl ?_
    refine mV_getP f9_set_6 (by decide) kk_0 rfl (pp_0_1 _) ?_
    refine mV_getP f9_set_9 (by decide) kk_2 rfl (pp_2_1 _) ?_
    refine mV_iload f9_set_12 rfl ?_
    refine mV_iload f9_set_13 rfl ?_
    refine mV_iload f9_set_14 rfl ?_
    obtain ⟨z2, hz2, hr⟩ := mBind hr
    refine mV_cV f9_set_15 tg_m0_change mCls0 (by decide) kk_8 (mC_deep (c0_change X I s x0 x1 x2 hz2) (by decide)) rfl rfl (Nat.le_of_ble_eq_true rfl) ?_
    refine mV_goto f9_set_18 ?_
    have hr := Option.some.inj hr; subst hr
    refine mV_drop (L' := [.ref 0, mX0, mX0, mX0, mX0]) (mSub_k (mSub_x (mSub_x (mSub_x (mSub_x mSub_n))))) ?_
    exact keyz0
theorem c9_set (X : Nat × (Nat → Int32)) (I : mI) (s : Nat) (x0 : Int32) (x1 : Int32) (x2 : Int32) {res : Int32 × mI} (hr : r9_set I x0 x1 x2 = some res) : mC X m9_set 2 0 0 [.ref 0, .int x0, .int x1, .int x2] NN KK I (PP s) (mRet (some (.int res.1)) NN KK res.2 (PP s)) :=
  mC_of (L0 := [.ref 0, .int x0, .int x1, .int x2, mX0]) rfl (Nat.le_of_ble_eq_true rfl) (w9_set X I s x0 x1 x2 _ hr (mRet_ok _ _ _ _ _))
def r0_knows (I : mI) (x0 : Int32) (x1 : Int32) : Int32 := if ((r0_hasPlayer I x0) : Int32) = (0 : Int32) then 0 else if ((r0_hasPiece I x1) : Int32) = (0 : Int32) then 0 else 1
set_option maxHeartbeats 4000000 in
set_option maxRecDepth 100000 in
theorem w0_knows (X : Nat × (Nat → Int32)) (I : mI) (s : Nat) (x0 : Int32) (x1 : Int32) (Q : mQ) {res : Int32} (hr : r0_knows I x0 x1 = res) (hQ : Q (some (.int res)) NN KK I (PP s)) : mV X m0_knows 1 0 0 0 [.ref 8, .int x0, .int x1] [] NN KK I (PP s) Q := by
  unfold r0_knows at hr
  refine mV_aload f0_knows_0 rfl ?_
  refine mV_iload f0_knows_1 rfl ?_
  refine mV_cV f0_knows_2 tg_m0_hasPlayer mCls0 (by decide) kk_8 (mC_deep (c0_hasPlayer X I s x0 rfl) (by decide)) rfl rfl (Nat.le_of_ble_eq_true rfl) ?_
  refine mV_if_eq f0_knows_5 (fun h0 => ?_) (fun h0 => ?_)
  · rw [if_pos h0] at hr
    refine mV_push f0_knows_20 ?_
    subst hr
    exact mV_iret rfl rfl f0_knows_21 hQ
  · rw [if_neg h0] at hr
    refine mV_aload f0_knows_8 rfl ?_
    refine mV_iload f0_knows_9 rfl ?_
    refine mV_cV f0_knows_10 tg_m0_hasPiece mCls0 (by decide) kk_8 (mC_deep (c0_hasPiece X I s x1 rfl) (by decide)) rfl rfl (Nat.le_of_ble_eq_true rfl) ?_
    refine mV_if_eq f0_knows_13 (fun h1 => ?_) (fun h1 => ?_)
    · rw [if_pos h1] at hr
      refine mV_push f0_knows_20 ?_
      subst hr
      exact mV_iret rfl rfl f0_knows_21 hQ
    · rw [if_neg h1] at hr
      refine mV_push f0_knows_16 ?_
      refine mV_goto f0_knows_17 ?_
      subst hr
      exact mV_iret rfl rfl f0_knows_21 hQ
theorem c0_knows (X : Nat × (Nat → Int32)) (I : mI) (s : Nat) (x0 : Int32) (x1 : Int32) {res : Int32} (hr : r0_knows I x0 x1 = res) : mC X m0_knows 1 0 0 [.ref 8, .int x0, .int x1] NN KK I (PP s) (mRet (some (.int res)) NN KK I (PP s)) :=
  mC_of (L0 := [.ref 8, .int x0, .int x1]) rfl (Nat.le_of_ble_eq_true rfl) (w0_knows X I s x0 x1 _ hr (mRet_ok _ _ _ _ _))
def r7_copyFrom (I : mI) (a : Nat) (b : Nat) : Option (mI) := (mCpO I (b + 1) 12 (a + 1) 12 0 0 12).bind fun z0 => (mCpO z0 (b + 2) 12 (a + 2) 12 0 0 12).bind fun z1 => (mCpO z1 (b + 3) 6 (a + 3) 6 0 0 6).bind fun z2 => (mCpO z2 (b + 4) 8 (a + 4) 8 0 0 8).bind fun z3 => some (mW (mW (mW (mW (mW (mW (mW (mW (mW z3 a 4 (z3 b 4)) a 5 ((mW z3 a 4 (z3 b 4)) b 5)) a 6 ((mW (mW z3 a 4 (z3 b 4)) a 5 ((mW z3 a 4 (z3 b 4)) b 5)) b 6)) a 7 ((mW (mW (mW z3 a 4 (z3 b 4)) a 5 ((mW z3 a 4 (z3 b 4)) b 5)) a 6 ((mW (mW z3 a 4 (z3 b 4)) a 5 ((mW z3 a 4 (z3 b 4)) b 5)) b 6)) b 7)) a 8 ((mW (mW (mW (mW z3 a 4 (z3 b 4)) a 5 ((mW z3 a 4 (z3 b 4)) b 5)) a 6 ((mW (mW z3 a 4 (z3 b 4)) a 5 ((mW z3 a 4 (z3 b 4)) b 5)) b 6)) a 7 ((mW (mW (mW z3 a 4 (z3 b 4)) a 5 ((mW z3 a 4 (z3 b 4)) b 5)) a 6 ((mW (mW z3 a 4 (z3 b 4)) a 5 ((mW z3 a 4 (z3 b 4)) b 5)) b 6)) b 7)) b 8)) a 9 ((mW (mW (mW (mW (mW z3 a 4 (z3 b 4)) a 5 ((mW z3 a 4 (z3 b 4)) b 5)) a 6 ((mW (mW z3 a 4 (z3 b 4)) a 5 ((mW z3 a 4 (z3 b 4)) b 5)) b 6)) a 7 ((mW (mW (mW z3 a 4 (z3 b 4)) a 5 ((mW z3 a 4 (z3 b 4)) b 5)) a 6 ((mW (mW z3 a 4 (z3 b 4)) a 5 ((mW z3 a 4 (z3 b 4)) b 5)) b 6)) b 7)) a 8 ((mW (mW (mW (mW z3 a 4 (z3 b 4)) a 5 ((mW z3 a 4 (z3 b 4)) b 5)) a 6 ((mW (mW z3 a 4 (z3 b 4)) a 5 ((mW z3 a 4 (z3 b 4)) b 5)) b 6)) a 7 ((mW (mW (mW z3 a 4 (z3 b 4)) a 5 ((mW z3 a 4 (z3 b 4)) b 5)) a 6 ((mW (mW z3 a 4 (z3 b 4)) a 5 ((mW z3 a 4 (z3 b 4)) b 5)) b 6)) b 7)) b 8)) b 9)) a 10 ((mW (mW (mW (mW (mW (mW z3 a 4 (z3 b 4)) a 5 ((mW z3 a 4 (z3 b 4)) b 5)) a 6 ((mW (mW z3 a 4 (z3 b 4)) a 5 ((mW z3 a 4 (z3 b 4)) b 5)) b 6)) a 7 ((mW (mW (mW z3 a 4 (z3 b 4)) a 5 ((mW z3 a 4 (z3 b 4)) b 5)) a 6 ((mW (mW z3 a 4 (z3 b 4)) a 5 ((mW z3 a 4 (z3 b 4)) b 5)) b 6)) b 7)) a 8 ((mW (mW (mW (mW z3 a 4 (z3 b 4)) a 5 ((mW z3 a 4 (z3 b 4)) b 5)) a 6 ((mW (mW z3 a 4 (z3 b 4)) a 5 ((mW z3 a 4 (z3 b 4)) b 5)) b 6)) a 7 ((mW (mW (mW z3 a 4 (z3 b 4)) a 5 ((mW z3 a 4 (z3 b 4)) b 5)) a 6 ((mW (mW z3 a 4 (z3 b 4)) a 5 ((mW z3 a 4 (z3 b 4)) b 5)) b 6)) b 7)) b 8)) a 9 ((mW (mW (mW (mW (mW z3 a 4 (z3 b 4)) a 5 ((mW z3 a 4 (z3 b 4)) b 5)) a 6 ((mW (mW z3 a 4 (z3 b 4)) a 5 ((mW z3 a 4 (z3 b 4)) b 5)) b 6)) a 7 ((mW (mW (mW z3 a 4 (z3 b 4)) a 5 ((mW z3 a 4 (z3 b 4)) b 5)) a 6 ((mW (mW z3 a 4 (z3 b 4)) a 5 ((mW z3 a 4 (z3 b 4)) b 5)) b 6)) b 7)) a 8 ((mW (mW (mW (mW z3 a 4 (z3 b 4)) a 5 ((mW z3 a 4 (z3 b 4)) b 5)) a 6 ((mW (mW z3 a 4 (z3 b 4)) a 5 ((mW z3 a 4 (z3 b 4)) b 5)) b 6)) a 7 ((mW (mW (mW z3 a 4 (z3 b 4)) a 5 ((mW z3 a 4 (z3 b 4)) b 5)) a 6 ((mW (mW z3 a 4 (z3 b 4)) a 5 ((mW z3 a 4 (z3 b 4)) b 5)) b 6)) b 7)) b 8)) b 9)) b 10)) a 11 ((mW (mW (mW (mW (mW (mW (mW z3 a 4 (z3 b 4)) a 5 ((mW z3 a 4 (z3 b 4)) b 5)) a 6 ((mW (mW z3 a 4 (z3 b 4)) a 5 ((mW z3 a 4 (z3 b 4)) b 5)) b 6)) a 7 ((mW (mW (mW z3 a 4 (z3 b 4)) a 5 ((mW z3 a 4 (z3 b 4)) b 5)) a 6 ((mW (mW z3 a 4 (z3 b 4)) a 5 ((mW z3 a 4 (z3 b 4)) b 5)) b 6)) b 7)) a 8 ((mW (mW (mW (mW z3 a 4 (z3 b 4)) a 5 ((mW z3 a 4 (z3 b 4)) b 5)) a 6 ((mW (mW z3 a 4 (z3 b 4)) a 5 ((mW z3 a 4 (z3 b 4)) b 5)) b 6)) a 7 ((mW (mW (mW z3 a 4 (z3 b 4)) a 5 ((mW z3 a 4 (z3 b 4)) b 5)) a 6 ((mW (mW z3 a 4 (z3 b 4)) a 5 ((mW z3 a 4 (z3 b 4)) b 5)) b 6)) b 7)) b 8)) a 9 ((mW (mW (mW (mW (mW z3 a 4 (z3 b 4)) a 5 ((mW z3 a 4 (z3 b 4)) b 5)) a 6 ((mW (mW z3 a 4 (z3 b 4)) a 5 ((mW z3 a 4 (z3 b 4)) b 5)) b 6)) a 7 ((mW (mW (mW z3 a 4 (z3 b 4)) a 5 ((mW z3 a 4 (z3 b 4)) b 5)) a 6 ((mW (mW z3 a 4 (z3 b 4)) a 5 ((mW z3 a 4 (z3 b 4)) b 5)) b 6)) b 7)) a 8 ((mW (mW (mW (mW z3 a 4 (z3 b 4)) a 5 ((mW z3 a 4 (z3 b 4)) b 5)) a 6 ((mW (mW z3 a 4 (z3 b 4)) a 5 ((mW z3 a 4 (z3 b 4)) b 5)) b 6)) a 7 ((mW (mW (mW z3 a 4 (z3 b 4)) a 5 ((mW z3 a 4 (z3 b 4)) b 5)) a 6 ((mW (mW z3 a 4 (z3 b 4)) a 5 ((mW z3 a 4 (z3 b 4)) b 5)) b 6)) b 7)) b 8)) b 9)) a 10 ((mW (mW (mW (mW (mW (mW z3 a 4 (z3 b 4)) a 5 ((mW z3 a 4 (z3 b 4)) b 5)) a 6 ((mW (mW z3 a 4 (z3 b 4)) a 5 ((mW z3 a 4 (z3 b 4)) b 5)) b 6)) a 7 ((mW (mW (mW z3 a 4 (z3 b 4)) a 5 ((mW z3 a 4 (z3 b 4)) b 5)) a 6 ((mW (mW z3 a 4 (z3 b 4)) a 5 ((mW z3 a 4 (z3 b 4)) b 5)) b 6)) b 7)) a 8 ((mW (mW (mW (mW z3 a 4 (z3 b 4)) a 5 ((mW z3 a 4 (z3 b 4)) b 5)) a 6 ((mW (mW z3 a 4 (z3 b 4)) a 5 ((mW z3 a 4 (z3 b 4)) b 5)) b 6)) a 7 ((mW (mW (mW z3 a 4 (z3 b 4)) a 5 ((mW z3 a 4 (z3 b 4)) b 5)) a 6 ((mW (mW z3 a 4 (z3 b 4)) a 5 ((mW z3 a 4 (z3 b 4)) b 5)) b 6)) b 7)) b 8)) a 9 ((mW (mW (mW (mW (mW z3 a 4 (z3 b 4)) a 5 ((mW z3 a 4 (z3 b 4)) b 5)) a 6 ((mW (mW z3 a 4 (z3 b 4)) a 5 ((mW z3 a 4 (z3 b 4)) b 5)) b 6)) a 7 ((mW (mW (mW z3 a 4 (z3 b 4)) a 5 ((mW z3 a 4 (z3 b 4)) b 5)) a 6 ((mW (mW z3 a 4 (z3 b 4)) a 5 ((mW z3 a 4 (z3 b 4)) b 5)) b 6)) b 7)) a 8 ((mW (mW (mW (mW z3 a 4 (z3 b 4)) a 5 ((mW z3 a 4 (z3 b 4)) b 5)) a 6 ((mW (mW z3 a 4 (z3 b 4)) a 5 ((mW z3 a 4 (z3 b 4)) b 5)) b 6)) a 7 ((mW (mW (mW z3 a 4 (z3 b 4)) a 5 ((mW z3 a 4 (z3 b 4)) b 5)) a 6 ((mW (mW z3 a 4 (z3 b 4)) a 5 ((mW z3 a 4 (z3 b 4)) b 5)) b 6)) b 7)) b 8)) b 9)) b 10)) b 11)) a 12 ((mW (mW (mW (mW (mW (mW (mW (mW z3 a 4 (z3 b 4)) a 5 ((mW z3 a 4 (z3 b 4)) b 5)) a 6 ((mW (mW z3 a 4 (z3 b 4)) a 5 ((mW z3 a 4 (z3 b 4)) b 5)) b 6)) a 7 ((mW (mW (mW z3 a 4 (z3 b 4)) a 5 ((mW z3 a 4 (z3 b 4)) b 5)) a 6 ((mW (mW z3 a 4 (z3 b 4)) a 5 ((mW z3 a 4 (z3 b 4)) b 5)) b 6)) b 7)) a 8 ((mW (mW (mW (mW z3 a 4 (z3 b 4)) a 5 ((mW z3 a 4 (z3 b 4)) b 5)) a 6 ((mW (mW z3 a 4 (z3 b 4)) a 5 ((mW z3 a 4 (z3 b 4)) b 5)) b 6)) a 7 ((mW (mW (mW z3 a 4 (z3 b 4)) a 5 ((mW z3 a 4 (z3 b 4)) b 5)) a 6 ((mW (mW z3 a 4 (z3 b 4)) a 5 ((mW z3 a 4 (z3 b 4)) b 5)) b 6)) b 7)) b 8)) a 9 ((mW (mW (mW (mW (mW z3 a 4 (z3 b 4)) a 5 ((mW z3 a 4 (z3 b 4)) b 5)) a 6 ((mW (mW z3 a 4 (z3 b 4)) a 5 ((mW z3 a 4 (z3 b 4)) b 5)) b 6)) a 7 ((mW (mW (mW z3 a 4 (z3 b 4)) a 5 ((mW z3 a 4 (z3 b 4)) b 5)) a 6 ((mW (mW z3 a 4 (z3 b 4)) a 5 ((mW z3 a 4 (z3 b 4)) b 5)) b 6)) b 7)) a 8 ((mW (mW (mW (mW z3 a 4 (z3 b 4)) a 5 ((mW z3 a 4 (z3 b 4)) b 5)) a 6 ((mW (mW z3 a 4 (z3 b 4)) a 5 ((mW z3 a 4 (z3 b 4)) b 5)) b 6)) a 7 ((mW (mW (mW z3 a 4 (z3 b 4)) a 5 ((mW z3 a 4 (z3 b 4)) b 5)) a 6 ((mW (mW z3 a 4 (z3 b 4)) a 5 ((mW z3 a 4 (z3 b 4)) b 5)) b 6)) b 7)) b 8)) b 9)) a 10 ((mW (mW (mW (mW (mW (mW z3 a 4 (z3 b 4)) a 5 ((mW z3 a 4 (z3 b 4)) b 5)) a 6 ((mW (mW z3 a 4 (z3 b 4)) a 5 ((mW z3 a 4 (z3 b 4)) b 5)) b 6)) a 7 ((mW (mW (mW z3 a 4 (z3 b 4)) a 5 ((mW z3 a 4 (z3 b 4)) b 5)) a 6 ((mW (mW z3 a 4 (z3 b 4)) a 5 ((mW z3 a 4 (z3 b 4)) b 5)) b 6)) b 7)) a 8 ((mW (mW (mW (mW z3 a 4 (z3 b 4)) a 5 ((mW z3 a 4 (z3 b 4)) b 5)) a 6 ((mW (mW z3 a 4 (z3 b 4)) a 5 ((mW z3 a 4 (z3 b 4)) b 5)) b 6)) a 7 ((mW (mW (mW z3 a 4 (z3 b 4)) a 5 ((mW z3 a 4 (z3 b 4)) b 5)) a 6 ((mW (mW z3 a 4 (z3 b 4)) a 5 ((mW z3 a 4 (z3 b 4)) b 5)) b 6)) b 7)) b 8)) a 9 ((mW (mW (mW (mW (mW z3 a 4 (z3 b 4)) a 5 ((mW z3 a 4 (z3 b 4)) b 5)) a 6 ((mW (mW z3 a 4 (z3 b 4)) a 5 ((mW z3 a 4 (z3 b 4)) b 5)) b 6)) a 7 ((mW (mW (mW z3 a 4 (z3 b 4)) a 5 ((mW z3 a 4 (z3 b 4)) b 5)) a 6 ((mW (mW z3 a 4 (z3 b 4)) a 5 ((mW z3 a 4 (z3 b 4)) b 5)) b 6)) b 7)) a 8 ((mW (mW (mW (mW z3 a 4 (z3 b 4)) a 5 ((mW z3 a 4 (z3 b 4)) b 5)) a 6 ((mW (mW z3 a 4 (z3 b 4)) a 5 ((mW z3 a 4 (z3 b 4)) b 5)) b 6)) a 7 ((mW (mW (mW z3 a 4 (z3 b 4)) a 5 ((mW z3 a 4 (z3 b 4)) b 5)) a 6 ((mW (mW z3 a 4 (z3 b 4)) a 5 ((mW z3 a 4 (z3 b 4)) b 5)) b 6)) b 7)) b 8)) b 9)) b 10)) a 11 ((mW (mW (mW (mW (mW (mW (mW z3 a 4 (z3 b 4)) a 5 ((mW z3 a 4 (z3 b 4)) b 5)) a 6 ((mW (mW z3 a 4 (z3 b 4)) a 5 ((mW z3 a 4 (z3 b 4)) b 5)) b 6)) a 7 ((mW (mW (mW z3 a 4 (z3 b 4)) a 5 ((mW z3 a 4 (z3 b 4)) b 5)) a 6 ((mW (mW z3 a 4 (z3 b 4)) a 5 ((mW z3 a 4 (z3 b 4)) b 5)) b 6)) b 7)) a 8 ((mW (mW (mW (mW z3 a 4 (z3 b 4)) a 5 ((mW z3 a 4 (z3 b 4)) b 5)) a 6 ((mW (mW z3 a 4 (z3 b 4)) a 5 ((mW z3 a 4 (z3 b 4)) b 5)) b 6)) a 7 ((mW (mW (mW z3 a 4 (z3 b 4)) a 5 ((mW z3 a 4 (z3 b 4)) b 5)) a 6 ((mW (mW z3 a 4 (z3 b 4)) a 5 ((mW z3 a 4 (z3 b 4)) b 5)) b 6)) b 7)) b 8)) a 9 ((mW (mW (mW (mW (mW z3 a 4 (z3 b 4)) a 5 ((mW z3 a 4 (z3 b 4)) b 5)) a 6 ((mW (mW z3 a 4 (z3 b 4)) a 5 ((mW z3 a 4 (z3 b 4)) b 5)) b 6)) a 7 ((mW (mW (mW z3 a 4 (z3 b 4)) a 5 ((mW z3 a 4 (z3 b 4)) b 5)) a 6 ((mW (mW z3 a 4 (z3 b 4)) a 5 ((mW z3 a 4 (z3 b 4)) b 5)) b 6)) b 7)) a 8 ((mW (mW (mW (mW z3 a 4 (z3 b 4)) a 5 ((mW z3 a 4 (z3 b 4)) b 5)) a 6 ((mW (mW z3 a 4 (z3 b 4)) a 5 ((mW z3 a 4 (z3 b 4)) b 5)) b 6)) a 7 ((mW (mW (mW z3 a 4 (z3 b 4)) a 5 ((mW z3 a 4 (z3 b 4)) b 5)) a 6 ((mW (mW z3 a 4 (z3 b 4)) a 5 ((mW z3 a 4 (z3 b 4)) b 5)) b 6)) b 7)) b 8)) b 9)) a 10 ((mW (mW (mW (mW (mW (mW z3 a 4 (z3 b 4)) a 5 ((mW z3 a 4 (z3 b 4)) b 5)) a 6 ((mW (mW z3 a 4 (z3 b 4)) a 5 ((mW z3 a 4 (z3 b 4)) b 5)) b 6)) a 7 ((mW (mW (mW z3 a 4 (z3 b 4)) a 5 ((mW z3 a 4 (z3 b 4)) b 5)) a 6 ((mW (mW z3 a 4 (z3 b 4)) a 5 ((mW z3 a 4 (z3 b 4)) b 5)) b 6)) b 7)) a 8 ((mW (mW (mW (mW z3 a 4 (z3 b 4)) a 5 ((mW z3 a 4 (z3 b 4)) b 5)) a 6 ((mW (mW z3 a 4 (z3 b 4)) a 5 ((mW z3 a 4 (z3 b 4)) b 5)) b 6)) a 7 ((mW (mW (mW z3 a 4 (z3 b 4)) a 5 ((mW z3 a 4 (z3 b 4)) b 5)) a 6 ((mW (mW z3 a 4 (z3 b 4)) a 5 ((mW z3 a 4 (z3 b 4)) b 5)) b 6)) b 7)) b 8)) a 9 ((mW (mW (mW (mW (mW z3 a 4 (z3 b 4)) a 5 ((mW z3 a 4 (z3 b 4)) b 5)) a 6 ((mW (mW z3 a 4 (z3 b 4)) a 5 ((mW z3 a 4 (z3 b 4)) b 5)) b 6)) a 7 ((mW (mW (mW z3 a 4 (z3 b 4)) a 5 ((mW z3 a 4 (z3 b 4)) b 5)) a 6 ((mW (mW z3 a 4 (z3 b 4)) a 5 ((mW z3 a 4 (z3 b 4)) b 5)) b 6)) b 7)) a 8 ((mW (mW (mW (mW z3 a 4 (z3 b 4)) a 5 ((mW z3 a 4 (z3 b 4)) b 5)) a 6 ((mW (mW z3 a 4 (z3 b 4)) a 5 ((mW z3 a 4 (z3 b 4)) b 5)) b 6)) a 7 ((mW (mW (mW z3 a 4 (z3 b 4)) a 5 ((mW z3 a 4 (z3 b 4)) b 5)) a 6 ((mW (mW z3 a 4 (z3 b 4)) a 5 ((mW z3 a 4 (z3 b 4)) b 5)) b 6)) b 7)) b 8)) b 9)) b 10)) b 11)) b 12))
set_option maxHeartbeats 4000000 in
set_option maxRecDepth 100000 in
theorem w7_copyFrom (X : Nat × (Nat → Int32)) (I : mI) (s : Nat) (a : Nat) (b : Nat) (ha : mStg a) (hb : mStg b) (Q : mQ) {res : mI} (hr : r7_copyFrom I a b = some res) (hQ : Q none NN KK res (PP s)) : mV X m7_copyFrom 1 0 0 0 [.ref a, .ref b] [] NN KK I (PP s) Q := by
  unfold r7_copyFrom at hr
  refine mV_aload f7_copyFrom_0 rfl ?_
  refine mV_getP f7_copyFrom_1 hb.l0 hb.1.2.1 rfl (hb.p0 _) ?_
  refine mV_push f7_copyFrom_4 ?_
  refine mV_aload f7_copyFrom_5 rfl ?_
  refine mV_getP f7_copyFrom_6 ha.l0 ha.1.2.1 rfl (ha.p0 _) ?_
  refine mV_push f7_copyFrom_9 ?_
  refine mV_push f7_copyFrom_10 ?_
  obtain ⟨z0, hz0, hr⟩ := mBind hr
  refine mV_cpO f7_copyFrom_12 (hb.l (by decide)) (ha.l (by decide)) hb.1.2.2.1 ha.1.2.2.1 hz0 (Nat.le_of_ble_eq_true rfl) ?_
  refine mV_aload f7_copyFrom_15 rfl ?_
  refine mV_getP f7_copyFrom_16 hb.l0 hb.1.2.1 rfl (hb.p1 _) ?_
  refine mV_push f7_copyFrom_19 ?_
  refine mV_aload f7_copyFrom_20 rfl ?_
  refine mV_getP f7_copyFrom_21 ha.l0 ha.1.2.1 rfl (ha.p1 _) ?_
  refine mV_push f7_copyFrom_24 ?_
  refine mV_push f7_copyFrom_25 ?_
  obtain ⟨z1, hz1, hr⟩ := mBind hr
  refine mV_cpO f7_copyFrom_27 (hb.l (by decide)) (ha.l (by decide)) hb.1.2.2.2.1 ha.1.2.2.2.1 hz1 (Nat.le_of_ble_eq_true rfl) ?_
  refine mV_aload f7_copyFrom_30 rfl ?_
  refine mV_getP f7_copyFrom_31 hb.l0 hb.1.2.1 rfl (hb.p2 _) ?_
  refine mV_push f7_copyFrom_34 ?_
  refine mV_aload f7_copyFrom_35 rfl ?_
  refine mV_getP f7_copyFrom_36 ha.l0 ha.1.2.1 rfl (ha.p2 _) ?_
  refine mV_push f7_copyFrom_39 ?_
  refine mV_push f7_copyFrom_40 ?_
  obtain ⟨z2, hz2, hr⟩ := mBind hr
  refine mV_cpO f7_copyFrom_42 (hb.l (by decide)) (ha.l (by decide)) hb.1.2.2.2.2.1 ha.1.2.2.2.2.1 hz2 (Nat.le_of_ble_eq_true rfl) ?_
  refine mV_aload f7_copyFrom_45 rfl ?_
  refine mV_getP f7_copyFrom_46 hb.l0 hb.1.2.1 rfl (hb.p3 _) ?_
  refine mV_push f7_copyFrom_49 ?_
  refine mV_aload f7_copyFrom_50 rfl ?_
  refine mV_getP f7_copyFrom_51 ha.l0 ha.1.2.1 rfl (ha.p3 _) ?_
  refine mV_push f7_copyFrom_54 ?_
  refine mV_push f7_copyFrom_55 ?_
  obtain ⟨z3, hz3, hr⟩ := mBind hr
  refine mV_cpO f7_copyFrom_57 (hb.l (by decide)) (ha.l (by decide)) hb.1.2.2.2.2.2 ha.1.2.2.2.2.2 hz3 (Nat.le_of_ble_eq_true rfl) ?_
  refine mV_aload f7_copyFrom_60 rfl ?_
  refine mV_aload f7_copyFrom_61 rfl ?_
  refine mV_gI (z3 b 4) f7_copyFrom_62 hb.l0 hb.1.2.1 rfl rfl ?_
  refine mV_putI f7_copyFrom_65 ha.l0 ha.1.2.1 rfl rfl ?_
  refine mV_aload f7_copyFrom_68 rfl ?_
  refine mV_aload f7_copyFrom_69 rfl ?_
  refine mV_gI ((mW z3 a 4 (z3 b 4)) b 5) f7_copyFrom_70 hb.l0 hb.1.2.1 rfl rfl ?_
  refine mV_putI f7_copyFrom_73 ha.l0 ha.1.2.1 rfl rfl ?_
  refine mV_aload f7_copyFrom_76 rfl ?_
  refine mV_aload f7_copyFrom_77 rfl ?_
  refine mV_gI ((mW (mW z3 a 4 (z3 b 4)) a 5 ((mW z3 a 4 (z3 b 4)) b 5)) b 6) f7_copyFrom_78 hb.l0 hb.1.2.1 rfl rfl ?_
  refine mV_putI f7_copyFrom_81 ha.l0 ha.1.2.1 rfl rfl ?_
  refine mV_aload f7_copyFrom_84 rfl ?_
  refine mV_aload f7_copyFrom_85 rfl ?_
  refine mV_gI ((mW (mW (mW z3 a 4 (z3 b 4)) a 5 ((mW z3 a 4 (z3 b 4)) b 5)) a 6 ((mW (mW z3 a 4 (z3 b 4)) a 5 ((mW z3 a 4 (z3 b 4)) b 5)) b 6)) b 7) f7_copyFrom_86 hb.l0 hb.1.2.1 rfl rfl ?_
  refine mV_putI f7_copyFrom_89 ha.l0 ha.1.2.1 rfl rfl ?_
  refine mV_aload f7_copyFrom_92 rfl ?_
  refine mV_aload f7_copyFrom_93 rfl ?_
  refine mV_gI ((mW (mW (mW (mW z3 a 4 (z3 b 4)) a 5 ((mW z3 a 4 (z3 b 4)) b 5)) a 6 ((mW (mW z3 a 4 (z3 b 4)) a 5 ((mW z3 a 4 (z3 b 4)) b 5)) b 6)) a 7 ((mW (mW (mW z3 a 4 (z3 b 4)) a 5 ((mW z3 a 4 (z3 b 4)) b 5)) a 6 ((mW (mW z3 a 4 (z3 b 4)) a 5 ((mW z3 a 4 (z3 b 4)) b 5)) b 6)) b 7)) b 8) f7_copyFrom_94 hb.l0 hb.1.2.1 rfl rfl ?_
  refine mV_putI f7_copyFrom_97 ha.l0 ha.1.2.1 rfl rfl ?_
  refine mV_aload f7_copyFrom_100 rfl ?_
  refine mV_aload f7_copyFrom_101 rfl ?_
  refine mV_gI ((mW (mW (mW (mW (mW z3 a 4 (z3 b 4)) a 5 ((mW z3 a 4 (z3 b 4)) b 5)) a 6 ((mW (mW z3 a 4 (z3 b 4)) a 5 ((mW z3 a 4 (z3 b 4)) b 5)) b 6)) a 7 ((mW (mW (mW z3 a 4 (z3 b 4)) a 5 ((mW z3 a 4 (z3 b 4)) b 5)) a 6 ((mW (mW z3 a 4 (z3 b 4)) a 5 ((mW z3 a 4 (z3 b 4)) b 5)) b 6)) b 7)) a 8 ((mW (mW (mW (mW z3 a 4 (z3 b 4)) a 5 ((mW z3 a 4 (z3 b 4)) b 5)) a 6 ((mW (mW z3 a 4 (z3 b 4)) a 5 ((mW z3 a 4 (z3 b 4)) b 5)) b 6)) a 7 ((mW (mW (mW z3 a 4 (z3 b 4)) a 5 ((mW z3 a 4 (z3 b 4)) b 5)) a 6 ((mW (mW z3 a 4 (z3 b 4)) a 5 ((mW z3 a 4 (z3 b 4)) b 5)) b 6)) b 7)) b 8)) b 9) f7_copyFrom_102 hb.l0 hb.1.2.1 rfl rfl ?_
  refine mV_putI f7_copyFrom_105 ha.l0 ha.1.2.1 rfl rfl ?_
  refine mV_aload f7_copyFrom_108 rfl ?_
  refine mV_aload f7_copyFrom_109 rfl ?_
  refine mV_gI ((mW (mW (mW (mW (mW (mW z3 a 4 (z3 b 4)) a 5 ((mW z3 a 4 (z3 b 4)) b 5)) a 6 ((mW (mW z3 a 4 (z3 b 4)) a 5 ((mW z3 a 4 (z3 b 4)) b 5)) b 6)) a 7 ((mW (mW (mW z3 a 4 (z3 b 4)) a 5 ((mW z3 a 4 (z3 b 4)) b 5)) a 6 ((mW (mW z3 a 4 (z3 b 4)) a 5 ((mW z3 a 4 (z3 b 4)) b 5)) b 6)) b 7)) a 8 ((mW (mW (mW (mW z3 a 4 (z3 b 4)) a 5 ((mW z3 a 4 (z3 b 4)) b 5)) a 6 ((mW (mW z3 a 4 (z3 b 4)) a 5 ((mW z3 a 4 (z3 b 4)) b 5)) b 6)) a 7 ((mW (mW (mW z3 a 4 (z3 b 4)) a 5 ((mW z3 a 4 (z3 b 4)) b 5)) a 6 ((mW (mW z3 a 4 (z3 b 4)) a 5 ((mW z3 a 4 (z3 b 4)) b 5)) b 6)) b 7)) b 8)) a 9 ((mW (mW (mW (mW (mW z3 a 4 (z3 b 4)) a 5 ((mW z3 a 4 (z3 b 4)) b 5)) a 6 ((mW (mW z3 a 4 (z3 b 4)) a 5 ((mW z3 a 4 (z3 b 4)) b 5)) b 6)) a 7 ((mW (mW (mW z3 a 4 (z3 b 4)) a 5 ((mW z3 a 4 (z3 b 4)) b 5)) a 6 ((mW (mW z3 a 4 (z3 b 4)) a 5 ((mW z3 a 4 (z3 b 4)) b 5)) b 6)) b 7)) a 8 ((mW (mW (mW (mW z3 a 4 (z3 b 4)) a 5 ((mW z3 a 4 (z3 b 4)) b 5)) a 6 ((mW (mW z3 a 4 (z3 b 4)) a 5 ((mW z3 a 4 (z3 b 4)) b 5)) b 6)) a 7 ((mW (mW (mW z3 a 4 (z3 b 4)) a 5 ((mW z3 a 4 (z3 b 4)) b 5)) a 6 ((mW (mW z3 a 4 (z3 b 4)) a 5 ((mW z3 a 4 (z3 b 4)) b 5)) b 6)) b 7)) b 8)) b 9)) b 10) f7_copyFrom_110 hb.l0 hb.1.2.1 rfl rfl ?_
  refine mV_putI f7_copyFrom_113 ha.l0 ha.1.2.1 rfl rfl ?_
  refine mV_aload f7_copyFrom_116 rfl ?_
  refine mV_aload f7_copyFrom_117 rfl ?_
  refine mV_gI ((mW (mW (mW (mW (mW (mW (mW z3 a 4 (z3 b 4)) a 5 ((mW z3 a 4 (z3 b 4)) b 5)) a 6 ((mW (mW z3 a 4 (z3 b 4)) a 5 ((mW z3 a 4 (z3 b 4)) b 5)) b 6)) a 7 ((mW (mW (mW z3 a 4 (z3 b 4)) a 5 ((mW z3 a 4 (z3 b 4)) b 5)) a 6 ((mW (mW z3 a 4 (z3 b 4)) a 5 ((mW z3 a 4 (z3 b 4)) b 5)) b 6)) b 7)) a 8 ((mW (mW (mW (mW z3 a 4 (z3 b 4)) a 5 ((mW z3 a 4 (z3 b 4)) b 5)) a 6 ((mW (mW z3 a 4 (z3 b 4)) a 5 ((mW z3 a 4 (z3 b 4)) b 5)) b 6)) a 7 ((mW (mW (mW z3 a 4 (z3 b 4)) a 5 ((mW z3 a 4 (z3 b 4)) b 5)) a 6 ((mW (mW z3 a 4 (z3 b 4)) a 5 ((mW z3 a 4 (z3 b 4)) b 5)) b 6)) b 7)) b 8)) a 9 ((mW (mW (mW (mW (mW z3 a 4 (z3 b 4)) a 5 ((mW z3 a 4 (z3 b 4)) b 5)) a 6 ((mW (mW z3 a 4 (z3 b 4)) a 5 ((mW z3 a 4 (z3 b 4)) b 5)) b 6)) a 7 ((mW (mW (mW z3 a 4 (z3 b 4)) a 5 ((mW z3 a 4 (z3 b 4)) b 5)) a 6 ((mW (mW z3 a 4 (z3 b 4)) a 5 ((mW z3 a 4 (z3 b 4)) b 5)) b 6)) b 7)) a 8 ((mW (mW (mW (mW z3 a 4 (z3 b 4)) a 5 ((mW z3 a 4 (z3 b 4)) b 5)) a 6 ((mW (mW z3 a 4 (z3 b 4)) a 5 ((mW z3 a 4 (z3 b 4)) b 5)) b 6)) a 7 ((mW (mW (mW z3 a 4 (z3 b 4)) a 5 ((mW z3 a 4 (z3 b 4)) b 5)) a 6 ((mW (mW z3 a 4 (z3 b 4)) a 5 ((mW z3 a 4 (z3 b 4)) b 5)) b 6)) b 7)) b 8)) b 9)) a 10 ((mW (mW (mW (mW (mW (mW z3 a 4 (z3 b 4)) a 5 ((mW z3 a 4 (z3 b 4)) b 5)) a 6 ((mW (mW z3 a 4 (z3 b 4)) a 5 ((mW z3 a 4 (z3 b 4)) b 5)) b 6)) a 7 ((mW (mW (mW z3 a 4 (z3 b 4)) a 5 ((mW z3 a 4 (z3 b 4)) b 5)) a 6 ((mW (mW z3 a 4 (z3 b 4)) a 5 ((mW z3 a 4 (z3 b 4)) b 5)) b 6)) b 7)) a 8 ((mW (mW (mW (mW z3 a 4 (z3 b 4)) a 5 ((mW z3 a 4 (z3 b 4)) b 5)) a 6 ((mW (mW z3 a 4 (z3 b 4)) a 5 ((mW z3 a 4 (z3 b 4)) b 5)) b 6)) a 7 ((mW (mW (mW z3 a 4 (z3 b 4)) a 5 ((mW z3 a 4 (z3 b 4)) b 5)) a 6 ((mW (mW z3 a 4 (z3 b 4)) a 5 ((mW z3 a 4 (z3 b 4)) b 5)) b 6)) b 7)) b 8)) a 9 ((mW (mW (mW (mW (mW z3 a 4 (z3 b 4)) a 5 ((mW z3 a 4 (z3 b 4)) b 5)) a 6 ((mW (mW z3 a 4 (z3 b 4)) a 5 ((mW z3 a 4 (z3 b 4)) b 5)) b 6)) a 7 ((mW (mW (mW z3 a 4 (z3 b 4)) a 5 ((mW z3 a 4 (z3 b 4)) b 5)) a 6 ((mW (mW z3 a 4 (z3 b 4)) a 5 ((mW z3 a 4 (z3 b 4)) b 5)) b 6)) b 7)) a 8 ((mW (mW (mW (mW z3 a 4 (z3 b 4)) a 5 ((mW z3 a 4 (z3 b 4)) b 5)) a 6 ((mW (mW z3 a 4 (z3 b 4)) a 5 ((mW z3 a 4 (z3 b 4)) b 5)) b 6)) a 7 ((mW (mW (mW z3 a 4 (z3 b 4)) a 5 ((mW z3 a 4 (z3 b 4)) b 5)) a 6 ((mW (mW z3 a 4 (z3 b 4)) a 5 ((mW z3 a 4 (z3 b 4)) b 5)) b 6)) b 7)) b 8)) b 9)) b 10)) b 11) f7_copyFrom_118 hb.l0 hb.1.2.1 rfl rfl ?_
  refine mV_putI f7_copyFrom_121 ha.l0 ha.1.2.1 rfl rfl ?_
  refine mV_aload f7_copyFrom_124 rfl ?_
  refine mV_aload f7_copyFrom_125 rfl ?_
  refine mV_gI ((mW (mW (mW (mW (mW (mW (mW (mW z3 a 4 (z3 b 4)) a 5 ((mW z3 a 4 (z3 b 4)) b 5)) a 6 ((mW (mW z3 a 4 (z3 b 4)) a 5 ((mW z3 a 4 (z3 b 4)) b 5)) b 6)) a 7 ((mW (mW (mW z3 a 4 (z3 b 4)) a 5 ((mW z3 a 4 (z3 b 4)) b 5)) a 6 ((mW (mW z3 a 4 (z3 b 4)) a 5 ((mW z3 a 4 (z3 b 4)) b 5)) b 6)) b 7)) a 8 ((mW (mW (mW (mW z3 a 4 (z3 b 4)) a 5 ((mW z3 a 4 (z3 b 4)) b 5)) a 6 ((mW (mW z3 a 4 (z3 b 4)) a 5 ((mW z3 a 4 (z3 b 4)) b 5)) b 6)) a 7 ((mW (mW (mW z3 a 4 (z3 b 4)) a 5 ((mW z3 a 4 (z3 b 4)) b 5)) a 6 ((mW (mW z3 a 4 (z3 b 4)) a 5 ((mW z3 a 4 (z3 b 4)) b 5)) b 6)) b 7)) b 8)) a 9 ((mW (mW (mW (mW (mW z3 a 4 (z3 b 4)) a 5 ((mW z3 a 4 (z3 b 4)) b 5)) a 6 ((mW (mW z3 a 4 (z3 b 4)) a 5 ((mW z3 a 4 (z3 b 4)) b 5)) b 6)) a 7 ((mW (mW (mW z3 a 4 (z3 b 4)) a 5 ((mW z3 a 4 (z3 b 4)) b 5)) a 6 ((mW (mW z3 a 4 (z3 b 4)) a 5 ((mW z3 a 4 (z3 b 4)) b 5)) b 6)) b 7)) a 8 ((mW (mW (mW (mW z3 a 4 (z3 b 4)) a 5 ((mW z3 a 4 (z3 b 4)) b 5)) a 6 ((mW (mW z3 a 4 (z3 b 4)) a 5 ((mW z3 a 4 (z3 b 4)) b 5)) b 6)) a 7 ((mW (mW (mW z3 a 4 (z3 b 4)) a 5 ((mW z3 a 4 (z3 b 4)) b 5)) a 6 ((mW (mW z3 a 4 (z3 b 4)) a 5 ((mW z3 a 4 (z3 b 4)) b 5)) b 6)) b 7)) b 8)) b 9)) a 10 ((mW (mW (mW (mW (mW (mW z3 a 4 (z3 b 4)) a 5 ((mW z3 a 4 (z3 b 4)) b 5)) a 6 ((mW (mW z3 a 4 (z3 b 4)) a 5 ((mW z3 a 4 (z3 b 4)) b 5)) b 6)) a 7 ((mW (mW (mW z3 a 4 (z3 b 4)) a 5 ((mW z3 a 4 (z3 b 4)) b 5)) a 6 ((mW (mW z3 a 4 (z3 b 4)) a 5 ((mW z3 a 4 (z3 b 4)) b 5)) b 6)) b 7)) a 8 ((mW (mW (mW (mW z3 a 4 (z3 b 4)) a 5 ((mW z3 a 4 (z3 b 4)) b 5)) a 6 ((mW (mW z3 a 4 (z3 b 4)) a 5 ((mW z3 a 4 (z3 b 4)) b 5)) b 6)) a 7 ((mW (mW (mW z3 a 4 (z3 b 4)) a 5 ((mW z3 a 4 (z3 b 4)) b 5)) a 6 ((mW (mW z3 a 4 (z3 b 4)) a 5 ((mW z3 a 4 (z3 b 4)) b 5)) b 6)) b 7)) b 8)) a 9 ((mW (mW (mW (mW (mW z3 a 4 (z3 b 4)) a 5 ((mW z3 a 4 (z3 b 4)) b 5)) a 6 ((mW (mW z3 a 4 (z3 b 4)) a 5 ((mW z3 a 4 (z3 b 4)) b 5)) b 6)) a 7 ((mW (mW (mW z3 a 4 (z3 b 4)) a 5 ((mW z3 a 4 (z3 b 4)) b 5)) a 6 ((mW (mW z3 a 4 (z3 b 4)) a 5 ((mW z3 a 4 (z3 b 4)) b 5)) b 6)) b 7)) a 8 ((mW (mW (mW (mW z3 a 4 (z3 b 4)) a 5 ((mW z3 a 4 (z3 b 4)) b 5)) a 6 ((mW (mW z3 a 4 (z3 b 4)) a 5 ((mW z3 a 4 (z3 b 4)) b 5)) b 6)) a 7 ((mW (mW (mW z3 a 4 (z3 b 4)) a 5 ((mW z3 a 4 (z3 b 4)) b 5)) a 6 ((mW (mW z3 a 4 (z3 b 4)) a 5 ((mW z3 a 4 (z3 b 4)) b 5)) b 6)) b 7)) b 8)) b 9)) b 10)) a 11 ((mW (mW (mW (mW (mW (mW (mW z3 a 4 (z3 b 4)) a 5 ((mW z3 a 4 (z3 b 4)) b 5)) a 6 ((mW (mW z3 a 4 (z3 b 4)) a 5 ((mW z3 a 4 (z3 b 4)) b 5)) b 6)) a 7 ((mW (mW (mW z3 a 4 (z3 b 4)) a 5 ((mW z3 a 4 (z3 b 4)) b 5)) a 6 ((mW (mW z3 a 4 (z3 b 4)) a 5 ((mW z3 a 4 (z3 b 4)) b 5)) b 6)) b 7)) a 8 ((mW (mW (mW (mW z3 a 4 (z3 b 4)) a 5 ((mW z3 a 4 (z3 b 4)) b 5)) a 6 ((mW (mW z3 a 4 (z3 b 4)) a 5 ((mW z3 a 4 (z3 b 4)) b 5)) b 6)) a 7 ((mW (mW (mW z3 a 4 (z3 b 4)) a 5 ((mW z3 a 4 (z3 b 4)) b 5)) a 6 ((mW (mW z3 a 4 (z3 b 4)) a 5 ((mW z3 a 4 (z3 b 4)) b 5)) b 6)) b 7)) b 8)) a 9 ((mW (mW (mW (mW (mW z3 a 4 (z3 b 4)) a 5 ((mW z3 a 4 (z3 b 4)) b 5)) a 6 ((mW (mW z3 a 4 (z3 b 4)) a 5 ((mW z3 a 4 (z3 b 4)) b 5)) b 6)) a 7 ((mW (mW (mW z3 a 4 (z3 b 4)) a 5 ((mW z3 a 4 (z3 b 4)) b 5)) a 6 ((mW (mW z3 a 4 (z3 b 4)) a 5 ((mW z3 a 4 (z3 b 4)) b 5)) b 6)) b 7)) a 8 ((mW (mW (mW (mW z3 a 4 (z3 b 4)) a 5 ((mW z3 a 4 (z3 b 4)) b 5)) a 6 ((mW (mW z3 a 4 (z3 b 4)) a 5 ((mW z3 a 4 (z3 b 4)) b 5)) b 6)) a 7 ((mW (mW (mW z3 a 4 (z3 b 4)) a 5 ((mW z3 a 4 (z3 b 4)) b 5)) a 6 ((mW (mW z3 a 4 (z3 b 4)) a 5 ((mW z3 a 4 (z3 b 4)) b 5)) b 6)) b 7)) b 8)) b 9)) a 10 ((mW (mW (mW (mW (mW (mW z3 a 4 (z3 b 4)) a 5 ((mW z3 a 4 (z3 b 4)) b 5)) a 6 ((mW (mW z3 a 4 (z3 b 4)) a 5 ((mW z3 a 4 (z3 b 4)) b 5)) b 6)) a 7 ((mW (mW (mW z3 a 4 (z3 b 4)) a 5 ((mW z3 a 4 (z3 b 4)) b 5)) a 6 ((mW (mW z3 a 4 (z3 b 4)) a 5 ((mW z3 a 4 (z3 b 4)) b 5)) b 6)) b 7)) a 8 ((mW (mW (mW (mW z3 a 4 (z3 b 4)) a 5 ((mW z3 a 4 (z3 b 4)) b 5)) a 6 ((mW (mW z3 a 4 (z3 b 4)) a 5 ((mW z3 a 4 (z3 b 4)) b 5)) b 6)) a 7 ((mW (mW (mW z3 a 4 (z3 b 4)) a 5 ((mW z3 a 4 (z3 b 4)) b 5)) a 6 ((mW (mW z3 a 4 (z3 b 4)) a 5 ((mW z3 a 4 (z3 b 4)) b 5)) b 6)) b 7)) b 8)) a 9 ((mW (mW (mW (mW (mW z3 a 4 (z3 b 4)) a 5 ((mW z3 a 4 (z3 b 4)) b 5)) a 6 ((mW (mW z3 a 4 (z3 b 4)) a 5 ((mW z3 a 4 (z3 b 4)) b 5)) b 6)) a 7 ((mW (mW (mW z3 a 4 (z3 b 4)) a 5 ((mW z3 a 4 (z3 b 4)) b 5)) a 6 ((mW (mW z3 a 4 (z3 b 4)) a 5 ((mW z3 a 4 (z3 b 4)) b 5)) b 6)) b 7)) a 8 ((mW (mW (mW (mW z3 a 4 (z3 b 4)) a 5 ((mW z3 a 4 (z3 b 4)) b 5)) a 6 ((mW (mW z3 a 4 (z3 b 4)) a 5 ((mW z3 a 4 (z3 b 4)) b 5)) b 6)) a 7 ((mW (mW (mW z3 a 4 (z3 b 4)) a 5 ((mW z3 a 4 (z3 b 4)) b 5)) a 6 ((mW (mW z3 a 4 (z3 b 4)) a 5 ((mW z3 a 4 (z3 b 4)) b 5)) b 6)) b 7)) b 8)) b 9)) b 10)) b 11)) b 12) f7_copyFrom_126 hb.l0 hb.1.2.1 rfl rfl ?_
  refine mV_putI f7_copyFrom_129 ha.l0 ha.1.2.1 rfl rfl ?_
  have hr := Option.some.inj hr; subst hr
  exact mV_vret rfl f7_copyFrom_132 hQ
theorem c7_copyFrom (X : Nat × (Nat → Int32)) (I : mI) (s : Nat) (a : Nat) (b : Nat) (ha : mStg a) (hb : mStg b) {res : mI} (hr : r7_copyFrom I a b = some res) : mC X m7_copyFrom 1 0 0 [.ref a, .ref b] NN KK I (PP s) (mRet none NN KK res (PP s)) :=
  mC_of (L0 := [.ref a, .ref b]) rfl (Nat.le_of_ble_eq_true rfl) (w7_copyFrom X I s a b ha hb _ hr (mRet_ok _ _ _ _ _))
def r3_keep (I : mI) : Option (mI) := (mLdP (mRm (I 77 1 + I 77 2) 6)).bind fun z0 => (r7_copyFrom I z0 3).bind fun z1 => (if (6 : Int32) ≤ (z1 77 2 : Int32) then some (mW z1 77 1 (mRm (z1 77 1 + 1) 6)) else some (mW z1 77 2 (z1 77 2 + 1)) : Option (mI)).bind fun z2 => some z2
set_option maxHeartbeats 4000000 in
set_option maxRecDepth 100000 in
theorem w3_keep (X : Nat × (Nat → Int32)) (I : mI) (s : Nat) (Q : mQ) {res : mI} (hr : r3_keep I = some res) (hQ : Q none NN KK res (PP s)) : mV X m3_keep 2 0 0 0 [.ref 77, .ref 3, mX0] [] NN KK I (PP s) Q := by
  unfold r3_keep at hr
  refine mV_aload f3_keep_0 rfl ?_
  refine mV_getP f3_keep_1 (by decide) kk_77 rfl (pp_77_0 _) ?_
  refine mV_aload f3_keep_4 rfl ?_
  refine mV_gI (I 77 1) f3_keep_5 (by decide) kk_77 rfl rfl ?_
  refine mV_aload f3_keep_8 rfl ?_
  refine mV_gI (I 77 2) f3_keep_9 (by decide) kk_77 rfl rfl ?_
  refine mV_iadd f3_keep_12 ?_
  refine mV_push f3_keep_13 ?_
  refine mV_remC f3_keep_15 (by decide) ?_
  obtain ⟨z0, ez0, hr⟩ := mBind hr
  have hz0 := mLdP_stg ez0
  refine mV_ldP f3_keep_16 ez0 ?_
  refine mV_astore (L' := [.ref 77, .ref 3, .ref z0]) f3_keep_17 (by decide) rfl rfl ?_
  refine mV_aload f3_keep_18 rfl ?_
  refine mV_ifnull f3_keep_19 ?_
  refine mV_aload f3_keep_22 rfl ?_
  refine mV_aload f3_keep_23 rfl ?_
  obtain ⟨z1, hz1, hr⟩ := mBind hr
  refine mV_cV f3_keep_24 tg_m7_copyFrom mCls7 hz0.l0 hz0.1.2.1 (mC_deep (c7_copyFrom X I s z0 3 hz0 mStg_3 hz1) (by decide)) rfl rfl (Nat.le_of_ble_eq_true rfl) ?_
  refine mV_aload f3_keep_27 rfl ?_
  refine mV_gI (z1 77 2) f3_keep_28 (by decide) kk_77 rfl rfl ?_
  refine mV_push f3_keep_31 ?_
  obtain ⟨z2, hz2, hr⟩ := mBind hr
  have keyz2 : mV X m3_keep 2 0 0 62 [.ref 77, .ref 3, .ref z0] [] NN KK z2 (PP s) Q := by
    have hr := Option.some.inj hr; subst hr
    exact mV_vret rfl f3_keep_62 hQ
  clear hr
  have hr := hz2
  clear hz2
  refine mV_icmp_ge f3_keep_33 (fun h0 => ?_) (fun h0 => ?_)
  · rw [if_pos h0] at hr
    refine mV_aload f3_keep_49 rfl ?_
    refine mV_aload f3_keep_50 rfl ?_
    refine mV_gI (z1 77 1) f3_keep_51 (by decide) kk_77 rfl rfl ?_
    refine mV_push f3_keep_54 ?_
    refine mV_iadd f3_keep_55 ?_
    refine mV_push f3_keep_56 ?_
    refine mV_remC f3_keep_58 (by decide) ?_
    refine mV_putI f3_keep_59 (by decide) kk_77 rfl rfl ?_
    have hr := Option.some.inj hr; subst hr
    exact keyz2
  · rw [if_neg h0] at hr
    refine mV_aload f3_keep_36 rfl ?_
    refine mV_dup f3_keep_37 rfl ?_
    refine mV_gI (z1 77 2) f3_keep_38 (by decide) kk_77 rfl rfl ?_
    refine mV_push f3_keep_41 ?_
    refine mV_iadd f3_keep_42 ?_
    refine mV_putI f3_keep_43 (by decide) kk_77 rfl rfl ?_
    refine mV_goto f3_keep_46 ?_
    have hr := Option.some.inj hr; subst hr
    exact keyz2
theorem c3_keep (X : Nat × (Nat → Int32)) (I : mI) (s : Nat) {res : mI} (hr : r3_keep I = some res) : mC X m3_keep 2 0 0 [.ref 77, .ref 3] NN KK I (PP s) (mRet none NN KK res (PP s)) :=
  mC_of (L0 := [.ref 77, .ref 3, mX0]) rfl (Nat.le_of_ble_eq_true rfl) (w3_keep X I s _ hr (mRet_ok _ _ _ _ _))
def r5_wake (I : mI) (s : Nat) : Option (mI) := some (mW I 1 3 1)
set_option maxHeartbeats 4000000 in
set_option maxRecDepth 100000 in
theorem w5_wake (X : Nat × (Nat → Int32)) (I : mI) (s : Nat) (Q : mQ) {res : mI} (hr : r5_wake I s = some res) (hQ : Q none NN KK res (PP 3)) : mV X m5_wake 0 0 0 0 [.ref 1] [] NN KK I (PP s) Q := by
  unfold r5_wake at hr
  refine mV_aload f5_wake_0 rfl ?_
  refine mV_aload f5_wake_1 rfl ?_
  refine mV_getP f5_wake_2 (by decide) kk_1 rfl (pp_1_0 _) ?_
  refine mV_getP f5_wake_5 (by decide) kk_2 rfl (pp_2_0 _) ?_
  refine mV_putP f5_wake_8 (by decide) kk_1 rfl ?_
  rw [PP_set]
  refine mV_aload f5_wake_11 rfl ?_
  refine mV_push f5_wake_12 ?_
  refine mV_putI f5_wake_13 (by decide) kk_1 rfl rfl ?_
  have hr := Option.some.inj hr; subst hr
  exact mV_vret rfl f5_wake_16 hQ
theorem c5_wake (X : Nat × (Nat → Int32)) (I : mI) (s : Nat) {res : mI} (hr : r5_wake I s = some res) : mC X m5_wake 0 0 0 [.ref 1] NN KK I (PP s) (mRet none NN KK res (PP 3)) :=
  mC_of (L0 := [.ref 1]) rfl (Nat.le_of_ble_eq_true rfl) (w5_wake X I s _ hr (mRet_ok _ _ _ _ _))
def r5_seat (I : mI) (s : Nat) (x0 : Int32) (x1 : Int32) : Option (mI) := (mLd I 10 12 x1).bind fun z0 => (mLd (mW I 40 0 z0) 11 12 x1).bind fun z1 => (mLd (mW (mW I 40 0 z0) 40 1 z1) 12 6 x0).bind fun z2 => (mLd (mW (mW (mW I 40 0 z0) 40 1 z1) 40 2 z2) 13 6 x0).bind fun z3 => (mLd (mW (mW (mW (mW (mW (mW (mW (mW I 40 0 z0) 40 1 z1) 40 2 z2) 40 3 z3) 40 6 0) 40 7 0) 40 8 ((mW (mW (mW (mW (mW (mW I 40 0 z0) 40 1 z1) 40 2 z2) 40 3 z3) 40 6 0) 40 7 0) s 7)) 40 9 0) (s + 1) 12 x1).bind fun z4 => some (mW (mW (mW (mW (mW (mW (mW (mW (mW (mW I 40 0 z0) 40 1 z1) 40 2 z2) 40 3 z3) 40 6 0) 40 7 0) 40 8 ((mW (mW (mW (mW (mW (mW I 40 0 z0) 40 1 z1) 40 2 z2) 40 3 z3) 40 6 0) 40 7 0) s 7)) 40 9 0) 40 10 z4) 40 11 ((mW (mW (mW (mW (mW (mW (mW (mW (mW I 40 0 z0) 40 1 z1) 40 2 z2) 40 3 z3) 40 6 0) 40 7 0) 40 8 ((mW (mW (mW (mW (mW (mW I 40 0 z0) 40 1 z1) 40 2 z2) 40 3 z3) 40 6 0) 40 7 0) s 7)) 40 9 0) 40 10 z4) s 10))
set_option maxHeartbeats 4000000 in
set_option maxRecDepth 100000 in
theorem w5_seat (X : Nat × (Nat → Int32)) (I : mI) (s : Nat) (hs : mStg s) (x0 : Int32) (x1 : Int32) (Q : mQ) {res : mI} (hr : r5_seat I s x0 x1 = some res) (hQ : Q none NN KK res (PP s)) : mV X m5_seat 0 0 0 0 [.ref 1, .int x0, .int x1] [] NN KK I (PP s) Q := by
  unfold r5_seat at hr
  refine mV_aload f5_seat_0 rfl ?_
  refine mV_getP f5_seat_1 (by decide) kk_1 rfl (pp_1_4 _) ?_
  refine mV_push f5_seat_4 ?_
  refine mV_aload f5_seat_5 rfl ?_
  refine mV_getP f5_seat_6 (by decide) kk_1 rfl (pp_1_0 _) ?_
  refine mV_getP f5_seat_9 (by decide) kk_2 rfl (pp_2_1 _) ?_
  refine mV_getP f5_seat_12 (by decide) kk_8 rfl (pp_8_1 _) ?_
  refine mV_iload f5_seat_15 rfl ?_
  obtain ⟨z0, hz0, hr⟩ := mBind hr
  refine mV_ldO f5_seat_16 (by decide) kk_10 hz0 ?_
  refine mV_sto 0 f5_seat_17 (by decide) kk_40 (by decide) ?_
  refine mV_aload f5_seat_18 rfl ?_
  refine mV_getP f5_seat_19 (by decide) kk_1 rfl (pp_1_4 _) ?_
  refine mV_push f5_seat_22 ?_
  refine mV_aload f5_seat_23 rfl ?_
  refine mV_getP f5_seat_24 (by decide) kk_1 rfl (pp_1_0 _) ?_
  refine mV_getP f5_seat_27 (by decide) kk_2 rfl (pp_2_1 _) ?_
  refine mV_getP f5_seat_30 (by decide) kk_8 rfl (pp_8_2 _) ?_
  refine mV_iload f5_seat_33 rfl ?_
  obtain ⟨z1, hz1, hr⟩ := mBind hr
  refine mV_ldO f5_seat_34 (by decide) kk_11 hz1 ?_
  refine mV_sto 1 f5_seat_35 (by decide) kk_40 (by decide) ?_
  refine mV_aload f5_seat_36 rfl ?_
  refine mV_getP f5_seat_37 (by decide) kk_1 rfl (pp_1_4 _) ?_
  refine mV_push f5_seat_40 ?_
  refine mV_aload f5_seat_41 rfl ?_
  refine mV_getP f5_seat_42 (by decide) kk_1 rfl (pp_1_0 _) ?_
  refine mV_getP f5_seat_45 (by decide) kk_2 rfl (pp_2_1 _) ?_
  refine mV_getP f5_seat_48 (by decide) kk_8 rfl (pp_8_3 _) ?_
  refine mV_iload f5_seat_51 rfl ?_
  obtain ⟨z2, hz2, hr⟩ := mBind hr
  refine mV_ldO f5_seat_52 (by decide) kk_12 hz2 ?_
  refine mV_sto 2 f5_seat_53 (by decide) kk_40 (by decide) ?_
  refine mV_aload f5_seat_54 rfl ?_
  refine mV_getP f5_seat_55 (by decide) kk_1 rfl (pp_1_4 _) ?_
  refine mV_push f5_seat_58 ?_
  refine mV_aload f5_seat_59 rfl ?_
  refine mV_getP f5_seat_60 (by decide) kk_1 rfl (pp_1_0 _) ?_
  refine mV_getP f5_seat_63 (by decide) kk_2 rfl (pp_2_1 _) ?_
  refine mV_getP f5_seat_66 (by decide) kk_8 rfl (pp_8_4 _) ?_
  refine mV_iload f5_seat_69 rfl ?_
  obtain ⟨z3, hz3, hr⟩ := mBind hr
  refine mV_ldO f5_seat_70 (by decide) kk_13 hz3 ?_
  refine mV_sto 3 f5_seat_71 (by decide) kk_40 (by decide) ?_
  refine mV_aload f5_seat_72 rfl ?_
  refine mV_getP f5_seat_73 (by decide) kk_1 rfl (pp_1_4 _) ?_
  refine mV_push f5_seat_76 ?_
  refine mV_push f5_seat_78 ?_
  refine mV_sto 6 f5_seat_79 (by decide) kk_40 (by decide) ?_
  refine mV_aload f5_seat_80 rfl ?_
  refine mV_getP f5_seat_81 (by decide) kk_1 rfl (pp_1_4 _) ?_
  refine mV_push f5_seat_84 ?_
  refine mV_push f5_seat_86 ?_
  refine mV_sto 7 f5_seat_87 (by decide) kk_40 (by decide) ?_
  refine mV_aload f5_seat_88 rfl ?_
  refine mV_getP f5_seat_89 (by decide) kk_1 rfl (pp_1_4 _) ?_
  refine mV_push f5_seat_92 ?_
  refine mV_aload f5_seat_94 rfl ?_
  refine mV_getP f5_seat_95 (by decide) kk_1 rfl (pp_1_2 _) ?_
  refine mV_gI ((mW (mW (mW (mW (mW (mW I 40 0 z0) 40 1 z1) 40 2 z2) 40 3 z3) 40 6 0) 40 7 0) s 7) f5_seat_98 hs.l0 hs.1.2.1 rfl rfl ?_
  refine mV_sto 8 f5_seat_101 (by decide) kk_40 (by decide) ?_
  refine mV_aload f5_seat_102 rfl ?_
  refine mV_getP f5_seat_103 (by decide) kk_1 rfl (pp_1_4 _) ?_
  refine mV_push f5_seat_106 ?_
  refine mV_push f5_seat_108 ?_
  refine mV_sto 9 f5_seat_109 (by decide) kk_40 (by decide) ?_
  refine mV_aload f5_seat_110 rfl ?_
  refine mV_getP f5_seat_111 (by decide) kk_1 rfl (pp_1_4 _) ?_
  refine mV_push f5_seat_114 ?_
  refine mV_aload f5_seat_116 rfl ?_
  refine mV_getP f5_seat_117 (by decide) kk_1 rfl (pp_1_2 _) ?_
  refine mV_getP f5_seat_120 hs.l0 hs.1.2.1 rfl (hs.p0 _) ?_
  refine mV_iload f5_seat_123 rfl ?_
  obtain ⟨z4, hz4, hr⟩ := mBind hr
  refine mV_ldO f5_seat_124 (hs.l (by decide)) hs.1.2.2.1 hz4 ?_
  refine mV_sto 10 f5_seat_125 (by decide) kk_40 (by decide) ?_
  refine mV_aload f5_seat_126 rfl ?_
  refine mV_getP f5_seat_127 (by decide) kk_1 rfl (pp_1_4 _) ?_
  refine mV_push f5_seat_130 ?_
  refine mV_aload f5_seat_132 rfl ?_
  refine mV_getP f5_seat_133 (by decide) kk_1 rfl (pp_1_2 _) ?_
  refine mV_gI ((mW (mW (mW (mW (mW (mW (mW (mW (mW I 40 0 z0) 40 1 z1) 40 2 z2) 40 3 z3) 40 6 0) 40 7 0) 40 8 ((mW (mW (mW (mW (mW (mW I 40 0 z0) 40 1 z1) 40 2 z2) 40 3 z3) 40 6 0) 40 7 0) s 7)) 40 9 0) 40 10 z4) s 10) f5_seat_136 hs.l0 hs.1.2.1 rfl rfl ?_
  refine mV_sto 11 f5_seat_139 (by decide) kk_40 (by decide) ?_
  have hr := Option.some.inj hr; subst hr
  exact mV_vret rfl f5_seat_140 hQ
theorem c5_seat (X : Nat × (Nat → Int32)) (I : mI) (s : Nat) (hs : mStg s) (x0 : Int32) (x1 : Int32) {res : mI} (hr : r5_seat I s x0 x1 = some res) : mC X m5_seat 0 0 0 [.ref 1, .int x0, .int x1] NN KK I (PP s) (mRet none NN KK res (PP s)) :=
  mC_of (L0 := [.ref 1, .int x0, .int x1]) rfl (Nat.le_of_ble_eq_true rfl) (w5_seat X I s hs x0 x1 _ hr (mRet_ok _ _ _ _ _))
def r6_cell_15 (I : mI) (x0 : Int32) (x1 : Int32) : Option (Int32) := (if (((x0 * 9) + x1) : Int32) < (0 : Int32) then some 0 else if (144 : Int32) ≤ (((x0 * 9) + x1) : Int32) then some 0 else (mLd I 16 144 ((x0 * 9) + x1)).bind fun z1 => some z1 : Option (Int32)).bind fun z0 => some z0
set_option maxHeartbeats 4000000 in
set_option maxRecDepth 100000 in
theorem w6_cell_15 (X : Nat × (Nat → Int32)) (I : mI) (s : Nat) (x0 : Int32) (x1 : Int32) (Q : mQ) {res : Int32} (hr : r6_cell_15 I x0 x1 = some res) (hQ : Q (some (.int res)) NN KK I (PP s)) : mV X m6_cell 0 0 0 0 [.ref 15, .int x0, .int x1, mX0] [] NN KK I (PP s) Q := by
  unfold r6_cell_15 at hr
  refine mV_iload f6_cell_0 rfl ?_
  refine mV_push f6_cell_1 ?_
  refine mV_imul f6_cell_3 ?_
  refine mV_iload f6_cell_4 rfl ?_
  refine mV_iadd f6_cell_5 ?_
  refine mV_istore (L' := [.ref 15, .int x0, .int x1, .int ((x0 * 9) + x1)]) f6_cell_6 (by decide) rfl rfl ?_
  refine mV_iload f6_cell_7 rfl ?_
  obtain ⟨z0, hz0, hr⟩ := mBind hr
  have keyz0 : mV X m6_cell 0 0 0 30 [.ref 15, mX0, mX0, mX0] [.int z0] NN KK I (PP s) Q := by
    have hr := Option.some.inj hr; subst hr
    exact mV_iret rfl rfl f6_cell_30 hQ
  clear hr
  have hr := hz0
  clear hz0
  refine mV_if_lt f6_cell_8 (fun h0 => ?_) (fun h0 => ?_)
  · rw [if_pos h0] at hr
    refine mV_push f6_cell_29 ?_
    have hr := Option.some.inj hr; subst hr
    refine mV_drop (L' := [.ref 15, mX0, mX0, mX0]) (mSub_k (mSub_x (mSub_x (mSub_x mSub_n)))) ?_
    exact keyz0
  · rw [if_neg h0] at hr
    refine mV_iload f6_cell_11 rfl ?_
    refine mV_aload f6_cell_12 rfl ?_
    refine mV_getP f6_cell_13 (by decide) kk_15 rfl (pp_15_0 _) ?_
    refine mV_alen f6_cell_16 (by decide) kk_16 ?_
    refine mV_as 144 (by decide) ?_
    refine mV_icmp_ge f6_cell_17 (fun h1 => ?_) (fun h1 => ?_)
    · rw [if_pos h1] at hr
      refine mV_push f6_cell_29 ?_
      have hr := Option.some.inj hr; subst hr
      refine mV_drop (L' := [.ref 15, mX0, mX0, mX0]) (mSub_k (mSub_x (mSub_x (mSub_x mSub_n)))) ?_
      exact keyz0
    · rw [if_neg h1] at hr
      refine mV_aload f6_cell_20 rfl ?_
      refine mV_getP f6_cell_21 (by decide) kk_15 rfl (pp_15_0 _) ?_
      refine mV_iload f6_cell_24 rfl ?_
      obtain ⟨z1, hz1, hr⟩ := mBind hr
      refine mV_ldO f6_cell_25 (by decide) kk_16 hz1 ?_
      refine mV_goto f6_cell_26 ?_
      have hr := Option.some.inj hr; subst hr
      refine mV_drop (L' := [.ref 15, mX0, mX0, mX0]) (mSub_k (mSub_x (mSub_x (mSub_x mSub_n)))) ?_
      exact keyz0
theorem c6_cell_15 (X : Nat × (Nat → Int32)) (I : mI) (s : Nat) (x0 : Int32) (x1 : Int32) {res : Int32} (hr : r6_cell_15 I x0 x1 = some res) : mC X m6_cell 0 0 0 [.ref 15, .int x0, .int x1] NN KK I (PP s) (mRet (some (.int res)) NN KK I (PP s)) :=
  mC_of (L0 := [.ref 15, .int x0, .int x1, mX0]) rfl (Nat.le_of_ble_eq_true rfl) (w6_cell_15 X I s x0 x1 _ hr (mRet_ok _ _ _ _ _))

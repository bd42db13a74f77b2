def l10_waits1_2 (k1 : Int32) (k2 : Int32) : Nat → Int32 → mI → Option (Int32 × mI)
  | 0, _, _ => none
  | f + 1, y3, I => if (I 120 3 : Int32) ≤ ((r10_dry I) : Int32) then some (y3, I) else if (60 : Int32) ≤ (y3 : Int32) then some (y3, I) else (r10_settlesOf I k1 k2 y3).bind fun z0 => (r10_salted (mW z0.2 120 3 (z0.2 120 3 - (r10_lesser (I 120 3) z0.1))) (r10_lesser (I 120 3) z0.1)).bind fun z1 => l10_waits1_2 k1 k2 f (y3 + 1) z1
def r10_waits1 (I : mI) (x0 : Int32) (x1 : Int32) : Option (mI) := (l10_waits1_2 x0 x1 FU 0 I).bind fun z0 => (if (z0.1 : Int32) ≤ (0 : Int32) then some (mW z0.2 120 8 (z0.2 120 8 + z0.1)) else (r10_notes (mW z0.2 120 8 (z0.2 120 8 + z0.1)) 1 x1 z0.1).bind fun z2 => some z2 : Option (mI)).bind fun z1 => some z1
set_option maxHeartbeats 4000000 in
set_option maxRecDepth 100000 in
theorem t10_waits1_2 (X : Nat × (Nat → Int32)) (Q : mQ) (s : Nat) (k1 : Int32) (k2 : Int32) : ∀ (f : Nat) (y3 : Int32) (I : mI) (z : Int32 × mI), l10_waits1_2 k1 k2 f y3 I = some z → mV X m10_waits1 5 0 0 68 [.ref 119, .int k1, .int k2, .int z.1, mX0] [] NN KK z.2 (PP s) Q → mV X m10_waits1 5 0 0 2 [.ref 119, .int k1, .int k2, .int y3, mX0] [] NN KK I (PP s) Q := by
  intro f
  induction f with
  | zero => intro y3 I z hr hk; cases hr
  | succ f ih =>
    intro y3 I z hr hk
    unfold l10_waits1_2 at hr
    refine mV_aload f10_waits1_2 rfl ?_
    refine mV_getP f10_waits1_3 (by decide) kk_119 rfl (pp_119_1 _) ?_
    refine mV_push f10_waits1_6 ?_
    refine mV_ld (I 120 3) 3 f10_waits1_7 (by decide) kk_120 (by decide) rfl ?_
    refine mV_aload f10_waits1_8 rfl ?_
    refine mV_cV f10_waits1_9 tg_m10_dry mCls10 (by decide) kk_119 (mC_deep (c10_dry X I s rfl) (by decide)) rfl rfl (Nat.le_of_ble_eq_true rfl) ?_
    refine mV_icmp_le f10_waits1_12 (fun h0 => ?_) (fun h0 => ?_)
    · rw [if_pos h0] at hr
      have hr := Option.some.inj hr; subst hr
      exact hk
    · rw [if_neg h0] at hr
      refine mV_iload f10_waits1_15 rfl ?_
      refine mV_push f10_waits1_16 ?_
      refine mV_icmp_ge f10_waits1_18 (fun h1 => ?_) (fun h1 => ?_)
      · rw [if_pos h1] at hr
        have hr := Option.some.inj hr; subst hr
        exact hk
      · rw [if_neg h1] at hr
        refine mV_aload f10_waits1_21 rfl ?_
        refine mV_aload f10_waits1_22 rfl ?_
        refine mV_getP f10_waits1_23 (by decide) kk_119 rfl (pp_119_1 _) ?_
        refine mV_push f10_waits1_26 ?_
        refine mV_ld (I 120 3) 3 f10_waits1_27 (by decide) kk_120 (by decide) rfl ?_
        refine mV_aload f10_waits1_28 rfl ?_
        refine mV_iload f10_waits1_29 rfl ?_
        refine mV_iload f10_waits1_30 rfl ?_
        refine mV_iload f10_waits1_31 rfl ?_
        obtain ⟨z0, hz0, hr⟩ := mBind hr
        refine mV_cV f10_waits1_32 tg_m10_settlesOf mCls10 (by decide) kk_119 (mC_deep (c10_settlesOf X I s k1 k2 y3 hz0) (by decide)) rfl rfl (Nat.le_of_ble_eq_true rfl) ?_
        refine mV_cV f10_waits1_35 tg_m10_lesser mCls10 (by decide) kk_119 (mC_deep (c10_lesser X z0.2 s (I 120 3) z0.1 rfl) (by decide)) rfl rfl (Nat.le_of_ble_eq_true rfl) ?_
        refine mV_istore (L' := [.ref 119, .int k1, .int k2, .int y3, .int (r10_lesser (I 120 3) z0.1)]) f10_waits1_38 (by decide) rfl rfl ?_
        refine mV_aload f10_waits1_40 rfl ?_
        refine mV_getP f10_waits1_41 (by decide) kk_119 rfl (pp_119_1 _) ?_
        refine mV_push f10_waits1_44 ?_
        refine mV_aload f10_waits1_45 rfl ?_
        refine mV_getP f10_waits1_46 (by decide) kk_119 rfl (pp_119_1 _) ?_
        refine mV_push f10_waits1_49 ?_
        refine mV_ld (z0.2 120 3) 3 f10_waits1_50 (by decide) kk_120 (by decide) rfl ?_
        refine mV_iload f10_waits1_51 rfl ?_
        refine mV_isub f10_waits1_53 ?_
        refine mV_sto 3 f10_waits1_54 (by decide) kk_120 (by decide) ?_
        refine mV_aload f10_waits1_55 rfl ?_
        refine mV_iload f10_waits1_56 rfl ?_
        obtain ⟨z1, hz1, hr⟩ := mBind hr
        refine mV_cV f10_waits1_58 tg_m10_salted mCls10 (by decide) kk_119 (mC_deep (c10_salted X (mW z0.2 120 3 (z0.2 120 3 - (r10_lesser (I 120 3) z0.1))) s (r10_lesser (I 120 3) z0.1) hz1) (by decide)) rfl rfl (Nat.le_of_ble_eq_true rfl) ?_
        refine mV_iload f10_waits1_61 rfl ?_
        refine mV_push f10_waits1_62 ?_
        refine mV_iadd f10_waits1_63 ?_
        refine mV_istore (L' := [.ref 119, .int k1, .int k2, .int (y3 + 1), .int (r10_lesser (I 120 3) z0.1)]) f10_waits1_64 (by decide) rfl rfl ?_
        refine mV_goto f10_waits1_65 ?_
        refine mV_drop (L' := [.ref 119, .int k1, .int k2, .int (y3 + 1), mX0]) (mSub_k (mSub_k (mSub_k (mSub_k (mSub_x mSub_n))))) ?_
        exact ih (y3 + 1) z1 _ hr hk
set_option maxHeartbeats 4000000 in
set_option maxRecDepth 100000 in
theorem w10_waits1 (X : Nat × (Nat → Int32)) (I : mI) (s : Nat) (x0 : Int32) (x1 : Int32) (Q : mQ) {res : mI} (hr : r10_waits1 I x0 x1 = some res) (hQ : Q none NN KK res (PP s)) : mV X m10_waits1 5 0 0 0 [.ref 119, .int x0, .int x1, mX0, mX0] [] NN KK I (PP s) Q := by
  unfold r10_waits1 at hr
  refine mV_push f10_waits1_0 ?_
  refine mV_istore (L' := [.ref 119, .int x0, .int x1, .int 0, mX0]) f10_waits1_1 (by decide) rfl rfl ?_
  obtain ⟨z0, hz0, hr⟩ := mBind hr
  refine t10_waits1_2 X Q s x0 x1 FU 0 I _ hz0 ?_
  refine mV_aload f10_waits1_68 rfl ?_
  refine mV_getP f10_waits1_69 (by decide) kk_119 rfl (pp_119_1 _) ?_
  refine mV_push f10_waits1_72 ?_
  refine mV_aload f10_waits1_74 rfl ?_
  refine mV_getP f10_waits1_75 (by decide) kk_119 rfl (pp_119_1 _) ?_
  refine mV_push f10_waits1_78 ?_
  refine mV_ld (z0.2 120 8) 8 f10_waits1_80 (by decide) kk_120 (by decide) rfl ?_
  refine mV_iload f10_waits1_81 rfl ?_
  refine mV_iadd f10_waits1_82 ?_
  refine mV_sto 8 f10_waits1_83 (by decide) kk_120 (by decide) ?_
  refine mV_iload f10_waits1_84 rfl ?_
  obtain ⟨z1, hz1, hr⟩ := mBind hr
  have keyz1 : mV X m10_waits1 5 0 0 95 [.ref 119, mX0, mX0, mX0, mX0] [] NN KK z1 (PP s) Q := by
    have hr := Option.some.inj hr; subst hr
    exact mV_vret rfl f10_waits1_95 hQ
  clear hr
  have hr := hz1
  clear hz1
  refine mV_if_le f10_waits1_85 (fun h0 => ?_) (fun h0 => ?_)
  · rw [if_pos h0] at hr
    have hr := Option.some.inj hr; subst hr
    refine mV_drop (L' := [.ref 119, mX0, mX0, mX0, mX0]) (mSub_k (mSub_x (mSub_x (mSub_x (mSub_x mSub_n))))) ?_
    exact keyz1
  · rw [if_neg h0] at hr
    refine mV_aload f10_waits1_88 rfl ?_
    refine mV_push f10_waits1_89 ?_
    refine mV_iload f10_waits1_90 rfl ?_
    refine mV_iload f10_waits1_91 rfl ?_
    obtain ⟨z2, hz2, hr⟩ := mBind hr
    refine mV_cV f10_waits1_92 tg_m10_notes mCls10 (by decide) kk_119 (mC_deep (c10_notes X (mW z0.2 120 8 (z0.2 120 8 + z0.1)) s 1 x1 z0.1 hz2) (by decide)) rfl rfl (Nat.le_of_ble_eq_true rfl) ?_
    have hr := Option.some.inj hr; subst hr
    refine mV_drop (L' := [.ref 119, mX0, mX0, mX0, mX0]) (mSub_k (mSub_x (mSub_x (mSub_x (mSub_x mSub_n))))) ?_
    exact keyz1
theorem c10_waits1 (X : Nat × (Nat → Int32)) (I : mI) (s : Nat) (x0 : Int32) (x1 : Int32) {res : mI} (hr : r10_waits1 I x0 x1 = some res) : mC X m10_waits1 5 0 0 [.ref 119, .int x0, .int x1] NN KK I (PP s) (mRet none NN KK res (PP s)) :=
  mC_of (L0 := [.ref 119, .int x0, .int x1, mX0, mX0]) rfl (Nat.le_of_ble_eq_true rfl) (w10_waits1 X I s x0 x1 _ hr (mRet_ok _ _ _ _ _))
def r10_play (I : mI) (x0 : Int32) (x1 : Int32) : Option (Int32 × mI) := if ((r10_isPlayer (mW I 119 0 0) x0) : Int32) = (0 : Int32) then some ((-1), (mW I 119 0 0)) else if ((r10_isPiece (mW I 119 0 0) x1) : Int32) = (0 : Int32) then some ((-1), (mW I 119 0 0)) else (r10_keepsAhead (mW I 119 0 0)).bind fun z0 => (r10_plays z0 x0 x1).bind fun z1 => some (z1.1, z1.2)
set_option maxHeartbeats 4000000 in
set_option maxRecDepth 100000 in
theorem w10_play (X : Nat × (Nat → Int32)) (I : mI) (s : Nat) (x0 : Int32) (x1 : Int32) (Q : mQ) {res : Int32 × mI} (hr : r10_play I x0 x1 = some res) (hQ : Q (some (.int res.1)) NN KK res.2 (PP s)) : mV X m10_play 7 0 0 0 [.ref 119, .int x0, .int x1] [] NN KK I (PP s) Q := by
  unfold r10_play at hr
  refine mV_aload f10_play_0 rfl ?_
  refine mV_push f10_play_1 ?_
  refine mV_putI f10_play_2 (by decide) kk_119 rfl rfl ?_
  refine mV_aload f10_play_5 rfl ?_
  refine mV_iload f10_play_6 rfl ?_
  refine mV_cV f10_play_7 tg_m10_isPlayer mCls10 (by decide) kk_119 (mC_deep (c10_isPlayer X (mW I 119 0 0) s x0 rfl) (by decide)) rfl rfl (Nat.le_of_ble_eq_true rfl) ?_
  refine mV_if_eq f10_play_10 (fun h0 => ?_) (fun h0 => ?_)
  · rw [if_pos h0] at hr
    refine mV_push f10_play_21 ?_
    have hr := Option.some.inj hr; subst hr
    exact mV_iret rfl rfl f10_play_22 hQ
  · rw [if_neg h0] at hr
    refine mV_aload f10_play_13 rfl ?_
    refine mV_iload f10_play_14 rfl ?_
    refine mV_cV f10_play_15 tg_m10_isPiece mCls10 (by decide) kk_119 (mC_deep (c10_isPiece X (mW I 119 0 0) s x1 rfl) (by decide)) rfl rfl (Nat.le_of_ble_eq_true rfl) ?_
    refine mV_if_ne f10_play_18 (fun h1 => ?_) (fun h1 => ?_)
    · rw [if_neg h1] at hr
      refine mV_aload f10_play_23 rfl ?_
      obtain ⟨z0, hz0, hr⟩ := mBind hr
      refine mV_cV f10_play_24 tg_m10_keepsAhead mCls10 (by decide) kk_119 (mC_deep (c10_keepsAhead X (mW I 119 0 0) s hz0) (by decide)) rfl rfl (Nat.le_of_ble_eq_true rfl) ?_
      refine mV_aload f10_play_27 rfl ?_
      refine mV_iload f10_play_28 rfl ?_
      refine mV_iload f10_play_29 rfl ?_
      obtain ⟨z1, hz1, hr⟩ := mBind hr
      refine mV_cV f10_play_30 tg_m10_plays mCls10 (by decide) kk_119 (mC_deep (c10_plays X z0 s x0 x1 hz1) (by decide)) rfl rfl (Nat.le_of_ble_eq_true rfl) ?_
      have hr := Option.some.inj hr; subst hr
      exact mV_iret rfl rfl f10_play_33 hQ
    · rw [if_pos h1] at hr
      refine mV_push f10_play_21 ?_
      have hr := Option.some.inj hr; subst hr
      exact mV_iret rfl rfl f10_play_22 hQ
theorem c10_play (X : Nat × (Nat → Int32)) (I : mI) (s : Nat) (x0 : Int32) (x1 : Int32) {res : Int32 × mI} (hr : r10_play I x0 x1 = some res) : mC X m10_play 7 0 0 [.ref 119, .int x0, .int x1] NN KK I (PP s) (mRet (some (.int res.1)) NN KK res.2 (PP s)) :=
  mC_of (L0 := [.ref 119, .int x0, .int x1]) rfl (Nat.le_of_ble_eq_true rfl) (w10_play X I s x0 x1 _ hr (mRet_ok _ _ _ _ _))
def r10_tunes (I : mI) (x0 : Int32) : Option (mI) := (mLd I 120 47 (9 + x0)).bind fun z0 => (r10_notes I 2 x0 z0).bind fun z1 => (mSto z1 120 47 (9 + x0) 0).bind fun z2 => some z2
set_option maxHeartbeats 4000000 in
set_option maxRecDepth 100000 in
theorem w10_tunes (X : Nat × (Nat → Int32)) (I : mI) (s : Nat) (x0 : Int32) (Q : mQ) {res : mI} (hr : r10_tunes I x0 = some res) (hQ : Q none NN KK res (PP s)) : mV X m10_tunes 1 0 0 0 [.ref 119, .int x0] [] NN KK I (PP s) Q := by
  unfold r10_tunes at hr
  refine mV_aload f10_tunes_0 rfl ?_
  refine mV_push f10_tunes_1 ?_
  refine mV_iload f10_tunes_2 rfl ?_
  refine mV_aload f10_tunes_3 rfl ?_
  refine mV_getP f10_tunes_4 (by decide) kk_119 rfl (pp_119_1 _) ?_
  refine mV_push f10_tunes_7 ?_
  refine mV_iload f10_tunes_9 rfl ?_
  refine mV_iadd f10_tunes_10 ?_
  obtain ⟨z0, hz0, hr⟩ := mBind hr
  refine mV_ldO f10_tunes_11 (by decide) kk_120 hz0 ?_
  obtain ⟨z1, hz1, hr⟩ := mBind hr
  refine mV_cV f10_tunes_12 tg_m10_notes mCls10 (by decide) kk_119 (mC_deep (c10_notes X I s 2 x0 z0 hz1) (by decide)) rfl rfl (Nat.le_of_ble_eq_true rfl) ?_
  refine mV_aload f10_tunes_15 rfl ?_
  refine mV_getP f10_tunes_16 (by decide) kk_119 rfl (pp_119_1 _) ?_
  refine mV_push f10_tunes_19 ?_
  refine mV_iload f10_tunes_21 rfl ?_
  refine mV_iadd f10_tunes_22 ?_
  refine mV_push f10_tunes_23 ?_
  obtain ⟨z2, hz2, hr⟩ := mBind hr
  refine mV_stO f10_tunes_24 (by decide) kk_120 hz2 ?_
  have hr := Option.some.inj hr; subst hr
  exact mV_vret rfl f10_tunes_25 hQ
theorem c10_tunes (X : Nat × (Nat → Int32)) (I : mI) (s : Nat) (x0 : Int32) {res : mI} (hr : r10_tunes I x0 = some res) : mC X m10_tunes 1 0 0 [.ref 119, .int x0] NN KK I (PP s) (mRet none NN KK res (PP s)) :=
  mC_of (L0 := [.ref 119, .int x0]) rfl (Nat.le_of_ble_eq_true rfl) (w10_tunes X I s x0 _ hr (mRet_ok _ _ _ _ _))
def r10_empties (I : mI) : Option (mI) := (r10_notes I 3 (-1) (I 120 4)).bind fun z0 => some (mW z0 120 4 0)
set_option maxHeartbeats 4000000 in
set_option maxRecDepth 100000 in
theorem w10_empties (X : Nat × (Nat → Int32)) (I : mI) (s : Nat) (Q : mQ) {res : mI} (hr : r10_empties I = some res) (hQ : Q none NN KK res (PP s)) : mV X m10_empties 1 0 0 0 [.ref 119] [] NN KK I (PP s) Q := by
  unfold r10_empties at hr
  refine mV_aload f10_empties_0 rfl ?_
  refine mV_push f10_empties_1 ?_
  refine mV_push f10_empties_2 ?_
  refine mV_aload f10_empties_3 rfl ?_
  refine mV_getP f10_empties_4 (by decide) kk_119 rfl (pp_119_1 _) ?_
  refine mV_push f10_empties_7 ?_
  refine mV_ld (I 120 4) 4 f10_empties_8 (by decide) kk_120 (by decide) rfl ?_
  obtain ⟨z0, hz0, hr⟩ := mBind hr
  refine mV_cV f10_empties_9 tg_m10_notes mCls10 (by decide) kk_119 (mC_deep (c10_notes X I s 3 (-1) (I 120 4) hz0) (by decide)) rfl rfl (Nat.le_of_ble_eq_true rfl) ?_
  refine mV_aload f10_empties_12 rfl ?_
  refine mV_getP f10_empties_13 (by decide) kk_119 rfl (pp_119_1 _) ?_
  refine mV_push f10_empties_16 ?_
  refine mV_push f10_empties_17 ?_
  refine mV_sto 4 f10_empties_18 (by decide) kk_120 (by decide) ?_
  have hr := Option.some.inj hr; subst hr
  exact mV_vret rfl f10_empties_19 hQ
theorem c10_empties (X : Nat × (Nat → Int32)) (I : mI) (s : Nat) {res : mI} (hr : r10_empties I = some res) : mC X m10_empties 1 0 0 [.ref 119] NN KK I (PP s) (mRet none NN KK res (PP s)) :=
  mC_of (L0 := [.ref 119]) rfl (Nat.le_of_ble_eq_true rfl) (w10_empties X I s _ hr (mRet_ok _ _ _ _ _))
def r10_isKeptIn (I : mI) (x0 : Int32) : Option (mI) := (r10_notes (mW I 120 3 (I 120 3 - (r10_lesser x0 (I 120 3)))) 4 (-1) (r10_lesser x0 (I 120 3))).bind fun z0 => some z0
set_option maxHeartbeats 4000000 in
set_option maxRecDepth 100000 in
theorem w10_isKeptIn (X : Nat × (Nat → Int32)) (I : mI) (s : Nat) (x0 : Int32) (Q : mQ) {res : mI} (hr : r10_isKeptIn I x0 = some res) (hQ : Q none NN KK res (PP s)) : mV X m10_isKeptIn 1 0 0 0 [.ref 119, .int x0, mX0] [] NN KK I (PP s) Q := by
  unfold r10_isKeptIn at hr
  refine mV_aload f10_isKeptIn_0 rfl ?_
  refine mV_iload f10_isKeptIn_1 rfl ?_
  refine mV_aload f10_isKeptIn_2 rfl ?_
  refine mV_getP f10_isKeptIn_3 (by decide) kk_119 rfl (pp_119_1 _) ?_
  refine mV_push f10_isKeptIn_6 ?_
  refine mV_ld (I 120 3) 3 f10_isKeptIn_7 (by decide) kk_120 (by decide) rfl ?_
  refine mV_cV f10_isKeptIn_8 tg_m10_lesser mCls10 (by decide) kk_119 (mC_deep (c10_lesser X I s x0 (I 120 3) rfl) (by decide)) rfl rfl (Nat.le_of_ble_eq_true rfl) ?_
  refine mV_istore (L' := [.ref 119, .int x0, .int (r10_lesser x0 (I 120 3))]) f10_isKeptIn_11 (by decide) rfl rfl ?_
  refine mV_aload f10_isKeptIn_12 rfl ?_
  refine mV_getP f10_isKeptIn_13 (by decide) kk_119 rfl (pp_119_1 _) ?_
  refine mV_push f10_isKeptIn_16 ?_
  refine mV_aload f10_isKeptIn_17 rfl ?_
  refine mV_getP f10_isKeptIn_18 (by decide) kk_119 rfl (pp_119_1 _) ?_
  refine mV_push f10_isKeptIn_21 ?_
  refine mV_ld (I 120 3) 3 f10_isKeptIn_22 (by decide) kk_120 (by decide) rfl ?_
  refine mV_iload f10_isKeptIn_23 rfl ?_
  refine mV_isub f10_isKeptIn_24 ?_
  refine mV_sto 3 f10_isKeptIn_25 (by decide) kk_120 (by decide) ?_
  refine mV_aload f10_isKeptIn_26 rfl ?_
  refine mV_push f10_isKeptIn_27 ?_
  refine mV_push f10_isKeptIn_28 ?_
  refine mV_iload f10_isKeptIn_29 rfl ?_
  obtain ⟨z0, hz0, hr⟩ := mBind hr
  refine mV_cV f10_isKeptIn_30 tg_m10_notes mCls10 (by decide) kk_119 (mC_deep (c10_notes X (mW I 120 3 (I 120 3 - (r10_lesser x0 (I 120 3)))) s 4 (-1) (r10_lesser x0 (I 120 3)) hz0) (by decide)) rfl rfl (Nat.le_of_ble_eq_true rfl) ?_
  have hr := Option.some.inj hr; subst hr
  exact mV_vret rfl f10_isKeptIn_33 hQ
theorem c10_isKeptIn (X : Nat × (Nat → Int32)) (I : mI) (s : Nat) (x0 : Int32) {res : mI} (hr : r10_isKeptIn I x0 = some res) : mC X m10_isKeptIn 1 0 0 [.ref 119, .int x0] NN KK I (PP s) (mRet none NN KK res (PP s)) :=
  mC_of (L0 := [.ref 119, .int x0, mX0]) rfl (Nat.le_of_ble_eq_true rfl) (w10_isKeptIn X I s x0 _ hr (mRet_ok _ _ _ _ _))
def r10_canAct (I : mI) (x0 : Int32) (x1 : Int32) : Option (Int32) := if (x0 : Int32) = (0 : Int32) then (if ((r10_isString x1) : Int32) = (0 : Int32) then some 0 else (mLd I 120 47 (9 + x1)).bind fun z2 => if (z2 : Int32) ≤ (0 : Int32) then some 0 else some 1 : Option (Int32)).bind fun z1 => some (z1 &&& 1) else (if (x0 : Int32) = (1 : Int32) then if (I 120 4 : Int32) ≤ (0 : Int32) then some 0 else some 1 else if (x0 : Int32) = (2 : Int32) then if ((r10_isIn x1 1 99) : Int32) = (0 : Int32) then some 0 else some 1 else some 0 : Option (Int32)).bind fun z0 => some (z0 &&& 1)
set_option maxHeartbeats 4000000 in
set_option maxRecDepth 100000 in
theorem w10_canAct (X : Nat × (Nat → Int32)) (I : mI) (s : Nat) (x0 : Int32) (x1 : Int32) (Q : mQ) {res : Int32} (hr : r10_canAct I x0 x1 = some res) (hQ : Q (some (.int res)) NN KK I (PP s)) : mV X m10_canAct 1 0 0 0 [.ref 119, .int x0, .int x1] [] NN KK I (PP s) Q := by
  unfold r10_canAct at hr
  refine mV_iload f10_canAct_0 rfl ?_
  refine mV_if_ne f10_canAct_1 (fun h0 => ?_) (fun h0 => ?_)
  · rw [if_neg h0] at hr
    refine mV_iload f10_canAct_30 rfl ?_
    refine mV_push f10_canAct_31 ?_
    obtain ⟨z0, hz0, hr⟩ := mBind hr
    have keyz0 : mV X m10_canAct 1 0 0 73 [.ref 119, mX0, mX0] [.int z0] NN KK I (PP s) Q := by
      have hr := Option.some.inj hr; subst hr
      exact mV_zret rfl f10_canAct_73 hQ
    clear hr
    have hr := hz0
    clear hz0
    refine mV_icmp_ne f10_canAct_32 (fun h1 => ?_) (fun h1 => ?_)
    · rw [if_neg h1] at hr
      refine mV_iload f10_canAct_52 rfl ?_
      refine mV_push f10_canAct_53 ?_
      refine mV_icmp_ne f10_canAct_54 (fun h2 => ?_) (fun h2 => ?_)
      · rw [if_neg h2] at hr
        refine mV_push f10_canAct_72 ?_
        have hr := Option.some.inj hr; subst hr
        refine mV_drop (L' := [.ref 119, mX0, mX0]) (mSub_k (mSub_x (mSub_x mSub_n))) ?_
        exact keyz0
      · rw [if_pos h2] at hr
        refine mV_aload f10_canAct_57 rfl ?_
        refine mV_iload f10_canAct_58 rfl ?_
        refine mV_push f10_canAct_59 ?_
        refine mV_push f10_canAct_60 ?_
        refine mV_cV f10_canAct_62 tg_m10_isIn mCls10 (by decide) kk_119 (mC_deep (c10_isIn X I s x1 1 99 rfl) (by decide)) rfl rfl (Nat.le_of_ble_eq_true rfl) ?_
        refine mV_if_eq f10_canAct_65 (fun h3 => ?_) (fun h3 => ?_)
        · rw [if_pos h3] at hr
          refine mV_push f10_canAct_72 ?_
          have hr := Option.some.inj hr; subst hr
          refine mV_drop (L' := [.ref 119, mX0, mX0]) (mSub_k (mSub_x (mSub_x mSub_n))) ?_
          exact keyz0
        · rw [if_neg h3] at hr
          refine mV_push f10_canAct_68 ?_
          refine mV_goto f10_canAct_69 ?_
          have hr := Option.some.inj hr; subst hr
          refine mV_drop (L' := [.ref 119, mX0, mX0]) (mSub_k (mSub_x (mSub_x mSub_n))) ?_
          exact keyz0
    · rw [if_pos h1] at hr
      refine mV_aload f10_canAct_35 rfl ?_
      refine mV_getP f10_canAct_36 (by decide) kk_119 rfl (pp_119_1 _) ?_
      refine mV_push f10_canAct_39 ?_
      refine mV_ld (I 120 4) 4 f10_canAct_40 (by decide) kk_120 (by decide) rfl ?_
      refine mV_if_le f10_canAct_41 (fun h4 => ?_) (fun h4 => ?_)
      · rw [if_pos h4] at hr
        refine mV_push f10_canAct_48 ?_
        refine mV_goto f10_canAct_49 ?_
        have hr := Option.some.inj hr; subst hr
        refine mV_drop (L' := [.ref 119, mX0, mX0]) (mSub_k (mSub_x (mSub_x mSub_n))) ?_
        exact keyz0
      · rw [if_neg h4] at hr
        refine mV_push f10_canAct_44 ?_
        refine mV_goto f10_canAct_45 ?_
        have hr := Option.some.inj hr; subst hr
        refine mV_drop (L' := [.ref 119, mX0, mX0]) (mSub_k (mSub_x (mSub_x mSub_n))) ?_
        exact keyz0
  · rw [if_pos h0] at hr
    refine mV_aload f10_canAct_4 rfl ?_
    refine mV_iload f10_canAct_5 rfl ?_
    refine mV_cV f10_canAct_6 tg_m10_isString mCls10 (by decide) kk_119 (mC_deep (c10_isString X I s x1 rfl) (by decide)) rfl rfl (Nat.le_of_ble_eq_true rfl) ?_
    obtain ⟨z1, hz1, hr⟩ := mBind hr
    have keyz1 : mV X m10_canAct 1 0 0 29 [.ref 119, mX0, mX0] [.int z1] NN KK I (PP s) Q := by
      have hr := Option.some.inj hr; subst hr
      exact mV_zret rfl f10_canAct_29 hQ
    clear hr
    have hr := hz1
    clear hz1
    refine mV_if_eq f10_canAct_9 (fun h5 => ?_) (fun h5 => ?_)
    · rw [if_pos h5] at hr
      refine mV_push f10_canAct_28 ?_
      have hr := Option.some.inj hr; subst hr
      refine mV_drop (L' := [.ref 119, mX0, mX0]) (mSub_k (mSub_x (mSub_x mSub_n))) ?_
      exact keyz1
    · rw [if_neg h5] at hr
      refine mV_aload f10_canAct_12 rfl ?_
      refine mV_getP f10_canAct_13 (by decide) kk_119 rfl (pp_119_1 _) ?_
      refine mV_push f10_canAct_16 ?_
      refine mV_iload f10_canAct_18 rfl ?_
      refine mV_iadd f10_canAct_19 ?_
      obtain ⟨z2, hz2, hr⟩ := mBind hr
      refine mV_ldO f10_canAct_20 (by decide) kk_120 hz2 ?_
      refine mV_if_le f10_canAct_21 (fun h6 => ?_) (fun h6 => ?_)
      · rw [if_pos h6] at hr
        refine mV_push f10_canAct_28 ?_
        have hr := Option.some.inj hr; subst hr
        refine mV_drop (L' := [.ref 119, mX0, mX0]) (mSub_k (mSub_x (mSub_x mSub_n))) ?_
        exact keyz1
      · rw [if_neg h6] at hr
        refine mV_push f10_canAct_24 ?_
        refine mV_goto f10_canAct_25 ?_
        have hr := Option.some.inj hr; subst hr
        refine mV_drop (L' := [.ref 119, mX0, mX0]) (mSub_k (mSub_x (mSub_x mSub_n))) ?_
        exact keyz1
theorem c10_canAct (X : Nat × (Nat → Int32)) (I : mI) (s : Nat) (x0 : Int32) (x1 : Int32) {res : Int32} (hr : r10_canAct I x0 x1 = some res) : mC X m10_canAct 1 0 0 [.ref 119, .int x0, .int x1] NN KK I (PP s) (mRet (some (.int res)) NN KK I (PP s)) :=
  mC_of (L0 := [.ref 119, .int x0, .int x1]) rfl (Nat.le_of_ble_eq_true rfl) (w10_canAct X I s x0 x1 _ hr (mRet_ok _ _ _ _ _))
def r10_act (I : mI) (x0 : Int32) (x1 : Int32) : Option (Int32 × mI) := (r10_canAct (mW I 119 0 0) x0 x1).bind fun z0 => if (z0 : Int32) = (0 : Int32) then some (0, (mW I 119 0 0)) else (r10_keepsAhead (mW I 119 0 0)).bind fun z1 => (if (x0 : Int32) = (0 : Int32) then (r10_tunes z1 x1).bind fun z3 => some z3 else some z1 : Option (mI)).bind fun z2 => (if (x0 : Int32) = (1 : Int32) then (r10_empties z2).bind fun z5 => some z5 else some z2 : Option (mI)).bind fun z4 => (if (x0 : Int32) = (2 : Int32) then (r10_isKeptIn z4 x1).bind fun z7 => some z7 else some z4 : Option (mI)).bind fun z6 => some (1, z6)
set_option maxHeartbeats 4000000 in
set_option maxRecDepth 100000 in
theorem w10_act (X : Nat × (Nat → Int32)) (I : mI) (s : Nat) (x0 : Int32) (x1 : Int32) (Q : mQ) {res : Int32 × mI} (hr : r10_act I x0 x1 = some res) (hQ : Q (some (.int res.1)) NN KK res.2 (PP s)) : mV X m10_act 2 0 0 0 [.ref 119, .int x0, .int x1] [] NN KK I (PP s) Q := by
  unfold r10_act at hr
  refine mV_aload f10_act_0 rfl ?_
  refine mV_push f10_act_1 ?_
  refine mV_putI f10_act_2 (by decide) kk_119 rfl rfl ?_
  refine mV_aload f10_act_5 rfl ?_
  refine mV_iload f10_act_6 rfl ?_
  refine mV_iload f10_act_7 rfl ?_
  obtain ⟨z0, hz0, hr⟩ := mBind hr
  refine mV_cV f10_act_8 tg_m10_canAct mCls10 (by decide) kk_119 (mC_deep (c10_canAct X (mW I 119 0 0) s x0 x1 hz0) (by decide)) rfl rfl (Nat.le_of_ble_eq_true rfl) ?_
  refine mV_if_ne f10_act_11 (fun h0 => ?_) (fun h0 => ?_)
  · rw [if_neg h0] at hr
    refine mV_aload f10_act_16 rfl ?_
    obtain ⟨z1, hz1, hr⟩ := mBind hr
    refine mV_cV f10_act_17 tg_m10_keepsAhead mCls10 (by decide) kk_119 (mC_deep (c10_keepsAhead X (mW I 119 0 0) s hz1) (by decide)) rfl rfl (Nat.le_of_ble_eq_true rfl) ?_
    refine mV_iload f10_act_20 rfl ?_
    obtain ⟨z2, hz2, hr⟩ := mBind hr
    have keyz2 : mV X m10_act 2 0 0 29 [.ref 119, .int x0, .int x1] [] NN KK z2 (PP s) Q := by
      refine mV_iload f10_act_29 rfl ?_
      refine mV_push f10_act_30 ?_
      obtain ⟨z4, hz4, hr⟩ := mBind hr
      have keyz4 : mV X m10_act 2 0 0 38 [.ref 119, .int x0, .int x1] [] NN KK z4 (PP s) Q := by
        refine mV_iload f10_act_38 rfl ?_
        refine mV_push f10_act_39 ?_
        obtain ⟨z6, hz6, hr⟩ := mBind hr
        have keyz6 : mV X m10_act 2 0 0 48 [.ref 119, mX0, mX0] [] NN KK z6 (PP s) Q := by
          refine mV_push f10_act_48 ?_
          have hr := Option.some.inj hr; subst hr
          exact mV_iret rfl rfl f10_act_49 hQ
        clear hr
        have hr := hz6
        clear hz6
        refine mV_icmp_ne f10_act_40 (fun h3 => ?_) (fun h3 => ?_)
        · rw [if_neg h3] at hr
          have hr := Option.some.inj hr; subst hr
          refine mV_drop (L' := [.ref 119, mX0, mX0]) (mSub_k (mSub_x (mSub_x mSub_n))) ?_
          exact keyz6
        · rw [if_pos h3] at hr
          refine mV_aload f10_act_43 rfl ?_
          refine mV_iload f10_act_44 rfl ?_
          obtain ⟨z7, hz7, hr⟩ := mBind hr
          refine mV_cV f10_act_45 tg_m10_isKeptIn mCls10 (by decide) kk_119 (mC_deep (c10_isKeptIn X z4 s x1 hz7) (by decide)) rfl rfl (Nat.le_of_ble_eq_true rfl) ?_
          have hr := Option.some.inj hr; subst hr
          refine mV_drop (L' := [.ref 119, mX0, mX0]) (mSub_k (mSub_x (mSub_x mSub_n))) ?_
          exact keyz6
      clear hr
      have hr := hz4
      clear hz4
      refine mV_icmp_ne f10_act_31 (fun h2 => ?_) (fun h2 => ?_)
      · rw [if_neg h2] at hr
        have hr := Option.some.inj hr; subst hr
        exact keyz4
      · rw [if_pos h2] at hr
        refine mV_aload f10_act_34 rfl ?_
        obtain ⟨z5, hz5, hr⟩ := mBind hr
        refine mV_cV f10_act_35 tg_m10_empties mCls10 (by decide) kk_119 (mC_deep (c10_empties X z2 s hz5) (by decide)) rfl rfl (Nat.le_of_ble_eq_true rfl) ?_
        have hr := Option.some.inj hr; subst hr
        exact keyz4
    clear hr
    have hr := hz2
    clear hz2
    refine mV_if_ne f10_act_21 (fun h1 => ?_) (fun h1 => ?_)
    · rw [if_neg h1] at hr
      have hr := Option.some.inj hr; subst hr
      exact keyz2
    · rw [if_pos h1] at hr
      refine mV_aload f10_act_24 rfl ?_
      refine mV_iload f10_act_25 rfl ?_
      obtain ⟨z3, hz3, hr⟩ := mBind hr
      refine mV_cV f10_act_26 tg_m10_tunes mCls10 (by decide) kk_119 (mC_deep (c10_tunes X z1 s x1 hz3) (by decide)) rfl rfl (Nat.le_of_ble_eq_true rfl) ?_
      have hr := Option.some.inj hr; subst hr
      exact keyz2
  · rw [if_pos h0] at hr
    refine mV_push f10_act_14 ?_
    have hr := Option.some.inj hr; subst hr
    exact mV_iret rfl rfl f10_act_15 hQ
theorem c10_act (X : Nat × (Nat → Int32)) (I : mI) (s : Nat) (x0 : Int32) (x1 : Int32) {res : Int32 × mI} (hr : r10_act I x0 x1 = some res) : mC X m10_act 2 0 0 [.ref 119, .int x0, .int x1] NN KK I (PP s) (mRet (some (.int res.1)) NN KK res.2 (PP s)) :=
  mC_of (L0 := [.ref 119, .int x0, .int x1]) rfl (Nat.le_of_ble_eq_true rfl) (w10_act X I s x0 x1 _ hr (mRet_ok _ _ _ _ _))
def r10_does (I : mI) (x0 : Int32) : Option (mI) := (mLd I 140 96 (x0 + 1)).bind fun z0 => (mLd I 140 96 (x0 + 2)).bind fun z1 => (if (z0 : Int32) = (0 : Int32) then (r10_tunes I z1).bind fun z3 => some z3 else some I : Option (mI)).bind fun z2 => (if (z0 : Int32) = (1 : Int32) then (r10_empties z2).bind fun z5 => some z5 else some z2 : Option (mI)).bind fun z4 => (if (z0 : Int32) = (2 : Int32) then (r10_isKeptIn z4 z1).bind fun z7 => some z7 else some z4 : Option (mI)).bind fun z6 => (if (z0 : Int32) = (3 : Int32) then some (mW z6 120 6 z1) else some z6 : Option (mI)).bind fun z8 => (if (z0 : Int32) = (4 : Int32) then some (mW z8 120 5 (z1 - 10)) else some z8 : Option (mI)).bind fun z9 => some z9
set_option maxHeartbeats 4000000 in
set_option maxRecDepth 100000 in
theorem w10_does (X : Nat × (Nat → Int32)) (I : mI) (s : Nat) (x0 : Int32) (Q : mQ) {res : mI} (hr : r10_does I x0 = some res) (hQ : Q none NN KK res (PP s)) : mV X m10_does 2 0 0 0 [.ref 119, .int x0, mX0, mX0] [] NN KK I (PP s) Q := by
  unfold r10_does at hr
  refine mV_aload f10_does_0 rfl ?_
  refine mV_getP f10_does_1 (by decide) kk_119 rfl (pp_119_40 _) ?_
  refine mV_iload f10_does_4 rfl ?_
  refine mV_push f10_does_5 ?_
  refine mV_iadd f10_does_6 ?_
  obtain ⟨z0, hz0, hr⟩ := mBind hr
  refine mV_ldO f10_does_7 (by decide) kk_140 hz0 ?_
  refine mV_istore (L' := [.ref 119, .int x0, .int z0, mX0]) f10_does_8 (by decide) rfl rfl ?_
  refine mV_aload f10_does_9 rfl ?_
  refine mV_getP f10_does_10 (by decide) kk_119 rfl (pp_119_40 _) ?_
  refine mV_iload f10_does_13 rfl ?_
  refine mV_push f10_does_14 ?_
  refine mV_iadd f10_does_15 ?_
  obtain ⟨z1, hz1, hr⟩ := mBind hr
  refine mV_ldO f10_does_16 (by decide) kk_140 hz1 ?_
  refine mV_istore (L' := [.ref 119, .int x0, .int z0, .int z1]) f10_does_17 (by decide) rfl rfl ?_
  refine mV_iload f10_does_18 rfl ?_
  obtain ⟨z2, hz2, hr⟩ := mBind hr
  have keyz2 : mV X m10_does 2 0 0 27 [.ref 119, mX0, .int z0, .int z1] [] NN KK z2 (PP s) Q := by
    refine mV_iload f10_does_27 rfl ?_
    refine mV_push f10_does_28 ?_
    obtain ⟨z4, hz4, hr⟩ := mBind hr
    have keyz4 : mV X m10_does 2 0 0 36 [.ref 119, mX0, .int z0, .int z1] [] NN KK z4 (PP s) Q := by
      refine mV_iload f10_does_36 rfl ?_
      refine mV_push f10_does_37 ?_
      obtain ⟨z6, hz6, hr⟩ := mBind hr
      have keyz6 : mV X m10_does 2 0 0 46 [.ref 119, mX0, .int z0, .int z1] [] NN KK z6 (PP s) Q := by
        refine mV_iload f10_does_46 rfl ?_
        refine mV_push f10_does_47 ?_
        obtain ⟨z8, hz8, hr⟩ := mBind hr
        have keyz8 : mV X m10_does 2 0 0 59 [.ref 119, mX0, .int z0, .int z1] [] NN KK z8 (PP s) Q := by
          refine mV_iload f10_does_59 rfl ?_
          refine mV_push f10_does_60 ?_
          obtain ⟨z9, hz9, hr⟩ := mBind hr
          have keyz9 : mV X m10_does 2 0 0 74 [.ref 119, mX0, mX0, mX0] [] NN KK z9 (PP s) Q := by
            have hr := Option.some.inj hr; subst hr
            exact mV_vret rfl f10_does_74 hQ
          clear hr
          have hr := hz9
          clear hz9
          refine mV_icmp_ne f10_does_61 (fun h4 => ?_) (fun h4 => ?_)
          · rw [if_neg h4] at hr
            have hr := Option.some.inj hr; subst hr
            refine mV_drop (L' := [.ref 119, mX0, mX0, mX0]) (mSub_k (mSub_x (mSub_x (mSub_x mSub_n)))) ?_
            exact keyz9
          · rw [if_pos h4] at hr
            refine mV_aload f10_does_64 rfl ?_
            refine mV_getP f10_does_65 (by decide) kk_119 rfl (pp_119_1 _) ?_
            refine mV_push f10_does_68 ?_
            refine mV_iload f10_does_69 rfl ?_
            refine mV_push f10_does_70 ?_
            refine mV_isub f10_does_72 ?_
            refine mV_sto 5 f10_does_73 (by decide) kk_120 (by decide) ?_
            have hr := Option.some.inj hr; subst hr
            refine mV_drop (L' := [.ref 119, mX0, mX0, mX0]) (mSub_k (mSub_x (mSub_x (mSub_x mSub_n)))) ?_
            exact keyz9
        clear hr
        have hr := hz8
        clear hz8
        refine mV_icmp_ne f10_does_48 (fun h3 => ?_) (fun h3 => ?_)
        · rw [if_neg h3] at hr
          have hr := Option.some.inj hr; subst hr
          exact keyz8
        · rw [if_pos h3] at hr
          refine mV_aload f10_does_51 rfl ?_
          refine mV_getP f10_does_52 (by decide) kk_119 rfl (pp_119_1 _) ?_
          refine mV_push f10_does_55 ?_
          refine mV_iload f10_does_57 rfl ?_
          refine mV_sto 6 f10_does_58 (by decide) kk_120 (by decide) ?_
          have hr := Option.some.inj hr; subst hr
          exact keyz8
      clear hr
      have hr := hz6
      clear hz6
      refine mV_icmp_ne f10_does_38 (fun h2 => ?_) (fun h2 => ?_)
      · rw [if_neg h2] at hr
        have hr := Option.some.inj hr; subst hr
        exact keyz6
      · rw [if_pos h2] at hr
        refine mV_aload f10_does_41 rfl ?_
        refine mV_iload f10_does_42 rfl ?_
        obtain ⟨z7, hz7, hr⟩ := mBind hr
        refine mV_cV f10_does_43 tg_m10_isKeptIn mCls10 (by decide) kk_119 (mC_deep (c10_isKeptIn X z4 s z1 hz7) (by decide)) rfl rfl (Nat.le_of_ble_eq_true rfl) ?_
        have hr := Option.some.inj hr; subst hr
        exact keyz6
    clear hr
    have hr := hz4
    clear hz4
    refine mV_icmp_ne f10_does_29 (fun h1 => ?_) (fun h1 => ?_)
    · rw [if_neg h1] at hr
      have hr := Option.some.inj hr; subst hr
      exact keyz4
    · rw [if_pos h1] at hr
      refine mV_aload f10_does_32 rfl ?_
      obtain ⟨z5, hz5, hr⟩ := mBind hr
      refine mV_cV f10_does_33 tg_m10_empties mCls10 (by decide) kk_119 (mC_deep (c10_empties X z2 s hz5) (by decide)) rfl rfl (Nat.le_of_ble_eq_true rfl) ?_
      have hr := Option.some.inj hr; subst hr
      exact keyz4
  clear hr
  have hr := hz2
  clear hz2
  refine mV_if_ne f10_does_19 (fun h0 => ?_) (fun h0 => ?_)
  · rw [if_neg h0] at hr
    have hr := Option.some.inj hr; subst hr
    refine mV_drop (L' := [.ref 119, mX0, .int z0, .int z1]) (mSub_k (mSub_x (mSub_k (mSub_k mSub_n)))) ?_
    exact keyz2
  · rw [if_pos h0] at hr
    refine mV_aload f10_does_22 rfl ?_
    refine mV_iload f10_does_23 rfl ?_
    obtain ⟨z3, hz3, hr⟩ := mBind hr
    refine mV_cV f10_does_24 tg_m10_tunes mCls10 (by decide) kk_119 (mC_deep (c10_tunes X I s z1 hz3) (by decide)) rfl rfl (Nat.le_of_ble_eq_true rfl) ?_
    have hr := Option.some.inj hr; subst hr
    refine mV_drop (L' := [.ref 119, mX0, .int z0, .int z1]) (mSub_k (mSub_x (mSub_k (mSub_k mSub_n)))) ?_
    exact keyz2
theorem c10_does (X : Nat × (Nat → Int32)) (I : mI) (s : Nat) (x0 : Int32) {res : mI} (hr : r10_does I x0 = some res) : mC X m10_does 2 0 0 [.ref 119, .int x0] NN KK I (PP s) (mRet none NN KK res (PP s)) :=
  mC_of (L0 := [.ref 119, .int x0, mX0, mX0]) rfl (Nat.le_of_ble_eq_true rfl) (w10_does X I s x0 _ hr (mRet_ok _ _ _ _ _))
def l10_recital_11 (k1 : Int32) (k2 : Int32) : Nat → Int32 → mI → Option (mI)
  | 0, _, _ => none
  | f + 1, y3, I => if (k2 : Int32) ≤ (y3 : Int32) then some I else (mLd I 139 288 (k1 + 1)).bind fun z0 => (mLd I 139 288 ((k1 + 3) + y3)).bind fun z1 => (r10_plays I z0 z1).bind fun z2 => (if ((k2 - 1) : Int32) ≤ (y3 : Int32) then some z2.2 else (mLd z2.2 139 288 (k1 + 1)).bind fun z4 => (mLd z2.2 139 288 ((k1 + 3) + y3)).bind fun z5 => (r10_waits1 z2.2 z4 z5).bind fun z6 => some z6 : Option (mI)).bind fun z3 => l10_recital_11 k1 k2 f (y3 + 1) z3
def r10_recital (I : mI) (x0 : Int32) : Option (Int32 × mI) := (mLd I 139 288 (x0 + 2)).bind fun z0 => (l10_recital_11 x0 z0 FU 0 I).bind fun z1 => some (z0, z1)
set_option maxHeartbeats 4000000 in
set_option maxRecDepth 100000 in
theorem t10_recital_11 (X : Nat × (Nat → Int32)) (Q : mQ) (s : Nat) (k1 : Int32) (k2 : Int32) : ∀ (f : Nat) (y3 : Int32) (I : mI) (z : mI), l10_recital_11 k1 k2 f y3 I = some z → mV X m10_recital 7 0 0 74 [.ref 119, .int k1, .int k2, mX0] [] NN KK z (PP s) Q → mV X m10_recital 7 0 0 11 [.ref 119, .int k1, .int k2, .int y3] [] NN KK I (PP s) Q := by
  intro f
  induction f with
  | zero => intro y3 I z hr hk; cases hr
  | succ f ih =>
    intro y3 I z hr hk
    unfold l10_recital_11 at hr
    refine mV_iload f10_recital_11 rfl ?_
    refine mV_iload f10_recital_12 rfl ?_
    refine mV_icmp_ge f10_recital_13 (fun h0 => ?_) (fun h0 => ?_)
    · rw [if_pos h0] at hr
      have hr := Option.some.inj hr; subst hr
      refine mV_drop (L' := [.ref 119, .int k1, .int k2, mX0]) (mSub_k (mSub_k (mSub_k (mSub_x mSub_n)))) ?_
      exact hk
    · rw [if_neg h0] at hr
      refine mV_aload f10_recital_16 rfl ?_
      refine mV_aload f10_recital_17 rfl ?_
      refine mV_getP f10_recital_18 (by decide) kk_119 rfl (pp_119_38 _) ?_
      refine mV_iload f10_recital_21 rfl ?_
      refine mV_push f10_recital_22 ?_
      refine mV_iadd f10_recital_23 ?_
      obtain ⟨z0, hz0, hr⟩ := mBind hr
      refine mV_ldO f10_recital_24 (by decide) kk_139 hz0 ?_
      refine mV_aload f10_recital_25 rfl ?_
      refine mV_getP f10_recital_26 (by decide) kk_119 rfl (pp_119_38 _) ?_
      refine mV_iload f10_recital_29 rfl ?_
      refine mV_push f10_recital_30 ?_
      refine mV_iadd f10_recital_31 ?_
      refine mV_iload f10_recital_32 rfl ?_
      refine mV_iadd f10_recital_33 ?_
      obtain ⟨z1, hz1, hr⟩ := mBind hr
      refine mV_ldO f10_recital_34 (by decide) kk_139 hz1 ?_
      obtain ⟨z2, hz2, hr⟩ := mBind hr
      refine mV_cV f10_recital_35 tg_m10_plays mCls10 (by decide) kk_119 (mC_deep (c10_plays X I s z0 z1 hz2) (by decide)) rfl rfl (Nat.le_of_ble_eq_true rfl) ?_
      refine mV_pop f10_recital_38 rfl ?_
      refine mV_iload f10_recital_39 rfl ?_
      refine mV_iload f10_recital_40 rfl ?_
      refine mV_push f10_recital_41 ?_
      refine mV_isub f10_recital_42 ?_
      obtain ⟨z3, hz3, hr⟩ := mBind hr
      have keyz3 : mV X m10_recital 7 0 0 68 [.ref 119, .int k1, .int k2, .int y3] [] NN KK z3 (PP s) Q := by
        refine mV_iinc (y := (y3 + 1)) (L' := [.ref 119, .int k1, .int k2, .int (y3 + 1)]) f10_recital_68 rfl rfl (by decide) rfl rfl ?_
        refine mV_goto f10_recital_71 ?_
        exact ih (y3 + 1) z3 _ hr hk
      clear hr
      have hr := hz3
      clear hz3
      refine mV_icmp_ge f10_recital_43 (fun h1 => ?_) (fun h1 => ?_)
      · rw [if_pos h1] at hr
        have hr := Option.some.inj hr; subst hr
        exact keyz3
      · rw [if_neg h1] at hr
        refine mV_aload f10_recital_46 rfl ?_
        refine mV_aload f10_recital_47 rfl ?_
        refine mV_getP f10_recital_48 (by decide) kk_119 rfl (pp_119_38 _) ?_
        refine mV_iload f10_recital_51 rfl ?_
        refine mV_push f10_recital_52 ?_
        refine mV_iadd f10_recital_53 ?_
        obtain ⟨z4, hz4, hr⟩ := mBind hr
        refine mV_ldO f10_recital_54 (by decide) kk_139 hz4 ?_
        refine mV_aload f10_recital_55 rfl ?_
        refine mV_getP f10_recital_56 (by decide) kk_119 rfl (pp_119_38 _) ?_
        refine mV_iload f10_recital_59 rfl ?_
        refine mV_push f10_recital_60 ?_
        refine mV_iadd f10_recital_61 ?_
        refine mV_iload f10_recital_62 rfl ?_
        refine mV_iadd f10_recital_63 ?_
        obtain ⟨z5, hz5, hr⟩ := mBind hr
        refine mV_ldO f10_recital_64 (by decide) kk_139 hz5 ?_
        obtain ⟨z6, hz6, hr⟩ := mBind hr
        refine mV_cV f10_recital_65 tg_m10_waits1 mCls10 (by decide) kk_119 (mC_deep (c10_waits1 X z2.2 s z4 z5 hz6) (by decide)) rfl rfl (Nat.le_of_ble_eq_true rfl) ?_
        have hr := Option.some.inj hr; subst hr
        exact keyz3
set_option maxHeartbeats 4000000 in
set_option maxRecDepth 100000 in
theorem w10_recital (X : Nat × (Nat → Int32)) (I : mI) (s : Nat) (x0 : Int32) (Q : mQ) {res : Int32 × mI} (hr : r10_recital I x0 = some res) (hQ : Q (some (.int res.1)) NN KK res.2 (PP s)) : mV X m10_recital 7 0 0 0 [.ref 119, .int x0, mX0, mX0] [] NN KK I (PP s) Q := by
  unfold r10_recital at hr
  refine mV_aload f10_recital_0 rfl ?_
  refine mV_getP f10_recital_1 (by decide) kk_119 rfl (pp_119_38 _) ?_
  refine mV_iload f10_recital_4 rfl ?_
  refine mV_push f10_recital_5 ?_
  refine mV_iadd f10_recital_6 ?_
  obtain ⟨z0, hz0, hr⟩ := mBind hr
  refine mV_ldO f10_recital_7 (by decide) kk_139 hz0 ?_
  refine mV_istore (L' := [.ref 119, .int x0, .int z0, mX0]) f10_recital_8 (by decide) rfl rfl ?_
  refine mV_push f10_recital_9 ?_
  refine mV_istore (L' := [.ref 119, .int x0, .int z0, .int 0]) f10_recital_10 (by decide) rfl rfl ?_
  obtain ⟨z1, hz1, hr⟩ := mBind hr
  refine t10_recital_11 X Q s x0 z0 FU 0 I _ hz1 ?_
  refine mV_iload f10_recital_74 rfl ?_
  have hr := Option.some.inj hr; subst hr
  exact mV_iret rfl rfl f10_recital_75 hQ
theorem c10_recital (X : Nat × (Nat → Int32)) (I : mI) (s : Nat) (x0 : Int32) {res : Int32 × mI} (hr : r10_recital I x0 = some res) : mC X m10_recital 7 0 0 [.ref 119, .int x0] NN KK I (PP s) (mRet (some (.int res.1)) NN KK res.2 (PP s)) :=
  mC_of (L0 := [.ref 119, .int x0, mX0, mX0]) rfl (Nat.le_of_ble_eq_true rfl) (w10_recital X I s x0 _ hr (mRet_ok _ _ _ _ _))
def l10_goesBy_2 : Nat → Int32 → mI → Option (mI)
  | 0, _, _ => none
  | f + 1, y1, I => if ((3 * I 119 39) : Int32) ≤ (y1 : Int32) then some I else (mLd I 140 96 y1).bind fun z0 => (if (z0 : Int32) = (I 120 0 : Int32) then (r10_does I y1).bind fun z2 => some z2 else some I : Option (mI)).bind fun z1 => l10_goesBy_2 f (y1 + 3) z1
def l10_goesBy_43 : Nat → Int32 → Int32 → mI → Option (Int32 × mI)
  | 0, _, _, _ => none
  | f + 1, y1, y2, I => if ((9 * I 119 37) : Int32) ≤ (y2 : Int32) then some (y1, I) else (mLd I 139 288 y2).bind fun z0 => (if (z0 : Int32) = (I 120 0 : Int32) then (r10_recital I y2).bind fun z2 => some ((y1 + z2.1), z2.2) else some (y1, I) : Option (Int32 × mI)).bind fun z1 => l10_goesBy_43 f z1.1 (y2 + 9) z1.2
def r10_goesBy (I : mI) : Option (Int32 × mI) := (l10_goesBy_2 FU 0 I).bind fun z0 => (l10_goesBy_43 FU 0 0 z0).bind fun z1 => (r10_salted (mW z1.2 120 3 (z1.2 120 3 - (z1.2 120 3 - (z1.2 120 3 / 2)))) (z1.2 120 3 - (z1.2 120 3 / 2))).bind fun z2 => some (z1.1, (mW (mW z2 120 6 (r10_greater 0 (z2 120 6 - 1))) 120 0 (z2 120 0 + 1)))
set_option maxHeartbeats 4000000 in
set_option maxRecDepth 100000 in
theorem t10_goesBy_2 (X : Nat × (Nat → Int32)) (Q : mQ) (s : Nat) : ∀ (f : Nat) (y1 : Int32) (I : mI) (z : mI), l10_goesBy_2 f y1 I = some z → mV X m10_goesBy 8 0 0 39 [.ref 119, mX0, mX0] [] NN KK z (PP s) Q → mV X m10_goesBy 8 0 0 2 [.ref 119, .int y1, mX0] [] NN KK I (PP s) Q := by
  intro f
  induction f with
  | zero => intro y1 I z hr hk; cases hr
  | succ f ih =>
    intro y1 I z hr hk
    unfold l10_goesBy_2 at hr
    refine mV_iload f10_goesBy_2 rfl ?_
    refine mV_push f10_goesBy_3 ?_
    refine mV_aload f10_goesBy_4 rfl ?_
    refine mV_gI (I 119 39) f10_goesBy_5 (by decide) kk_119 rfl rfl ?_
    refine mV_imul f10_goesBy_8 ?_
    refine mV_icmp_ge f10_goesBy_9 (fun h0 => ?_) (fun h0 => ?_)
    · rw [if_pos h0] at hr
      have hr := Option.some.inj hr; subst hr
      refine mV_drop (L' := [.ref 119, mX0, mX0]) (mSub_k (mSub_x (mSub_x mSub_n))) ?_
      exact hk
    · rw [if_neg h0] at hr
      refine mV_aload f10_goesBy_12 rfl ?_
      refine mV_getP f10_goesBy_13 (by decide) kk_119 rfl (pp_119_40 _) ?_
      refine mV_iload f10_goesBy_16 rfl ?_
      obtain ⟨z0, hz0, hr⟩ := mBind hr
      refine mV_ldO f10_goesBy_17 (by decide) kk_140 hz0 ?_
      refine mV_aload f10_goesBy_18 rfl ?_
      refine mV_getP f10_goesBy_19 (by decide) kk_119 rfl (pp_119_1 _) ?_
      refine mV_push f10_goesBy_22 ?_
      refine mV_ld (I 120 0) 0 f10_goesBy_23 (by decide) kk_120 (by decide) rfl ?_
      obtain ⟨z1, hz1, hr⟩ := mBind hr
      have keyz1 : mV X m10_goesBy 8 0 0 32 [.ref 119, .int y1, mX0] [] NN KK z1 (PP s) Q := by
        refine mV_iload f10_goesBy_32 rfl ?_
        refine mV_push f10_goesBy_33 ?_
        refine mV_iadd f10_goesBy_34 ?_
        refine mV_istore (L' := [.ref 119, .int (y1 + 3), mX0]) f10_goesBy_35 (by decide) rfl rfl ?_
        refine mV_goto f10_goesBy_36 ?_
        exact ih (y1 + 3) z1 _ hr hk
      clear hr
      have hr := hz1
      clear hz1
      refine mV_icmp_ne f10_goesBy_24 (fun h1 => ?_) (fun h1 => ?_)
      · rw [if_neg h1] at hr
        have hr := Option.some.inj hr; subst hr
        exact keyz1
      · rw [if_pos h1] at hr
        refine mV_aload f10_goesBy_27 rfl ?_
        refine mV_iload f10_goesBy_28 rfl ?_
        obtain ⟨z2, hz2, hr⟩ := mBind hr
        refine mV_cV f10_goesBy_29 tg_m10_does mCls10 (by decide) kk_119 (mC_deep (c10_does X I s y1 hz2) (by decide)) rfl rfl (Nat.le_of_ble_eq_true rfl) ?_
        have hr := Option.some.inj hr; subst hr
        exact keyz1
set_option maxHeartbeats 4000000 in
set_option maxRecDepth 100000 in
theorem t10_goesBy_43 (X : Nat × (Nat → Int32)) (Q : mQ) (s : Nat) : ∀ (f : Nat) (y1 : Int32) (y2 : Int32) (I : mI) (z : Int32 × mI), l10_goesBy_43 f y1 y2 I = some z → mV X m10_goesBy 8 0 0 85 [.ref 119, .int z.1, mX0] [] NN KK z.2 (PP s) Q → mV X m10_goesBy 8 0 0 43 [.ref 119, .int y1, .int y2] [] NN KK I (PP s) Q := by
  intro f
  induction f with
  | zero => intro y1 y2 I z hr hk; cases hr
  | succ f ih =>
    intro y1 y2 I z hr hk
    unfold l10_goesBy_43 at hr
    refine mV_iload f10_goesBy_43 rfl ?_
    refine mV_push f10_goesBy_44 ?_
    refine mV_aload f10_goesBy_46 rfl ?_
    refine mV_gI (I 119 37) f10_goesBy_47 (by decide) kk_119 rfl rfl ?_
    refine mV_imul f10_goesBy_50 ?_
    refine mV_icmp_ge f10_goesBy_51 (fun h0 => ?_) (fun h0 => ?_)
    · rw [if_pos h0] at hr
      have hr := Option.some.inj hr; subst hr
      refine mV_drop (L' := [.ref 119, .int y1, mX0]) (mSub_k (mSub_k (mSub_x mSub_n))) ?_
      exact hk
    · rw [if_neg h0] at hr
      refine mV_aload f10_goesBy_54 rfl ?_
      refine mV_getP f10_goesBy_55 (by decide) kk_119 rfl (pp_119_38 _) ?_
      refine mV_iload f10_goesBy_58 rfl ?_
      obtain ⟨z0, hz0, hr⟩ := mBind hr
      refine mV_ldO f10_goesBy_59 (by decide) kk_139 hz0 ?_
      refine mV_aload f10_goesBy_60 rfl ?_
      refine mV_getP f10_goesBy_61 (by decide) kk_119 rfl (pp_119_1 _) ?_
      refine mV_push f10_goesBy_64 ?_
      refine mV_ld (I 120 0) 0 f10_goesBy_65 (by decide) kk_120 (by decide) rfl ?_
      obtain ⟨z1, hz1, hr⟩ := mBind hr
      have keyz1 : mV X m10_goesBy 8 0 0 77 [.ref 119, .int z1.1, .int y2] [] NN KK z1.2 (PP s) Q := by
        refine mV_iload f10_goesBy_77 rfl ?_
        refine mV_push f10_goesBy_78 ?_
        refine mV_iadd f10_goesBy_80 ?_
        refine mV_istore (L' := [.ref 119, .int z1.1, .int (y2 + 9)]) f10_goesBy_81 (by decide) rfl rfl ?_
        refine mV_goto f10_goesBy_82 ?_
        exact ih z1.1 (y2 + 9) z1.2 _ hr hk
      clear hr
      have hr := hz1
      clear hz1
      refine mV_icmp_ne f10_goesBy_66 (fun h1 => ?_) (fun h1 => ?_)
      · rw [if_neg h1] at hr
        have hr := Option.some.inj hr; subst hr
        exact keyz1
      · rw [if_pos h1] at hr
        refine mV_iload f10_goesBy_69 rfl ?_
        refine mV_aload f10_goesBy_70 rfl ?_
        refine mV_iload f10_goesBy_71 rfl ?_
        obtain ⟨z2, hz2, hr⟩ := mBind hr
        refine mV_cV f10_goesBy_72 tg_m10_recital mCls10 (by decide) kk_119 (mC_deep (c10_recital X I s y2 hz2) (by decide)) rfl rfl (Nat.le_of_ble_eq_true rfl) ?_
        refine mV_iadd f10_goesBy_75 ?_
        refine mV_istore (L' := [.ref 119, .int (y1 + z2.1), .int y2]) f10_goesBy_76 (by decide) rfl rfl ?_
        have hr := Option.some.inj hr; subst hr
        exact keyz1
set_option maxHeartbeats 4000000 in
set_option maxRecDepth 100000 in
theorem w10_goesBy (X : Nat × (Nat → Int32)) (I : mI) (s : Nat) (Q : mQ) {res : Int32 × mI} (hr : r10_goesBy I = some res) (hQ : Q (some (.int res.1)) NN KK res.2 (PP s)) : mV X m10_goesBy 8 0 0 0 [.ref 119, mX0, mX0] [] NN KK I (PP s) Q := by
  unfold r10_goesBy at hr
  refine mV_push f10_goesBy_0 ?_
  refine mV_istore (L' := [.ref 119, .int 0, mX0]) f10_goesBy_1 (by decide) rfl rfl ?_
  obtain ⟨z0, hz0, hr⟩ := mBind hr
  refine t10_goesBy_2 X Q s FU 0 I _ hz0 ?_
  refine mV_push f10_goesBy_39 ?_
  refine mV_istore (L' := [.ref 119, .int 0, mX0]) f10_goesBy_40 (by decide) rfl rfl ?_
  refine mV_push f10_goesBy_41 ?_
  refine mV_istore (L' := [.ref 119, .int 0, .int 0]) f10_goesBy_42 (by decide) rfl rfl ?_
  obtain ⟨z1, hz1, hr⟩ := mBind hr
  refine t10_goesBy_43 X Q s FU 0 0 z0 _ hz1 ?_
  refine mV_aload f10_goesBy_85 rfl ?_
  refine mV_getP f10_goesBy_86 (by decide) kk_119 rfl (pp_119_1 _) ?_
  refine mV_push f10_goesBy_89 ?_
  refine mV_ld (z1.2 120 3) 3 f10_goesBy_90 (by decide) kk_120 (by decide) rfl ?_
  refine mV_aload f10_goesBy_91 rfl ?_
  refine mV_getP f10_goesBy_92 (by decide) kk_119 rfl (pp_119_1 _) ?_
  refine mV_push f10_goesBy_95 ?_
  refine mV_ld (z1.2 120 3) 3 f10_goesBy_96 (by decide) kk_120 (by decide) rfl ?_
  refine mV_push f10_goesBy_97 ?_
  refine mV_idiv f10_goesBy_98 (by decide) ?_
  refine mV_isub f10_goesBy_99 ?_
  refine mV_istore (L' := [.ref 119, .int z1.1, .int (z1.2 120 3 - (z1.2 120 3 / 2))]) f10_goesBy_100 (by decide) rfl rfl ?_
  refine mV_aload f10_goesBy_101 rfl ?_
  refine mV_getP f10_goesBy_102 (by decide) kk_119 rfl (pp_119_1 _) ?_
  refine mV_push f10_goesBy_105 ?_
  refine mV_aload f10_goesBy_106 rfl ?_
  refine mV_getP f10_goesBy_107 (by decide) kk_119 rfl (pp_119_1 _) ?_
  refine mV_push f10_goesBy_110 ?_
  refine mV_ld (z1.2 120 3) 3 f10_goesBy_111 (by decide) kk_120 (by decide) rfl ?_
  refine mV_iload f10_goesBy_112 rfl ?_
  refine mV_isub f10_goesBy_113 ?_
  refine mV_sto 3 f10_goesBy_114 (by decide) kk_120 (by decide) ?_
  refine mV_aload f10_goesBy_115 rfl ?_
  refine mV_iload f10_goesBy_116 rfl ?_
  obtain ⟨z2, hz2, hr⟩ := mBind hr
  refine mV_cV f10_goesBy_117 tg_m10_salted mCls10 (by decide) kk_119 (mC_deep (c10_salted X (mW z1.2 120 3 (z1.2 120 3 - (z1.2 120 3 - (z1.2 120 3 / 2)))) s (z1.2 120 3 - (z1.2 120 3 / 2)) hz2) (by decide)) rfl rfl (Nat.le_of_ble_eq_true rfl) ?_
  refine mV_aload f10_goesBy_120 rfl ?_
  refine mV_getP f10_goesBy_121 (by decide) kk_119 rfl (pp_119_1 _) ?_
  refine mV_push f10_goesBy_124 ?_
  refine mV_aload f10_goesBy_126 rfl ?_
  refine mV_push f10_goesBy_127 ?_
  refine mV_aload f10_goesBy_128 rfl ?_
  refine mV_getP f10_goesBy_129 (by decide) kk_119 rfl (pp_119_1 _) ?_
  refine mV_push f10_goesBy_132 ?_
  refine mV_ld (z2 120 6) 6 f10_goesBy_134 (by decide) kk_120 (by decide) rfl ?_
  refine mV_push f10_goesBy_135 ?_
  refine mV_isub f10_goesBy_136 ?_
  refine mV_cV f10_goesBy_137 tg_m10_greater mCls10 (by decide) kk_119 (mC_deep (c10_greater X z2 s 0 (z2 120 6 - 1) rfl) (by decide)) rfl rfl (Nat.le_of_ble_eq_true rfl) ?_
  refine mV_sto 6 f10_goesBy_140 (by decide) kk_120 (by decide) ?_
  refine mV_aload f10_goesBy_141 rfl ?_
  refine mV_getP f10_goesBy_142 (by decide) kk_119 rfl (pp_119_1 _) ?_
  refine mV_push f10_goesBy_145 ?_
  refine mV_aload f10_goesBy_146 rfl ?_
  refine mV_getP f10_goesBy_147 (by decide) kk_119 rfl (pp_119_1 _) ?_
  refine mV_push f10_goesBy_150 ?_
  refine mV_ld (z2 120 0) 0 f10_goesBy_151 (by decide) kk_120 (by decide) rfl ?_
  refine mV_push f10_goesBy_152 ?_
  refine mV_iadd f10_goesBy_153 ?_
  refine mV_sto 0 f10_goesBy_154 (by decide) kk_120 (by decide) ?_
  refine mV_iload f10_goesBy_155 rfl ?_
  have hr := Option.some.inj hr; subst hr
  exact mV_iret rfl rfl f10_goesBy_156 hQ
theorem c10_goesBy (X : Nat × (Nat → Int32)) (I : mI) (s : Nat) {res : Int32 × mI} (hr : r10_goesBy I = some res) : mC X m10_goesBy 8 0 0 [.ref 119] NN KK I (PP s) (mRet (some (.int res.1)) NN KK res.2 (PP s)) :=
  mC_of (L0 := [.ref 119, mX0, mX0]) rfl (Nat.le_of_ble_eq_true rfl) (w10_goesBy X I s _ hr (mRet_ok _ _ _ _ _))
def l10_days_36 (k1 : Int32) : Nat → Int32 → Int32 → mI → Option (Int32 × mI)
  | 0, _, _, _ => none
  | f + 1, y2, y3, I => if (k1 : Int32) ≤ (y3 : Int32) then some (y2, I) else (r10_keepsAhead I).bind fun z0 => (r10_goesBy z0).bind fun z1 => l10_days_36 k1 f (y2 + z1.1) (y3 + 1) z1.2
def r10_days (I : mI) (x0 : Int32) : Option (Int32 × mI) := if ((r10_isIn x0 1 20) : Int32) = (0 : Int32) then some ((-1), (mW I 119 0 0)) else if ((I 120 0 + x0) : Int32) ≤ (9999 : Int32) then (l10_days_36 x0 FU 0 0 (mW I 119 0 0)).bind fun z0 => some (z0.1, z0.2) else some ((-1), (mW I 119 0 0))
set_option maxHeartbeats 4000000 in
set_option maxRecDepth 100000 in
theorem t10_days_36 (X : Nat × (Nat → Int32)) (Q : mQ) (s : Nat) (k1 : Int32) : ∀ (f : Nat) (y2 : Int32) (y3 : Int32) (I : mI) (z : Int32 × mI), l10_days_36 k1 f y2 y3 I = some z → mV X m10_days 9 0 0 58 [.ref 119, .int k1, .int z.1, mX0] [] NN KK z.2 (PP s) Q → mV X m10_days 9 0 0 36 [.ref 119, .int k1, .int y2, .int y3] [] NN KK I (PP s) Q := by
  intro f
  induction f with
  | zero => intro y2 y3 I z hr hk; cases hr
  | succ f ih =>
    intro y2 y3 I z hr hk
    unfold l10_days_36 at hr
    refine mV_iload f10_days_36 rfl ?_
    refine mV_iload f10_days_37 rfl ?_
    refine mV_icmp_ge f10_days_38 (fun h0 => ?_) (fun h0 => ?_)
    · rw [if_pos h0] at hr
      have hr := Option.some.inj hr; subst hr
      refine mV_drop (L' := [.ref 119, .int k1, .int y2, mX0]) (mSub_k (mSub_k (mSub_k (mSub_x mSub_n)))) ?_
      exact hk
    · rw [if_neg h0] at hr
      refine mV_aload f10_days_41 rfl ?_
      obtain ⟨z0, hz0, hr⟩ := mBind hr
      refine mV_cV f10_days_42 tg_m10_keepsAhead mCls10 (by decide) kk_119 (mC_deep (c10_keepsAhead X I s hz0) (by decide)) rfl rfl (Nat.le_of_ble_eq_true rfl) ?_
      refine mV_iload f10_days_45 rfl ?_
      refine mV_aload f10_days_46 rfl ?_
      obtain ⟨z1, hz1, hr⟩ := mBind hr
      refine mV_cV f10_days_47 tg_m10_goesBy mCls10 (by decide) kk_119 (mC_deep (c10_goesBy X z0 s hz1) (by decide)) rfl rfl (Nat.le_of_ble_eq_true rfl) ?_
      refine mV_iadd f10_days_50 ?_
      refine mV_istore (L' := [.ref 119, .int k1, .int (y2 + z1.1), .int y3]) f10_days_51 (by decide) rfl rfl ?_
      refine mV_iinc (y := (y3 + 1)) (L' := [.ref 119, .int k1, .int (y2 + z1.1), .int (y3 + 1)]) f10_days_52 rfl rfl (by decide) rfl rfl ?_
      refine mV_goto f10_days_55 ?_
      exact ih (y2 + z1.1) (y3 + 1) z1.2 _ hr hk
set_option maxHeartbeats 4000000 in
set_option maxRecDepth 100000 in
theorem w10_days (X : Nat × (Nat → Int32)) (I : mI) (s : Nat) (x0 : Int32) (Q : mQ) {res : Int32 × mI} (hr : r10_days I x0 = some res) (hQ : Q (some (.int res.1)) NN KK res.2 (PP s)) : mV X m10_days 9 0 0 0 [.ref 119, .int x0, mX0, mX0] [] NN KK I (PP s) Q := by
  unfold r10_days at hr
  refine mV_aload f10_days_0 rfl ?_
  refine mV_push f10_days_1 ?_
  refine mV_putI f10_days_2 (by decide) kk_119 rfl rfl ?_
  refine mV_aload f10_days_5 rfl ?_
  refine mV_iload f10_days_6 rfl ?_
  refine mV_push f10_days_7 ?_
  refine mV_push f10_days_8 ?_
  refine mV_cV f10_days_10 tg_m10_isIn mCls10 (by decide) kk_119 (mC_deep (c10_isIn X (mW I 119 0 0) s x0 1 20 rfl) (by decide)) rfl rfl (Nat.le_of_ble_eq_true rfl) ?_
  refine mV_if_eq f10_days_13 (fun h0 => ?_) (fun h0 => ?_)
  · rw [if_pos h0] at hr
    refine mV_push f10_days_30 ?_
    have hr := Option.some.inj hr; subst hr
    exact mV_iret rfl rfl f10_days_31 hQ
  · rw [if_neg h0] at hr
    refine mV_aload f10_days_16 rfl ?_
    refine mV_getP f10_days_17 (by decide) kk_119 rfl (pp_119_1 _) ?_
    refine mV_push f10_days_20 ?_
    refine mV_ld (I 120 0) 0 f10_days_21 (by decide) kk_120 (by decide) rfl ?_
    refine mV_iload f10_days_22 rfl ?_
    refine mV_iadd f10_days_23 ?_
    refine mV_push f10_days_24 ?_
    refine mV_icmp_le f10_days_27 (fun h1 => ?_) (fun h1 => ?_)
    · rw [if_pos h1] at hr
      refine mV_push f10_days_32 ?_
      refine mV_istore (L' := [.ref 119, .int x0, .int 0, mX0]) f10_days_33 (by decide) rfl rfl ?_
      refine mV_push f10_days_34 ?_
      refine mV_istore (L' := [.ref 119, .int x0, .int 0, .int 0]) f10_days_35 (by decide) rfl rfl ?_
      obtain ⟨z0, hz0, hr⟩ := mBind hr
      refine t10_days_36 X Q s x0 FU 0 0 (mW I 119 0 0) _ hz0 ?_
      refine mV_iload f10_days_58 rfl ?_
      have hr := Option.some.inj hr; subst hr
      exact mV_iret rfl rfl f10_days_59 hQ
    · rw [if_neg h1] at hr
      refine mV_push f10_days_30 ?_
      have hr := Option.some.inj hr; subst hr
      exact mV_iret rfl rfl f10_days_31 hQ
theorem c10_days (X : Nat × (Nat → Int32)) (I : mI) (s : Nat) (x0 : Int32) {res : Int32 × mI} (hr : r10_days I x0 = some res) : mC X m10_days 9 0 0 [.ref 119, .int x0] NN KK I (PP s) (mRet (some (.int res.1)) NN KK res.2 (PP s)) :=
  mC_of (L0 := [.ref 119, .int x0, mX0, mX0]) rfl (Nat.le_of_ble_eq_true rfl) (w10_days X I s x0 _ hr (mRet_ok _ _ _ _ _))
def r10_of (I : mI) (x0 : Int32) (x1 : Int32) : Option (Int32 × mI) := if ((r10_isPiece (mW I 119 0 0) x0) : Int32) = (0 : Int32) then some ((-1), (mW I 119 0 0)) else if ((r10_isIn x1 10 (9 + I 119 7)) : Int32) = (0 : Int32) then if (x1 : Int32) = (0 : Int32) then (mLd (mW I 119 0 0) 123 12 x0).bind fun z6 => some (z6, (mW I 119 0 0)) else if (x1 : Int32) = (1 : Int32) then (mLd (mW I 119 0 0) 124 12 x0).bind fun z5 => some (z5, (mW I 119 0 0)) else if (x1 : Int32) = (2 : Int32) then (mLd (mW I 119 0 0) 125 12 x0).bind fun z4 => some (z4, (mW I 119 0 0)) else if (x1 : Int32) = (3 : Int32) then (mLd (mW I 119 0 0) 120 47 (17 + x0)).bind fun z3 => some (z3, (mW I 119 0 0)) else (if (x1 : Int32) = (4 : Int32) then (mLd (mW I 119 0 0) 120 47 (29 + x0)).bind fun z2 => some z2 else if (x1 : Int32) = (5 : Int32) then (mLd (mW I 119 0 0) 141 24 x0).bind fun z1 => some z1 else some (-1) : Option (Int32)).bind fun z0 => some (z0, (mW I 119 0 0)) else (r10_weepsOf (mW I 119 0 0) (x1 - 10) x0 0).bind fun z7 => some (z7.1, z7.2)
set_option maxHeartbeats 4000000 in
set_option maxRecDepth 100000 in
theorem w10_of (X : Nat × (Nat → Int32)) (I : mI) (s : Nat) (x0 : Int32) (x1 : Int32) (Q : mQ) {res : Int32 × mI} (hr : r10_of I x0 x1 = some res) (hQ : Q (some (.int res.1)) NN KK res.2 (PP s)) : mV X m10_of 5 0 0 0 [.ref 119, .int x0, .int x1] [] NN KK I (PP s) Q := by
  unfold r10_of at hr
  refine mV_aload f10_of_0 rfl ?_
  refine mV_push f10_of_1 ?_
  refine mV_putI f10_of_2 (by decide) kk_119 rfl rfl ?_
  refine mV_aload f10_of_5 rfl ?_
  refine mV_iload f10_of_6 rfl ?_
  refine mV_cV f10_of_7 tg_m10_isPiece mCls10 (by decide) kk_119 (mC_deep (c10_isPiece X (mW I 119 0 0) s x0 rfl) (by decide)) rfl rfl (Nat.le_of_ble_eq_true rfl) ?_
  refine mV_if_ne f10_of_10 (fun h0 => ?_) (fun h0 => ?_)
  · rw [if_neg h0] at hr
    refine mV_aload f10_of_15 rfl ?_
    refine mV_iload f10_of_16 rfl ?_
    refine mV_push f10_of_17 ?_
    refine mV_push f10_of_19 ?_
    refine mV_aload f10_of_21 rfl ?_
    refine mV_gI (I 119 7) f10_of_22 (by decide) kk_119 rfl rfl ?_
    refine mV_iadd f10_of_25 ?_
    refine mV_cV f10_of_26 tg_m10_isIn mCls10 (by decide) kk_119 (mC_deep (c10_isIn X (mW I 119 0 0) s x1 10 (9 + I 119 7) rfl) (by decide)) rfl rfl (Nat.le_of_ble_eq_true rfl) ?_
    refine mV_if_eq f10_of_29 (fun h1 => ?_) (fun h1 => ?_)
    · rw [if_pos h1] at hr
      refine mV_iload f10_of_43 rfl ?_
      refine mV_if_ne f10_of_44 (fun h2 => ?_) (fun h2 => ?_)
      · rw [if_neg h2] at hr
        refine mV_iload f10_of_54 rfl ?_
        refine mV_push f10_of_55 ?_
        refine mV_icmp_ne f10_of_56 (fun h3 => ?_) (fun h3 => ?_)
        · rw [if_neg h3] at hr
          refine mV_iload f10_of_66 rfl ?_
          refine mV_push f10_of_67 ?_
          refine mV_icmp_ne f10_of_68 (fun h4 => ?_) (fun h4 => ?_)
          · rw [if_neg h4] at hr
            refine mV_iload f10_of_78 rfl ?_
            refine mV_push f10_of_79 ?_
            refine mV_icmp_ne f10_of_80 (fun h5 => ?_) (fun h5 => ?_)
            · rw [if_neg h5] at hr
              refine mV_iload f10_of_93 rfl ?_
              refine mV_push f10_of_94 ?_
              obtain ⟨z0, hz0, hr⟩ := mBind hr
              have keyz0 : mV X m10_of 5 0 0 125 [.ref 119, mX0, mX0] [.int z0] NN KK (mW I 119 0 0) (PP s) Q := by
                have hr := Option.some.inj hr; subst hr
                exact mV_iret rfl rfl f10_of_125 hQ
              clear hr
              have hr := hz0
              clear hz0
              refine mV_icmp_ne f10_of_95 (fun h6 => ?_) (fun h6 => ?_)
              · rw [if_neg h6] at hr
                refine mV_iload f10_of_110 rfl ?_
                refine mV_push f10_of_111 ?_
                refine mV_icmp_ne f10_of_112 (fun h7 => ?_) (fun h7 => ?_)
                · rw [if_neg h7] at hr
                  refine mV_push f10_of_124 ?_
                  have hr := Option.some.inj hr; subst hr
                  refine mV_drop (L' := [.ref 119, mX0, mX0]) (mSub_k (mSub_x (mSub_x mSub_n))) ?_
                  exact keyz0
                · rw [if_pos h7] at hr
                  refine mV_aload f10_of_115 rfl ?_
                  refine mV_getP f10_of_116 (by decide) kk_119 rfl (pp_119_42 _) ?_
                  refine mV_iload f10_of_119 rfl ?_
                  obtain ⟨z1, hz1, hr⟩ := mBind hr
                  refine mV_ldO f10_of_120 (by decide) kk_141 hz1 ?_
                  refine mV_goto f10_of_121 ?_
                  have hr := Option.some.inj hr; subst hr
                  refine mV_drop (L' := [.ref 119, mX0, mX0]) (mSub_k (mSub_x (mSub_x mSub_n))) ?_
                  exact keyz0
              · rw [if_pos h6] at hr
                refine mV_aload f10_of_98 rfl ?_
                refine mV_getP f10_of_99 (by decide) kk_119 rfl (pp_119_1 _) ?_
                refine mV_push f10_of_102 ?_
                refine mV_iload f10_of_104 rfl ?_
                refine mV_iadd f10_of_105 ?_
                obtain ⟨z2, hz2, hr⟩ := mBind hr
                refine mV_ldO f10_of_106 (by decide) kk_120 hz2 ?_
                refine mV_goto f10_of_107 ?_
                have hr := Option.some.inj hr; subst hr
                refine mV_drop (L' := [.ref 119, mX0, mX0]) (mSub_k (mSub_x (mSub_x mSub_n))) ?_
                exact keyz0
            · rw [if_pos h5] at hr
              refine mV_aload f10_of_83 rfl ?_
              refine mV_getP f10_of_84 (by decide) kk_119 rfl (pp_119_1 _) ?_
              refine mV_push f10_of_87 ?_
              refine mV_iload f10_of_89 rfl ?_
              refine mV_iadd f10_of_90 ?_
              obtain ⟨z3, hz3, hr⟩ := mBind hr
              refine mV_ldO f10_of_91 (by decide) kk_120 hz3 ?_
              have hr := Option.some.inj hr; subst hr
              exact mV_iret rfl rfl f10_of_92 hQ
          · rw [if_pos h4] at hr
            refine mV_aload f10_of_71 rfl ?_
            refine mV_getP f10_of_72 (by decide) kk_119 rfl (pp_119_10 _) ?_
            refine mV_iload f10_of_75 rfl ?_
            obtain ⟨z4, hz4, hr⟩ := mBind hr
            refine mV_ldO f10_of_76 (by decide) kk_125 hz4 ?_
            have hr := Option.some.inj hr; subst hr
            exact mV_iret rfl rfl f10_of_77 hQ
        · rw [if_pos h3] at hr
          refine mV_aload f10_of_59 rfl ?_
          refine mV_getP f10_of_60 (by decide) kk_119 rfl (pp_119_9 _) ?_
          refine mV_iload f10_of_63 rfl ?_
          obtain ⟨z5, hz5, hr⟩ := mBind hr
          refine mV_ldO f10_of_64 (by decide) kk_124 hz5 ?_
          have hr := Option.some.inj hr; subst hr
          exact mV_iret rfl rfl f10_of_65 hQ
      · rw [if_pos h2] at hr
        refine mV_aload f10_of_47 rfl ?_
        refine mV_getP f10_of_48 (by decide) kk_119 rfl (pp_119_8 _) ?_
        refine mV_iload f10_of_51 rfl ?_
        obtain ⟨z6, hz6, hr⟩ := mBind hr
        refine mV_ldO f10_of_52 (by decide) kk_123 hz6 ?_
        have hr := Option.some.inj hr; subst hr
        exact mV_iret rfl rfl f10_of_53 hQ
    · rw [if_neg h1] at hr
      refine mV_aload f10_of_32 rfl ?_
      refine mV_iload f10_of_33 rfl ?_
      refine mV_push f10_of_34 ?_
      refine mV_isub f10_of_36 ?_
      refine mV_iload f10_of_37 rfl ?_
      refine mV_push f10_of_38 ?_
      obtain ⟨z7, hz7, hr⟩ := mBind hr
      refine mV_cV f10_of_39 tg_m10_weepsOf mCls10 (by decide) kk_119 (mC_deep (c10_weepsOf X (mW I 119 0 0) s (x1 - 10) x0 0 hz7) (by decide)) rfl rfl (Nat.le_of_ble_eq_true rfl) ?_
      have hr := Option.some.inj hr; subst hr
      exact mV_iret rfl rfl f10_of_42 hQ
  · rw [if_pos h0] at hr
    refine mV_push f10_of_13 ?_
    have hr := Option.some.inj hr; subst hr
    exact mV_iret rfl rfl f10_of_14 hQ
theorem c10_of (X : Nat × (Nat → Int32)) (I : mI) (s : Nat) (x0 : Int32) (x1 : Int32) {res : Int32 × mI} (hr : r10_of I x0 x1 = some res) : mC X m10_of 5 0 0 [.ref 119, .int x0, .int x1] NN KK I (PP s) (mRet (some (.int res.1)) NN KK res.2 (PP s)) :=
  mC_of (L0 := [.ref 119, .int x0, .int x1]) rfl (Nat.le_of_ble_eq_true rfl) (w10_of X I s x0 x1 _ hr (mRet_ok _ _ _ _ _))
def r10_who (I : mI) (x0 : Int32) (x1 : Int32) : Option (Int32 × mI) := if ((r10_isPlayer (mW I 119 0 0) x0) : Int32) = (0 : Int32) then some ((-1), (mW I 119 0 0)) else (if (x1 : Int32) = (0 : Int32) then (mLd (mW I 119 0 0) 126 6 x0).bind fun z3 => some z3 else if (x1 : Int32) = (1 : Int32) then (mLd (mW I 119 0 0) 127 6 x0).bind fun z2 => some z2 else if (x1 : Int32) = (2 : Int32) then (mLd (mW I 119 0 0) 120 47 (41 + x0)).bind fun z1 => some z1 else some (-1) : Option (Int32)).bind fun z0 => some (z0, (mW I 119 0 0))
set_option maxHeartbeats 4000000 in
set_option maxRecDepth 100000 in
theorem w10_who (X : Nat × (Nat → Int32)) (I : mI) (s : Nat) (x0 : Int32) (x1 : Int32) (Q : mQ) {res : Int32 × mI} (hr : r10_who I x0 x1 = some res) (hQ : Q (some (.int res.1)) NN KK res.2 (PP s)) : mV X m10_who 1 0 0 0 [.ref 119, .int x0, .int x1] [] NN KK I (PP s) Q := by
  unfold r10_who at hr
  refine mV_aload f10_who_0 rfl ?_
  refine mV_push f10_who_1 ?_
  refine mV_putI f10_who_2 (by decide) kk_119 rfl rfl ?_
  refine mV_aload f10_who_5 rfl ?_
  refine mV_iload f10_who_6 rfl ?_
  refine mV_cV f10_who_7 tg_m10_isPlayer mCls10 (by decide) kk_119 (mC_deep (c10_isPlayer X (mW I 119 0 0) s x0 rfl) (by decide)) rfl rfl (Nat.le_of_ble_eq_true rfl) ?_
  refine mV_if_ne f10_who_10 (fun h0 => ?_) (fun h0 => ?_)
  · rw [if_neg h0] at hr
    refine mV_iload f10_who_15 rfl ?_
    obtain ⟨z0, hz0, hr⟩ := mBind hr
    have keyz0 : mV X m10_who 1 0 0 60 [.ref 119, mX0, mX0] [.int z0] NN KK (mW I 119 0 0) (PP s) Q := by
      have hr := Option.some.inj hr; subst hr
      exact mV_iret rfl rfl f10_who_60 hQ
    clear hr
    have hr := hz0
    clear hz0
    refine mV_if_ne f10_who_16 (fun h1 => ?_) (fun h1 => ?_)
    · rw [if_neg h1] at hr
      refine mV_iload f10_who_28 rfl ?_
      refine mV_push f10_who_29 ?_
      refine mV_icmp_ne f10_who_30 (fun h2 => ?_) (fun h2 => ?_)
      · rw [if_neg h2] at hr
        refine mV_iload f10_who_42 rfl ?_
        refine mV_push f10_who_43 ?_
        refine mV_icmp_ne f10_who_44 (fun h3 => ?_) (fun h3 => ?_)
        · rw [if_neg h3] at hr
          refine mV_push f10_who_59 ?_
          have hr := Option.some.inj hr; subst hr
          refine mV_drop (L' := [.ref 119, mX0, mX0]) (mSub_k (mSub_x (mSub_x mSub_n))) ?_
          exact keyz0
        · rw [if_pos h3] at hr
          refine mV_aload f10_who_47 rfl ?_
          refine mV_getP f10_who_48 (by decide) kk_119 rfl (pp_119_1 _) ?_
          refine mV_push f10_who_51 ?_
          refine mV_iload f10_who_53 rfl ?_
          refine mV_iadd f10_who_54 ?_
          obtain ⟨z1, hz1, hr⟩ := mBind hr
          refine mV_ldO f10_who_55 (by decide) kk_120 hz1 ?_
          refine mV_goto f10_who_56 ?_
          have hr := Option.some.inj hr; subst hr
          refine mV_drop (L' := [.ref 119, mX0, mX0]) (mSub_k (mSub_x (mSub_x mSub_n))) ?_
          exact keyz0
      · rw [if_pos h2] at hr
        refine mV_aload f10_who_33 rfl ?_
        refine mV_getP f10_who_34 (by decide) kk_119 rfl (pp_119_12 _) ?_
        refine mV_iload f10_who_37 rfl ?_
        obtain ⟨z2, hz2, hr⟩ := mBind hr
        refine mV_ldO f10_who_38 (by decide) kk_127 hz2 ?_
        refine mV_goto f10_who_39 ?_
        have hr := Option.some.inj hr; subst hr
        refine mV_drop (L' := [.ref 119, mX0, mX0]) (mSub_k (mSub_x (mSub_x mSub_n))) ?_
        exact keyz0
    · rw [if_pos h1] at hr
      refine mV_aload f10_who_19 rfl ?_
      refine mV_getP f10_who_20 (by decide) kk_119 rfl (pp_119_11 _) ?_
      refine mV_iload f10_who_23 rfl ?_
      obtain ⟨z3, hz3, hr⟩ := mBind hr
      refine mV_ldO f10_who_24 (by decide) kk_126 hz3 ?_
      refine mV_goto f10_who_25 ?_
      have hr := Option.some.inj hr; subst hr
      refine mV_drop (L' := [.ref 119, mX0, mX0]) (mSub_k (mSub_x (mSub_x mSub_n))) ?_
      exact keyz0
  · rw [if_pos h0] at hr
    refine mV_push f10_who_13 ?_
    have hr := Option.some.inj hr; subst hr
    exact mV_iret rfl rfl f10_who_14 hQ
theorem c10_who (X : Nat × (Nat → Int32)) (I : mI) (s : Nat) (x0 : Int32) (x1 : Int32) {res : Int32 × mI} (hr : r10_who I x0 x1 = some res) : mC X m10_who 1 0 0 [.ref 119, .int x0, .int x1] NN KK I (PP s) (mRet (some (.int res.1)) NN KK res.2 (PP s)) :=
  mC_of (L0 := [.ref 119, .int x0, .int x1]) rfl (Nat.le_of_ble_eq_true rfl) (w10_who X I s x0 x1 _ hr (mRet_ok _ _ _ _ _))
def r10_string (I : mI) (x0 : Int32) (x1 : Int32) : Option (Int32 × mI) := if ((r10_isString x0) : Int32) = (0 : Int32) then some ((-1), (mW I 119 0 0)) else (if (x1 : Int32) = (0 : Int32) then (mLd (mW I 119 0 0) 120 47 (9 + x0)).bind fun z2 => some z2 else if (x1 : Int32) = (1 : Int32) then (mLd (mW I 119 0 0) 149 8 x0).bind fun z1 => some (z1 + 1) else some (-1) : Option (Int32)).bind fun z0 => some (z0, (mW I 119 0 0))
set_option maxHeartbeats 4000000 in
set_option maxRecDepth 100000 in
theorem w10_string (X : Nat × (Nat → Int32)) (I : mI) (s : Nat) (x0 : Int32) (x1 : Int32) (Q : mQ) {res : Int32 × mI} (hr : r10_string I x0 x1 = some res) (hQ : Q (some (.int res.1)) NN KK res.2 (PP s)) : mV X m10_string 1 0 0 0 [.ref 119, .int x0, .int x1] [] NN KK I (PP s) Q := by
  unfold r10_string at hr
  refine mV_aload f10_string_0 rfl ?_
  refine mV_push f10_string_1 ?_
  refine mV_putI f10_string_2 (by decide) kk_119 rfl rfl ?_
  refine mV_aload f10_string_5 rfl ?_
  refine mV_iload f10_string_6 rfl ?_
  refine mV_cV f10_string_7 tg_m10_isString mCls10 (by decide) kk_119 (mC_deep (c10_isString X (mW I 119 0 0) s x0 rfl) (by decide)) rfl rfl (Nat.le_of_ble_eq_true rfl) ?_
  refine mV_if_ne f10_string_10 (fun h0 => ?_) (fun h0 => ?_)
  · rw [if_neg h0] at hr
    refine mV_iload f10_string_15 rfl ?_
    obtain ⟨z0, hz0, hr⟩ := mBind hr
    have keyz0 : mV X m10_string 1 0 0 48 [.ref 119, mX0, mX0] [.int z0] NN KK (mW I 119 0 0) (PP s) Q := by
      have hr := Option.some.inj hr; subst hr
      exact mV_iret rfl rfl f10_string_48 hQ
    clear hr
    have hr := hz0
    clear hz0
    refine mV_if_ne f10_string_16 (fun h1 => ?_) (fun h1 => ?_)
    · rw [if_neg h1] at hr
      refine mV_iload f10_string_31 rfl ?_
      refine mV_push f10_string_32 ?_
      refine mV_icmp_ne f10_string_33 (fun h2 => ?_) (fun h2 => ?_)
      · rw [if_neg h2] at hr
        refine mV_push f10_string_47 ?_
        have hr := Option.some.inj hr; subst hr
        refine mV_drop (L' := [.ref 119, mX0, mX0]) (mSub_k (mSub_x (mSub_x mSub_n))) ?_
        exact keyz0
      · rw [if_pos h2] at hr
        refine mV_aload f10_string_36 rfl ?_
        refine mV_getP f10_string_37 (by decide) kk_119 rfl (pp_119_52 _) ?_
        refine mV_iload f10_string_40 rfl ?_
        obtain ⟨z1, hz1, hr⟩ := mBind hr
        refine mV_ldO f10_string_41 (by decide) kk_149 hz1 ?_
        refine mV_push f10_string_42 ?_
        refine mV_iadd f10_string_43 ?_
        refine mV_goto f10_string_44 ?_
        have hr := Option.some.inj hr; subst hr
        refine mV_drop (L' := [.ref 119, mX0, mX0]) (mSub_k (mSub_x (mSub_x mSub_n))) ?_
        exact keyz0
    · rw [if_pos h1] at hr
      refine mV_aload f10_string_19 rfl ?_
      refine mV_getP f10_string_20 (by decide) kk_119 rfl (pp_119_1 _) ?_
      refine mV_push f10_string_23 ?_
      refine mV_iload f10_string_25 rfl ?_
      refine mV_iadd f10_string_26 ?_
      obtain ⟨z2, hz2, hr⟩ := mBind hr
      refine mV_ldO f10_string_27 (by decide) kk_120 hz2 ?_
      refine mV_goto f10_string_28 ?_
      have hr := Option.some.inj hr; subst hr
      refine mV_drop (L' := [.ref 119, mX0, mX0]) (mSub_k (mSub_x (mSub_x mSub_n))) ?_
      exact keyz0
  · rw [if_pos h0] at hr
    refine mV_push f10_string_13 ?_
    have hr := Option.some.inj hr; subst hr
    exact mV_iret rfl rfl f10_string_14 hQ
theorem c10_string (X : Nat × (Nat → Int32)) (I : mI) (s : Nat) (x0 : Int32) (x1 : Int32) {res : Int32 × mI} (hr : r10_string I x0 x1 = some res) : mC X m10_string 1 0 0 [.ref 119, .int x0, .int x1] NN KK I (PP s) (mRet (some (.int res.1)) NN KK res.2 (PP s)) :=
  mC_of (L0 := [.ref 119, .int x0, .int x1]) rfl (Nat.le_of_ble_eq_true rfl) (w10_string X I s x0 x1 _ hr (mRet_ok _ _ _ _ _))
def r10_damps (I : mI) (x0 : Int32) (x1 : Int32) (x2 : Int32) : Option (Int32 × mI) := (if ((r10_isPlayer (mW I 119 0 0) x0) : Int32) = (0 : Int32) then some ((-1), (mW I 119 0 0)) else if ((r10_isPiece (mW I 119 0 0) x1) : Int32) = (0 : Int32) then some ((-1), (mW I 119 0 0)) else if ((r10_isString x2) : Int32) = (0 : Int32) then some ((-1), (mW I 119 0 0)) else (r10_dampsOf (mW I 119 0 0) x0 x1 x2 0).bind fun z1 => some (z1.1, z1.2) : Option (Int32 × mI)).bind fun z0 => some (z0.1, z0.2)
set_option maxHeartbeats 4000000 in
set_option maxRecDepth 100000 in
theorem w10_damps (X : Nat × (Nat → Int32)) (I : mI) (s : Nat) (x0 : Int32) (x1 : Int32) (x2 : Int32) (Q : mQ) {res : Int32 × mI} (hr : r10_damps I x0 x1 x2 = some res) (hQ : Q (some (.int res.1)) NN KK res.2 (PP s)) : mV X m10_damps 5 0 0 0 [.ref 119, .int x0, .int x1, .int x2] [] NN KK I (PP s) Q := by
  unfold r10_damps at hr
  refine mV_aload f10_damps_0 rfl ?_
  refine mV_push f10_damps_1 ?_
  refine mV_putI f10_damps_2 (by decide) kk_119 rfl rfl ?_
  refine mV_aload f10_damps_5 rfl ?_
  refine mV_iload f10_damps_6 rfl ?_
  refine mV_cV f10_damps_7 tg_m10_isPlayer mCls10 (by decide) kk_119 (mC_deep (c10_isPlayer X (mW I 119 0 0) s x0 rfl) (by decide)) rfl rfl (Nat.le_of_ble_eq_true rfl) ?_
  obtain ⟨z0, hz0, hr⟩ := mBind hr
  have keyz0 : mV X m10_damps 5 0 0 41 [.ref 119, mX0, mX0, mX0] [.int z0.1] NN KK z0.2 (PP s) Q := by
    have hr := Option.some.inj hr; subst hr
    exact mV_iret rfl rfl f10_damps_41 hQ
  clear hr
  have hr := hz0
  clear hz0
  refine mV_if_eq f10_damps_10 (fun h0 => ?_) (fun h0 => ?_)
  · rw [if_pos h0] at hr
    refine mV_push f10_damps_40 ?_
    have hr := Option.some.inj hr; subst hr
    refine mV_drop (L' := [.ref 119, mX0, mX0, mX0]) (mSub_k (mSub_x (mSub_x (mSub_x mSub_n)))) ?_
    exact keyz0
  · rw [if_neg h0] at hr
    refine mV_aload f10_damps_13 rfl ?_
    refine mV_iload f10_damps_14 rfl ?_
    refine mV_cV f10_damps_15 tg_m10_isPiece mCls10 (by decide) kk_119 (mC_deep (c10_isPiece X (mW I 119 0 0) s x1 rfl) (by decide)) rfl rfl (Nat.le_of_ble_eq_true rfl) ?_
    refine mV_if_eq f10_damps_18 (fun h1 => ?_) (fun h1 => ?_)
    · rw [if_pos h1] at hr
      refine mV_push f10_damps_40 ?_
      have hr := Option.some.inj hr; subst hr
      refine mV_drop (L' := [.ref 119, mX0, mX0, mX0]) (mSub_k (mSub_x (mSub_x (mSub_x mSub_n)))) ?_
      exact keyz0
    · rw [if_neg h1] at hr
      refine mV_aload f10_damps_21 rfl ?_
      refine mV_iload f10_damps_22 rfl ?_
      refine mV_cV f10_damps_23 tg_m10_isString mCls10 (by decide) kk_119 (mC_deep (c10_isString X (mW I 119 0 0) s x2 rfl) (by decide)) rfl rfl (Nat.le_of_ble_eq_true rfl) ?_
      refine mV_if_eq f10_damps_26 (fun h2 => ?_) (fun h2 => ?_)
      · rw [if_pos h2] at hr
        refine mV_push f10_damps_40 ?_
        have hr := Option.some.inj hr; subst hr
        refine mV_drop (L' := [.ref 119, mX0, mX0, mX0]) (mSub_k (mSub_x (mSub_x (mSub_x mSub_n)))) ?_
        exact keyz0
      · rw [if_neg h2] at hr
        refine mV_aload f10_damps_29 rfl ?_
        refine mV_iload f10_damps_30 rfl ?_
        refine mV_iload f10_damps_31 rfl ?_
        refine mV_iload f10_damps_32 rfl ?_
        refine mV_push f10_damps_33 ?_
        obtain ⟨z1, hz1, hr⟩ := mBind hr
        refine mV_cV f10_damps_34 tg_m10_dampsOf mCls10 (by decide) kk_119 (mC_deep (c10_dampsOf X (mW I 119 0 0) s x0 x1 x2 0 hz1) (by decide)) rfl rfl (Nat.le_of_ble_eq_true rfl) ?_
        refine mV_goto f10_damps_37 ?_
        have hr := Option.some.inj hr; subst hr
        refine mV_drop (L' := [.ref 119, mX0, mX0, mX0]) (mSub_k (mSub_x (mSub_x (mSub_x mSub_n)))) ?_
        exact keyz0
theorem c10_damps (X : Nat × (Nat → Int32)) (I : mI) (s : Nat) (x0 : Int32) (x1 : Int32) (x2 : Int32) {res : Int32 × mI} (hr : r10_damps I x0 x1 x2 = some res) : mC X m10_damps 5 0 0 [.ref 119, .int x0, .int x1, .int x2] NN KK I (PP s) (mRet (some (.int res.1)) NN KK res.2 (PP s)) :=
  mC_of (L0 := [.ref 119, .int x0, .int x1, .int x2]) rfl (Nat.le_of_ble_eq_true rfl) (w10_damps X I s x0 x1 x2 _ hr (mRet_ok _ _ _ _ _))
def r10_settles1 (I : mI) (x0 : Int32) (x1 : Int32) : Option (Int32 × mI) := (if ((r10_isPlayer (mW I 119 0 0) x0) : Int32) = (0 : Int32) then some ((-1), (mW I 119 0 0)) else if ((r10_isPiece (mW I 119 0 0) x1) : Int32) = (0 : Int32) then some ((-1), (mW I 119 0 0)) else (r10_settlesOf (mW I 119 0 0) x0 x1 0).bind fun z1 => some (z1.1, z1.2) : Option (Int32 × mI)).bind fun z0 => some (z0.1, z0.2)
set_option maxHeartbeats 4000000 in
set_option maxRecDepth 100000 in
theorem w10_settles1 (X : Nat × (Nat → Int32)) (I : mI) (s : Nat) (x0 : Int32) (x1 : Int32) (Q : mQ) {res : Int32 × mI} (hr : r10_settles1 I x0 x1 = some res) (hQ : Q (some (.int res.1)) NN KK res.2 (PP s)) : mV X m10_settles1 5 0 0 0 [.ref 119, .int x0, .int x1] [] NN KK I (PP s) Q := by
  unfold r10_settles1 at hr
  refine mV_aload f10_settles1_0 rfl ?_
  refine mV_push f10_settles1_1 ?_
  refine mV_putI f10_settles1_2 (by decide) kk_119 rfl rfl ?_
  refine mV_aload f10_settles1_5 rfl ?_
  refine mV_iload f10_settles1_6 rfl ?_
  refine mV_cV f10_settles1_7 tg_m10_isPlayer mCls10 (by decide) kk_119 (mC_deep (c10_isPlayer X (mW I 119 0 0) s x0 rfl) (by decide)) rfl rfl (Nat.le_of_ble_eq_true rfl) ?_
  obtain ⟨z0, hz0, hr⟩ := mBind hr
  have keyz0 : mV X m10_settles1 5 0 0 32 [.ref 119, mX0, mX0] [.int z0.1] NN KK z0.2 (PP s) Q := by
    have hr := Option.some.inj hr; subst hr
    exact mV_iret rfl rfl f10_settles1_32 hQ
  clear hr
  have hr := hz0
  clear hz0
  refine mV_if_eq f10_settles1_10 (fun h0 => ?_) (fun h0 => ?_)
  · rw [if_pos h0] at hr
    refine mV_push f10_settles1_31 ?_
    have hr := Option.some.inj hr; subst hr
    refine mV_drop (L' := [.ref 119, mX0, mX0]) (mSub_k (mSub_x (mSub_x mSub_n))) ?_
    exact keyz0
  · rw [if_neg h0] at hr
    refine mV_aload f10_settles1_13 rfl ?_
    refine mV_iload f10_settles1_14 rfl ?_
    refine mV_cV f10_settles1_15 tg_m10_isPiece mCls10 (by decide) kk_119 (mC_deep (c10_isPiece X (mW I 119 0 0) s x1 rfl) (by decide)) rfl rfl (Nat.le_of_ble_eq_true rfl) ?_
    refine mV_if_eq f10_settles1_18 (fun h1 => ?_) (fun h1 => ?_)
    · rw [if_pos h1] at hr
      refine mV_push f10_settles1_31 ?_
      have hr := Option.some.inj hr; subst hr
      refine mV_drop (L' := [.ref 119, mX0, mX0]) (mSub_k (mSub_x (mSub_x mSub_n))) ?_
      exact keyz0
    · rw [if_neg h1] at hr
      refine mV_aload f10_settles1_21 rfl ?_
      refine mV_iload f10_settles1_22 rfl ?_
      refine mV_iload f10_settles1_23 rfl ?_
      refine mV_push f10_settles1_24 ?_
      obtain ⟨z1, hz1, hr⟩ := mBind hr
      refine mV_cV f10_settles1_25 tg_m10_settlesOf mCls10 (by decide) kk_119 (mC_deep (c10_settlesOf X (mW I 119 0 0) s x0 x1 0 hz1) (by decide)) rfl rfl (Nat.le_of_ble_eq_true rfl) ?_
      refine mV_goto f10_settles1_28 ?_
      have hr := Option.some.inj hr; subst hr
      refine mV_drop (L' := [.ref 119, mX0, mX0]) (mSub_k (mSub_x (mSub_x mSub_n))) ?_
      exact keyz0
theorem c10_settles1 (X : Nat × (Nat → Int32)) (I : mI) (s : Nat) (x0 : Int32) (x1 : Int32) {res : Int32 × mI} (hr : r10_settles1 I x0 x1 = some res) : mC X m10_settles1 5 0 0 [.ref 119, .int x0, .int x1] NN KK I (PP s) (mRet (some (.int res.1)) NN KK res.2 (PP s)) :=
  mC_of (L0 := [.ref 119, .int x0, .int x1]) rfl (Nat.le_of_ble_eq_true rfl) (w10_settles1 X I s x0 x1 _ hr (mRet_ok _ _ _ _ _))
def r10_book (I : mI) (x0 : Int32) (x1 : Int32) : Option (Int32 × mI) := (if ((r10_isIn x0 0 (I 120 2 - 1)) : Int32) = (0 : Int32) then some (-2) else if ((r10_isIn x1 0 3) : Int32) = (0 : Int32) then some (-2) else (mLd (mW I 119 0 0) 128 600 ((4 * x0) + x1)).bind fun z1 => some z1 : Option (Int32)).bind fun z0 => some (z0, (mW I 119 0 0))
set_option maxHeartbeats 4000000 in
set_option maxRecDepth 100000 in
theorem w10_book (X : Nat × (Nat → Int32)) (I : mI) (s : Nat) (x0 : Int32) (x1 : Int32) (Q : mQ) {res : Int32 × mI} (hr : r10_book I x0 x1 = some res) (hQ : Q (some (.int res.1)) NN KK res.2 (PP s)) : mV X m10_book 1 0 0 0 [.ref 119, .int x0, .int x1] [] NN KK I (PP s) Q := by
  unfold r10_book at hr
  refine mV_aload f10_book_0 rfl ?_
  refine mV_push f10_book_1 ?_
  refine mV_putI f10_book_2 (by decide) kk_119 rfl rfl ?_
  refine mV_aload f10_book_5 rfl ?_
  refine mV_iload f10_book_6 rfl ?_
  refine mV_push f10_book_7 ?_
  refine mV_aload f10_book_8 rfl ?_
  refine mV_getP f10_book_9 (by decide) kk_119 rfl (pp_119_1 _) ?_
  refine mV_push f10_book_12 ?_
  refine mV_ld (I 120 2) 2 f10_book_13 (by decide) kk_120 (by decide) rfl ?_
  refine mV_push f10_book_14 ?_
  refine mV_isub f10_book_15 ?_
  refine mV_cV f10_book_16 tg_m10_isIn mCls10 (by decide) kk_119 (mC_deep (c10_isIn X (mW I 119 0 0) s x0 0 (I 120 2 - 1) rfl) (by decide)) rfl rfl (Nat.le_of_ble_eq_true rfl) ?_
  obtain ⟨z0, hz0, hr⟩ := mBind hr
  have keyz0 : mV X m10_book 1 0 0 47 [.ref 119, mX0, mX0] [.int z0] NN KK (mW I 119 0 0) (PP s) Q := by
    have hr := Option.some.inj hr; subst hr
    exact mV_iret rfl rfl f10_book_47 hQ
  clear hr
  have hr := hz0
  clear hz0
  refine mV_if_eq f10_book_19 (fun h0 => ?_) (fun h0 => ?_)
  · rw [if_pos h0] at hr
    refine mV_push f10_book_45 ?_
    have hr := Option.some.inj hr; subst hr
    refine mV_drop (L' := [.ref 119, mX0, mX0]) (mSub_k (mSub_x (mSub_x mSub_n))) ?_
    exact keyz0
  · rw [if_neg h0] at hr
    refine mV_aload f10_book_22 rfl ?_
    refine mV_iload f10_book_23 rfl ?_
    refine mV_push f10_book_24 ?_
    refine mV_push f10_book_25 ?_
    refine mV_cV f10_book_26 tg_m10_isIn mCls10 (by decide) kk_119 (mC_deep (c10_isIn X (mW I 119 0 0) s x1 0 3 rfl) (by decide)) rfl rfl (Nat.le_of_ble_eq_true rfl) ?_
    refine mV_if_eq f10_book_29 (fun h1 => ?_) (fun h1 => ?_)
    · rw [if_pos h1] at hr
      refine mV_push f10_book_45 ?_
      have hr := Option.some.inj hr; subst hr
      refine mV_drop (L' := [.ref 119, mX0, mX0]) (mSub_k (mSub_x (mSub_x mSub_n))) ?_
      exact keyz0
    · rw [if_neg h1] at hr
      refine mV_aload f10_book_32 rfl ?_
      refine mV_getP f10_book_33 (by decide) kk_119 rfl (pp_119_13 _) ?_
      refine mV_push f10_book_36 ?_
      refine mV_iload f10_book_37 rfl ?_
      refine mV_imul f10_book_38 ?_
      refine mV_iload f10_book_39 rfl ?_
      refine mV_iadd f10_book_40 ?_
      obtain ⟨z1, hz1, hr⟩ := mBind hr
      refine mV_ldO f10_book_41 (by decide) kk_128 hz1 ?_
      refine mV_goto f10_book_42 ?_
      have hr := Option.some.inj hr; subst hr
      refine mV_drop (L' := [.ref 119, mX0, mX0]) (mSub_k (mSub_x (mSub_x mSub_n))) ?_
      exact keyz0
theorem c10_book (X : Nat × (Nat → Int32)) (I : mI) (s : Nat) (x0 : Int32) (x1 : Int32) {res : Int32 × mI} (hr : r10_book I x0 x1 = some res) : mC X m10_book 1 0 0 [.ref 119, .int x0, .int x1] NN KK I (PP s) (mRet (some (.int res.1)) NN KK res.2 (PP s)) :=
  mC_of (L0 := [.ref 119, .int x0, .int x1]) rfl (Nat.le_of_ble_eq_true rfl) (w10_book X I s x0 x1 _ hr (mRet_ok _ _ _ _ _))
def l10_flatOfAll_4 (I : mI) : Nat → Int32 → Int32 → Option (Int32)
  | 0, _, _ => none
  | f + 1, y1, y2 => if (8 : Int32) ≤ (y2 : Int32) then some y1 else (mLd I 120 47 (9 + y2)).bind fun z0 => l10_flatOfAll_4 I f (y1 + z0) (y2 + 1)
def r10_flatOfAll (I : mI) : Option (Int32) := (l10_flatOfAll_4 I FU 0 0).bind fun z0 => some z0
set_option maxHeartbeats 4000000 in
set_option maxRecDepth 100000 in
theorem t10_flatOfAll_4 (X : Nat × (Nat → Int32)) (Q : mQ) (s : Nat) (I : mI) : ∀ (f : Nat) (y1 : Int32) (y2 : Int32) (z : Int32), l10_flatOfAll_4 I f y1 y2 = some z → mV X m10_flatOfAll 0 0 0 28 [.ref 119, .int z, mX0] [] NN KK I (PP s) Q → mV X m10_flatOfAll 0 0 0 4 [.ref 119, .int y1, .int y2] [] NN KK I (PP s) Q := by
  intro f
  induction f with
  | zero => intro y1 y2 z hr hk; cases hr
  | succ f ih =>
    intro y1 y2 z hr hk
    unfold l10_flatOfAll_4 at hr
    refine mV_iload f10_flatOfAll_4 rfl ?_
    refine mV_push f10_flatOfAll_5 ?_
    refine mV_icmp_ge f10_flatOfAll_7 (fun h0 => ?_) (fun h0 => ?_)
    · rw [if_pos h0] at hr
      have hr := Option.some.inj hr; subst hr
      refine mV_drop (L' := [.ref 119, .int y1, mX0]) (mSub_k (mSub_k (mSub_x mSub_n))) ?_
      exact hk
    · rw [if_neg h0] at hr
      refine mV_iload f10_flatOfAll_10 rfl ?_
      refine mV_aload f10_flatOfAll_11 rfl ?_
      refine mV_getP f10_flatOfAll_12 (by decide) kk_119 rfl (pp_119_1 _) ?_
      refine mV_push f10_flatOfAll_15 ?_
      refine mV_iload f10_flatOfAll_17 rfl ?_
      refine mV_iadd f10_flatOfAll_18 ?_
      obtain ⟨z0, hz0, hr⟩ := mBind hr
      refine mV_ldO f10_flatOfAll_19 (by decide) kk_120 hz0 ?_
      refine mV_iadd f10_flatOfAll_20 ?_
      refine mV_istore (L' := [.ref 119, .int (y1 + z0), .int y2]) f10_flatOfAll_21 (by decide) rfl rfl ?_
      refine mV_iinc (y := (y2 + 1)) (L' := [.ref 119, .int (y1 + z0), .int (y2 + 1)]) f10_flatOfAll_22 rfl rfl (by decide) rfl rfl ?_
      refine mV_goto f10_flatOfAll_25 ?_
      exact ih (y1 + z0) (y2 + 1) _ hr hk
set_option maxHeartbeats 4000000 in
set_option maxRecDepth 100000 in
theorem w10_flatOfAll (X : Nat × (Nat → Int32)) (I : mI) (s : Nat) (Q : mQ) {res : Int32} (hr : r10_flatOfAll I = some res) (hQ : Q (some (.int res)) NN KK I (PP s)) : mV X m10_flatOfAll 0 0 0 0 [.ref 119, mX0, mX0] [] NN KK I (PP s) Q := by
  unfold r10_flatOfAll at hr
  refine mV_push f10_flatOfAll_0 ?_
  refine mV_istore (L' := [.ref 119, .int 0, mX0]) f10_flatOfAll_1 (by decide) rfl rfl ?_
  refine mV_push f10_flatOfAll_2 ?_
  refine mV_istore (L' := [.ref 119, .int 0, .int 0]) f10_flatOfAll_3 (by decide) rfl rfl ?_
  obtain ⟨z0, hz0, hr⟩ := mBind hr
  refine t10_flatOfAll_4 X Q s I FU 0 0 _ hz0 ?_
  refine mV_iload f10_flatOfAll_28 rfl ?_
  have hr := Option.some.inj hr; subst hr
  exact mV_iret rfl rfl f10_flatOfAll_29 hQ
theorem c10_flatOfAll (X : Nat × (Nat → Int32)) (I : mI) (s : Nat) {res : Int32} (hr : r10_flatOfAll I = some res) : mC X m10_flatOfAll 0 0 0 [.ref 119] NN KK I (PP s) (mRet (some (.int res)) NN KK I (PP s)) :=
  mC_of (L0 := [.ref 119, mX0, mX0]) rfl (Nat.le_of_ble_eq_true rfl) (w10_flatOfAll X I s _ hr (mRet_ok _ _ _ _ _))
def l10_goes_34 (k1 : Int32) : Nat → Int32 → mI → Option (mI)
  | 0, _, _ => none
  | f + 1, y3, I => if (k1 : Int32) ≤ (y3 : Int32) then some I else (r10_goesBy I).bind fun z0 => l10_goes_34 k1 f (y3 + 1) z0.2
def r10_goes (I : mI) (x0 : Int32) (x1 : Int32) : Option (Int32 × mI) := if ((r10_isIn x0 1 20) : Int32) = (0 : Int32) then some ((-1), (mW I 119 0 0)) else if ((r10_isIn x1 0 3) : Int32) = (0 : Int32) then some ((-1), (mW I 119 0 0)) else (r10_thinks (mW I 119 0 0)).bind fun z0 => (l10_goes_34 x0 FU 0 z0).bind fun z1 => (if (x1 : Int32) = (0 : Int32) then some (z1 120 3) else if (x1 : Int32) = (1 : Int32) then some (z1 120 4) else if (x1 : Int32) = (2 : Int32) then (r10_flatOfAll z1).bind fun z3 => some z3 else some (z1 120 8) : Option (Int32)).bind fun z2 => (r10_endsThought z1).bind fun z4 => some (z2, z4)
set_option maxHeartbeats 4000000 in
set_option maxRecDepth 100000 in
theorem t10_goes_34 (X : Nat × (Nat → Int32)) (Q : mQ) (s : Nat) (k1 : Int32) (k2 : Int32) : ∀ (f : Nat) (y3 : Int32) (I : mI) (z : mI), l10_goes_34 k1 f y3 I = some z → mV X m10_goes 9 0 0 50 [.ref 119, .int k1, .int k2, mX0] [] NN KK z (PP s) Q → mV X m10_goes 9 0 0 34 [.ref 119, .int k1, .int k2, .int y3] [] NN KK I (PP s) Q := by
  intro f
  induction f with
  | zero => intro y3 I z hr hk; cases hr
  | succ f ih =>
    intro y3 I z hr hk
    unfold l10_goes_34 at hr
    refine mV_iload f10_goes_34 rfl ?_
    refine mV_iload f10_goes_35 rfl ?_
    refine mV_icmp_ge f10_goes_36 (fun h0 => ?_) (fun h0 => ?_)
    · rw [if_pos h0] at hr
      have hr := Option.some.inj hr; subst hr
      refine mV_drop (L' := [.ref 119, .int k1, .int k2, mX0]) (mSub_k (mSub_k (mSub_k (mSub_x mSub_n)))) ?_
      exact hk
    · rw [if_neg h0] at hr
      refine mV_aload f10_goes_39 rfl ?_
      obtain ⟨z0, hz0, hr⟩ := mBind hr
      refine mV_cV f10_goes_40 tg_m10_goesBy mCls10 (by decide) kk_119 (mC_deep (c10_goesBy X I s hz0) (by decide)) rfl rfl (Nat.le_of_ble_eq_true rfl) ?_
      refine mV_pop f10_goes_43 rfl ?_
      refine mV_iinc (y := (y3 + 1)) (L' := [.ref 119, .int k1, .int k2, .int (y3 + 1)]) f10_goes_44 rfl rfl (by decide) rfl rfl ?_
      refine mV_goto f10_goes_47 ?_
      exact ih (y3 + 1) z0.2 _ hr hk
set_option maxHeartbeats 4000000 in
set_option maxRecDepth 100000 in
theorem w10_goes (X : Nat × (Nat → Int32)) (I : mI) (s : Nat) (x0 : Int32) (x1 : Int32) (Q : mQ) {res : Int32 × mI} (hr : r10_goes I x0 x1 = some res) (hQ : Q (some (.int res.1)) NN KK res.2 (PP s)) : mV X m10_goes 9 0 0 0 [.ref 119, .int x0, .int x1, mX0] [] NN KK I (PP s) Q := by
  unfold r10_goes at hr
  refine mV_aload f10_goes_0 rfl ?_
  refine mV_push f10_goes_1 ?_
  refine mV_putI f10_goes_2 (by decide) kk_119 rfl rfl ?_
  refine mV_aload f10_goes_5 rfl ?_
  refine mV_iload f10_goes_6 rfl ?_
  refine mV_push f10_goes_7 ?_
  refine mV_push f10_goes_8 ?_
  refine mV_cV f10_goes_10 tg_m10_isIn mCls10 (by decide) kk_119 (mC_deep (c10_isIn X (mW I 119 0 0) s x0 1 20 rfl) (by decide)) rfl rfl (Nat.le_of_ble_eq_true rfl) ?_
  refine mV_if_eq f10_goes_13 (fun h0 => ?_) (fun h0 => ?_)
  · rw [if_pos h0] at hr
    refine mV_push f10_goes_26 ?_
    have hr := Option.some.inj hr; subst hr
    exact mV_iret rfl rfl f10_goes_27 hQ
  · rw [if_neg h0] at hr
    refine mV_aload f10_goes_16 rfl ?_
    refine mV_iload f10_goes_17 rfl ?_
    refine mV_push f10_goes_18 ?_
    refine mV_push f10_goes_19 ?_
    refine mV_cV f10_goes_20 tg_m10_isIn mCls10 (by decide) kk_119 (mC_deep (c10_isIn X (mW I 119 0 0) s x1 0 3 rfl) (by decide)) rfl rfl (Nat.le_of_ble_eq_true rfl) ?_
    refine mV_if_ne f10_goes_23 (fun h1 => ?_) (fun h1 => ?_)
    · rw [if_neg h1] at hr
      refine mV_aload f10_goes_28 rfl ?_
      obtain ⟨z0, hz0, hr⟩ := mBind hr
      refine mV_cV f10_goes_29 tg_m10_thinks mCls10 (by decide) kk_119 (mC_deep (c10_thinks X (mW I 119 0 0) s hz0) (by decide)) rfl rfl (Nat.le_of_ble_eq_true rfl) ?_
      refine mV_push f10_goes_32 ?_
      refine mV_istore (L' := [.ref 119, .int x0, .int x1, .int 0]) f10_goes_33 (by decide) rfl rfl ?_
      obtain ⟨z1, hz1, hr⟩ := mBind hr
      refine t10_goes_34 X Q s x0 x1 FU 0 z0 _ hz1 ?_
      refine mV_iload f10_goes_50 rfl ?_
      obtain ⟨z2, hz2, hr⟩ := mBind hr
      have keyz2 : mV X m10_goes 9 0 0 96 [.ref 119, mX0, mX0, mX0] [.int z2] NN KK z1 (PP s) Q := by
        refine mV_istore (L' := [.ref 119, mX0, mX0, .int z2]) f10_goes_96 (by decide) rfl rfl ?_
        refine mV_aload f10_goes_97 rfl ?_
        obtain ⟨z4, hz4, hr⟩ := mBind hr
        refine mV_cV f10_goes_98 tg_m10_endsThought mCls10 (by decide) kk_119 (mC_deep (c10_endsThought X z1 s hz4) (by decide)) rfl rfl (Nat.le_of_ble_eq_true rfl) ?_
        refine mV_iload f10_goes_101 rfl ?_
        have hr := Option.some.inj hr; subst hr
        exact mV_iret rfl rfl f10_goes_102 hQ
      clear hr
      have hr := hz2
      clear hz2
      refine mV_if_ne f10_goes_51 (fun h2 => ?_) (fun h2 => ?_)
      · rw [if_neg h2] at hr
        refine mV_iload f10_goes_63 rfl ?_
        refine mV_push f10_goes_64 ?_
        refine mV_icmp_ne f10_goes_65 (fun h3 => ?_) (fun h3 => ?_)
        · rw [if_neg h3] at hr
          refine mV_iload f10_goes_77 rfl ?_
          refine mV_push f10_goes_78 ?_
          refine mV_icmp_ne f10_goes_79 (fun h4 => ?_) (fun h4 => ?_)
          · rw [if_neg h4] at hr
            refine mV_aload f10_goes_89 rfl ?_
            refine mV_getP f10_goes_90 (by decide) kk_119 rfl (pp_119_1 _) ?_
            refine mV_push f10_goes_93 ?_
            refine mV_ld (z1 120 8) 8 f10_goes_95 (by decide) kk_120 (by decide) rfl ?_
            have hr := Option.some.inj hr; subst hr
            refine mV_drop (L' := [.ref 119, mX0, mX0, mX0]) (mSub_k (mSub_x (mSub_x (mSub_x mSub_n)))) ?_
            exact keyz2
          · rw [if_pos h4] at hr
            refine mV_aload f10_goes_82 rfl ?_
            obtain ⟨z3, hz3, hr⟩ := mBind hr
            refine mV_cV f10_goes_83 tg_m10_flatOfAll mCls10 (by decide) kk_119 (mC_deep (c10_flatOfAll X z1 s hz3) (by decide)) rfl rfl (Nat.le_of_ble_eq_true rfl) ?_
            refine mV_goto f10_goes_86 ?_
            have hr := Option.some.inj hr; subst hr
            refine mV_drop (L' := [.ref 119, mX0, mX0, mX0]) (mSub_k (mSub_x (mSub_x (mSub_x mSub_n)))) ?_
            exact keyz2
        · rw [if_pos h3] at hr
          refine mV_aload f10_goes_68 rfl ?_
          refine mV_getP f10_goes_69 (by decide) kk_119 rfl (pp_119_1 _) ?_
          refine mV_push f10_goes_72 ?_
          refine mV_ld (z1 120 4) 4 f10_goes_73 (by decide) kk_120 (by decide) rfl ?_
          refine mV_goto f10_goes_74 ?_
          have hr := Option.some.inj hr; subst hr
          refine mV_drop (L' := [.ref 119, mX0, mX0, mX0]) (mSub_k (mSub_x (mSub_x (mSub_x mSub_n)))) ?_
          exact keyz2
      · rw [if_pos h2] at hr
        refine mV_aload f10_goes_54 rfl ?_
        refine mV_getP f10_goes_55 (by decide) kk_119 rfl (pp_119_1 _) ?_
        refine mV_push f10_goes_58 ?_
        refine mV_ld (z1 120 3) 3 f10_goes_59 (by decide) kk_120 (by decide) rfl ?_
        refine mV_goto f10_goes_60 ?_
        have hr := Option.some.inj hr; subst hr
        refine mV_drop (L' := [.ref 119, mX0, mX0, mX0]) (mSub_k (mSub_x (mSub_x (mSub_x mSub_n)))) ?_
        exact keyz2
    · rw [if_pos h1] at hr
      refine mV_push f10_goes_26 ?_
      have hr := Option.some.inj hr; subst hr
      exact mV_iret rfl rfl f10_goes_27 hQ
theorem c10_goes (X : Nat × (Nat → Int32)) (I : mI) (s : Nat) (x0 : Int32) (x1 : Int32) {res : Int32 × mI} (hr : r10_goes I x0 x1 = some res) : mC X m10_goes 9 0 0 [.ref 119, .int x0, .int x1] NN KK I (PP s) (mRet (some (.int res.1)) NN KK res.2 (PP s)) :=
  mC_of (L0 := [.ref 119, .int x0, .int x1, mX0]) rfl (Nat.le_of_ble_eq_true rfl) (w10_goes X I s x0 x1 _ hr (mRet_ok _ _ _ _ _))

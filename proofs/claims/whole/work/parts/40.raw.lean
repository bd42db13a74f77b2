def l10_endsThought_2 : Nat → Int32 → mI → Option (mI)
  | 0, _, _ => none
  | f + 1, y1, I => if (47 : Int32) ≤ (y1 : Int32) then some I else (mLd I 122 47 y1).bind fun z0 => (mSto I 120 47 y1 z0).bind fun z1 => l10_endsThought_2 f (y1 + 1) z1
def r10_endsThought (I : mI) : Option (mI) := (l10_endsThought_2 FU 0 I).bind fun z0 => some (mW z0 119 5 0)
set_option maxHeartbeats 4000000 in
set_option maxRecDepth 100000 in
theorem t10_endsThought_2 (X : Nat × (Nat → Int32)) (Q : mQ) (s : Nat) : ∀ (f : Nat) (y1 : Int32) (I : mI) (z : mI), l10_endsThought_2 f y1 I = some z → mV X m10_endsThought 0 0 0 26 [.ref 119, mX0] [] NN KK z (PP s) Q → mV X m10_endsThought 0 0 0 2 [.ref 119, .int y1] [] NN KK I (PP s) Q := by
  intro f
  induction f with
  | zero => intro y1 I z hr hk; cases hr
  | succ f ih =>
    intro y1 I z hr hk
    unfold l10_endsThought_2 at hr
    refine mV_iload f10_endsThought_2 rfl ?_
    refine mV_push f10_endsThought_3 ?_
    refine mV_icmp_ge f10_endsThought_5 (fun h0 => ?_) (fun h0 => ?_)
    · rw [if_pos h0] at hr
      have hr := Option.some.inj hr; subst hr
      refine mV_drop (L' := [.ref 119, mX0]) (mSub_k (mSub_x mSub_n)) ?_
      exact hk
    · rw [if_neg h0] at hr
      refine mV_aload f10_endsThought_8 rfl ?_
      refine mV_getP f10_endsThought_9 (by decide) kk_119 rfl (pp_119_1 _) ?_
      refine mV_iload f10_endsThought_12 rfl ?_
      refine mV_aload f10_endsThought_13 rfl ?_
      refine mV_getP f10_endsThought_14 (by decide) kk_119 rfl (pp_119_4 _) ?_
      refine mV_iload f10_endsThought_17 rfl ?_
      obtain ⟨z0, hz0, hr⟩ := mBind hr
      refine mV_ldO f10_endsThought_18 (by decide) kk_122 hz0 ?_
      obtain ⟨z1, hz1, hr⟩ := mBind hr
      refine mV_stO f10_endsThought_19 (by decide) kk_120 hz1 ?_
      refine mV_iinc (y := (y1 + 1)) (L' := [.ref 119, .int (y1 + 1)]) f10_endsThought_20 rfl rfl (by decide) rfl rfl ?_
      refine mV_goto f10_endsThought_23 ?_
      exact ih (y1 + 1) z1 _ hr hk
set_option maxHeartbeats 4000000 in
set_option maxRecDepth 100000 in
theorem w10_endsThought (X : Nat × (Nat → Int32)) (I : mI) (s : Nat) (Q : mQ) {res : mI} (hr : r10_endsThought I = some res) (hQ : Q none NN KK res (PP s)) : mV X m10_endsThought 0 0 0 0 [.ref 119, mX0] [] NN KK I (PP s) Q := by
  unfold r10_endsThought at hr
  refine mV_push f10_endsThought_0 ?_
  refine mV_istore (L' := [.ref 119, .int 0]) f10_endsThought_1 (by decide) rfl rfl ?_
  obtain ⟨z0, hz0, hr⟩ := mBind hr
  refine t10_endsThought_2 X Q s FU 0 I _ hz0 ?_
  refine mV_aload f10_endsThought_26 rfl ?_
  refine mV_push f10_endsThought_27 ?_
  refine mV_putI f10_endsThought_28 (by decide) kk_119 rfl rfl ?_
  have hr := Option.some.inj hr; subst hr
  exact mV_vret rfl f10_endsThought_31 hQ
theorem c10_endsThought (X : Nat × (Nat → Int32)) (I : mI) (s : Nat) {res : mI} (hr : r10_endsThought I = some res) : mC X m10_endsThought 0 0 0 [.ref 119] NN KK I (PP s) (mRet none NN KK res (PP s)) :=
  mC_of (L0 := [.ref 119, mX0]) rfl (Nat.le_of_ble_eq_true rfl) (w10_endsThought X I s _ hr (mRet_ok _ _ _ _ _))
def r10_state (I : mI) (x0 : Int32) : Option (Int32 × mI) := some (I 120 1, (mW (mW (mW I 119 0 0) 120 1 x0) 119 3 0))
set_option maxHeartbeats 4000000 in
set_option maxRecDepth 100000 in
theorem w10_state (X : Nat × (Nat → Int32)) (I : mI) (s : Nat) (x0 : Int32) (Q : mQ) {res : Int32 × mI} (hr : r10_state I x0 = some res) (hQ : Q (some (.int res.1)) NN KK res.2 (PP s)) : mV X m10_state 0 0 0 0 [.ref 119, .int x0, mX0] [] NN KK I (PP s) Q := by
  unfold r10_state at hr
  refine mV_aload f10_state_0 rfl ?_
  refine mV_push f10_state_1 ?_
  refine mV_putI f10_state_2 (by decide) kk_119 rfl rfl ?_
  refine mV_aload f10_state_5 rfl ?_
  refine mV_getP f10_state_6 (by decide) kk_119 rfl (pp_119_1 _) ?_
  refine mV_push f10_state_9 ?_
  refine mV_ld (I 120 1) 1 f10_state_10 (by decide) kk_120 (by decide) rfl ?_
  refine mV_istore (L' := [.ref 119, .int x0, .int (I 120 1)]) f10_state_11 (by decide) rfl rfl ?_
  refine mV_aload f10_state_12 rfl ?_
  refine mV_getP f10_state_13 (by decide) kk_119 rfl (pp_119_1 _) ?_
  refine mV_push f10_state_16 ?_
  refine mV_iload f10_state_17 rfl ?_
  refine mV_sto 1 f10_state_18 (by decide) kk_120 (by decide) ?_
  refine mV_aload f10_state_19 rfl ?_
  refine mV_push f10_state_20 ?_
  refine mV_putI f10_state_21 (by decide) kk_119 rfl rfl ?_
  refine mV_iload f10_state_24 rfl ?_
  have hr := Option.some.inj hr; subst hr
  exact mV_iret rfl rfl f10_state_25 hQ
theorem c10_state (X : Nat × (Nat → Int32)) (I : mI) (s : Nat) (x0 : Int32) {res : Int32 × mI} (hr : r10_state I x0 = some res) : mC X m10_state 0 0 0 [.ref 119, .int x0] NN KK I (PP s) (mRet (some (.int res.1)) NN KK res.2 (PP s)) :=
  mC_of (L0 := [.ref 119, .int x0, mX0]) rfl (Nat.le_of_ble_eq_true rfl) (w10_state X I s x0 _ hr (mRet_ok _ _ _ _ _))
def r10_draw (I : mI) (x0 : Int32) : Option (Int32 × mI) := (mRemO (mUsh ((1664525 * I 120 1) + 1013904223) 8) x0).bind fun z0 => some (z0, (mW I 120 1 ((1664525 * I 120 1) + 1013904223)))
set_option maxHeartbeats 4000000 in
set_option maxRecDepth 100000 in
theorem w10_draw (X : Nat × (Nat → Int32)) (I : mI) (s : Nat) (x0 : Int32) (Q : mQ) {res : Int32 × mI} (hr : r10_draw I x0 = some res) (hQ : Q (some (.int res.1)) NN KK res.2 (PP s)) : mV X m10_draw 0 0 0 0 [.ref 119, .int x0] [] NN KK I (PP s) Q := by
  unfold r10_draw at hr
  refine mV_aload f10_draw_0 rfl ?_
  refine mV_getP f10_draw_1 (by decide) kk_119 rfl (pp_119_1 _) ?_
  refine mV_push f10_draw_4 ?_
  refine mV_push f10_draw_5 ?_
  refine mV_aload f10_draw_7 rfl ?_
  refine mV_getP f10_draw_8 (by decide) kk_119 rfl (pp_119_1 _) ?_
  refine mV_push f10_draw_11 ?_
  refine mV_ld (I 120 1) 1 f10_draw_12 (by decide) kk_120 (by decide) rfl ?_
  refine mV_imul f10_draw_13 ?_
  refine mV_push f10_draw_14 ?_
  refine mV_iadd f10_draw_16 ?_
  refine mV_sto 1 f10_draw_17 (by decide) kk_120 (by decide) ?_
  refine mV_aload f10_draw_18 rfl ?_
  refine mV_getP f10_draw_19 (by decide) kk_119 rfl (pp_119_1 _) ?_
  refine mV_push f10_draw_22 ?_
  refine mV_ld ((1664525 * I 120 1) + 1013904223) 1 f10_draw_23 (by decide) kk_120 (by decide) rfl ?_
  refine mV_push f10_draw_24 ?_
  refine mV_ushC f10_draw_26 ?_
  refine mV_iload f10_draw_27 rfl ?_
  obtain ⟨z0, hz0, hr⟩ := mBind hr
  refine mV_remO f10_draw_28 hz0 ?_
  have hr := Option.some.inj hr; subst hr
  exact mV_iret rfl rfl f10_draw_29 hQ
theorem c10_draw (X : Nat × (Nat → Int32)) (I : mI) (s : Nat) (x0 : Int32) {res : Int32 × mI} (hr : r10_draw I x0 = some res) : mC X m10_draw 0 0 0 [.ref 119, .int x0] NN KK I (PP s) (mRet (some (.int res.1)) NN KK res.2 (PP s)) :=
  mC_of (L0 := [.ref 119, .int x0]) rfl (Nat.le_of_ble_eq_true rfl) (w10_draw X I s x0 _ hr (mRet_ok _ _ _ _ _))
def r10_isPiece (I : mI) (x0 : Int32) : Int32 := if (x0 : Int32) < (0 : Int32) then 0 else if (I 119 6 : Int32) ≤ (x0 : Int32) then 0 else 1
set_option maxHeartbeats 4000000 in
set_option maxRecDepth 100000 in
theorem w10_isPiece (X : Nat × (Nat → Int32)) (I : mI) (s : Nat) (x0 : Int32) (Q : mQ) {res : Int32} (hr : r10_isPiece I x0 = res) (hQ : Q (some (.int res)) NN KK I (PP s)) : mV X m10_isPiece 0 0 0 0 [.ref 119, .int x0] [] NN KK I (PP s) Q := by
  unfold r10_isPiece at hr
  refine mV_iload f10_isPiece_0 rfl ?_
  refine mV_if_lt f10_isPiece_1 (fun h0 => ?_) (fun h0 => ?_)
  · rw [if_pos h0] at hr
    refine mV_push f10_isPiece_16 ?_
    subst hr
    exact mV_iret rfl rfl f10_isPiece_17 hQ
  · rw [if_neg h0] at hr
    refine mV_iload f10_isPiece_4 rfl ?_
    refine mV_aload f10_isPiece_5 rfl ?_
    refine mV_gI (I 119 6) f10_isPiece_6 (by decide) kk_119 rfl rfl ?_
    refine mV_icmp_ge f10_isPiece_9 (fun h1 => ?_) (fun h1 => ?_)
    · rw [if_pos h1] at hr
      refine mV_push f10_isPiece_16 ?_
      subst hr
      exact mV_iret rfl rfl f10_isPiece_17 hQ
    · rw [if_neg h1] at hr
      refine mV_push f10_isPiece_12 ?_
      refine mV_goto f10_isPiece_13 ?_
      subst hr
      exact mV_iret rfl rfl f10_isPiece_17 hQ
theorem c10_isPiece (X : Nat × (Nat → Int32)) (I : mI) (s : Nat) (x0 : Int32) {res : Int32} (hr : r10_isPiece I x0 = res) : mC X m10_isPiece 0 0 0 [.ref 119, .int x0] NN KK I (PP s) (mRet (some (.int res)) NN KK I (PP s)) :=
  mC_of (L0 := [.ref 119, .int x0]) rfl (Nat.le_of_ble_eq_true rfl) (w10_isPiece X I s x0 _ hr (mRet_ok _ _ _ _ _))
def r10_isPlayer (I : mI) (x0 : Int32) : Int32 := if (x0 : Int32) < (0 : Int32) then 0 else if (I 119 7 : Int32) ≤ (x0 : Int32) then 0 else 1
set_option maxHeartbeats 4000000 in
set_option maxRecDepth 100000 in
theorem w10_isPlayer (X : Nat × (Nat → Int32)) (I : mI) (s : Nat) (x0 : Int32) (Q : mQ) {res : Int32} (hr : r10_isPlayer I x0 = res) (hQ : Q (some (.int res)) NN KK I (PP s)) : mV X m10_isPlayer 0 0 0 0 [.ref 119, .int x0] [] NN KK I (PP s) Q := by
  unfold r10_isPlayer at hr
  refine mV_iload f10_isPlayer_0 rfl ?_
  refine mV_if_lt f10_isPlayer_1 (fun h0 => ?_) (fun h0 => ?_)
  · rw [if_pos h0] at hr
    refine mV_push f10_isPlayer_16 ?_
    subst hr
    exact mV_iret rfl rfl f10_isPlayer_17 hQ
  · rw [if_neg h0] at hr
    refine mV_iload f10_isPlayer_4 rfl ?_
    refine mV_aload f10_isPlayer_5 rfl ?_
    refine mV_gI (I 119 7) f10_isPlayer_6 (by decide) kk_119 rfl rfl ?_
    refine mV_icmp_ge f10_isPlayer_9 (fun h1 => ?_) (fun h1 => ?_)
    · rw [if_pos h1] at hr
      refine mV_push f10_isPlayer_16 ?_
      subst hr
      exact mV_iret rfl rfl f10_isPlayer_17 hQ
    · rw [if_neg h1] at hr
      refine mV_push f10_isPlayer_12 ?_
      refine mV_goto f10_isPlayer_13 ?_
      subst hr
      exact mV_iret rfl rfl f10_isPlayer_17 hQ
theorem c10_isPlayer (X : Nat × (Nat → Int32)) (I : mI) (s : Nat) (x0 : Int32) {res : Int32} (hr : r10_isPlayer I x0 = res) : mC X m10_isPlayer 0 0 0 [.ref 119, .int x0] NN KK I (PP s) (mRet (some (.int res)) NN KK I (PP s)) :=
  mC_of (L0 := [.ref 119, .int x0]) rfl (Nat.le_of_ble_eq_true rfl) (w10_isPlayer X I s x0 _ hr (mRet_ok _ _ _ _ _))
def r10_isString (x0 : Int32) : Int32 := if (x0 : Int32) < (0 : Int32) then 0 else if (8 : Int32) ≤ (x0 : Int32) then 0 else 1
set_option maxHeartbeats 4000000 in
set_option maxRecDepth 100000 in
theorem w10_isString (X : Nat × (Nat → Int32)) (I : mI) (s : Nat) (x0 : Int32) (Q : mQ) {res : Int32} (hr : r10_isString x0 = res) (hQ : Q (some (.int res)) NN KK I (PP s)) : mV X m10_isString 0 0 0 0 [.ref 119, .int x0] [] NN KK I (PP s) Q := by
  unfold r10_isString at hr
  refine mV_iload f10_isString_0 rfl ?_
  refine mV_if_lt f10_isString_1 (fun h0 => ?_) (fun h0 => ?_)
  · rw [if_pos h0] at hr
    refine mV_push f10_isString_14 ?_
    subst hr
    exact mV_iret rfl rfl f10_isString_15 hQ
  · rw [if_neg h0] at hr
    refine mV_iload f10_isString_4 rfl ?_
    refine mV_push f10_isString_5 ?_
    refine mV_icmp_ge f10_isString_7 (fun h1 => ?_) (fun h1 => ?_)
    · rw [if_pos h1] at hr
      refine mV_push f10_isString_14 ?_
      subst hr
      exact mV_iret rfl rfl f10_isString_15 hQ
    · rw [if_neg h1] at hr
      refine mV_push f10_isString_10 ?_
      refine mV_goto f10_isString_11 ?_
      subst hr
      exact mV_iret rfl rfl f10_isString_15 hQ
theorem c10_isString (X : Nat × (Nat → Int32)) (I : mI) (s : Nat) (x0 : Int32) {res : Int32} (hr : r10_isString x0 = res) : mC X m10_isString 0 0 0 [.ref 119, .int x0] NN KK I (PP s) (mRet (some (.int res)) NN KK I (PP s)) :=
  mC_of (L0 := [.ref 119, .int x0]) rfl (Nat.le_of_ble_eq_true rfl) (w10_isString X I s x0 _ hr (mRet_ok _ _ _ _ _))
def r10_dry (I : mI) : Int32 := (I 120 5 + 10)
set_option maxHeartbeats 4000000 in
set_option maxRecDepth 100000 in
theorem w10_dry (X : Nat × (Nat → Int32)) (I : mI) (s : Nat) (Q : mQ) {res : Int32} (hr : r10_dry I = res) (hQ : Q (some (.int res)) NN KK I (PP s)) : mV X m10_dry 0 0 0 0 [.ref 119] [] NN KK I (PP s) Q := by
  unfold r10_dry at hr
  refine mV_aload f10_dry_0 rfl ?_
  refine mV_getP f10_dry_1 (by decide) kk_119 rfl (pp_119_1 _) ?_
  refine mV_push f10_dry_4 ?_
  refine mV_ld (I 120 5) 5 f10_dry_5 (by decide) kk_120 (by decide) rfl ?_
  refine mV_push f10_dry_6 ?_
  refine mV_iadd f10_dry_8 ?_
  subst hr
  exact mV_iret rfl rfl f10_dry_9 hQ
theorem c10_dry (X : Nat × (Nat → Int32)) (I : mI) (s : Nat) {res : Int32} (hr : r10_dry I = res) : mC X m10_dry 0 0 0 [.ref 119] NN KK I (PP s) (mRet (some (.int res)) NN KK I (PP s)) :=
  mC_of (L0 := [.ref 119]) rfl (Nat.le_of_ble_eq_true rfl) (w10_dry X I s _ hr (mRet_ok _ _ _ _ _))
def r10_piece (I : mI) (x0 : Int32) (x1 : Int32) (x2 : Int32) : Option (Int32 × mI) := if ((r10_isIn x0 1 30) : Int32) = (0 : Int32) then some ((-1), (mW I 119 0 0)) else if ((r10_isIn x1 0 9) : Int32) = (0 : Int32) then some ((-1), (mW I 119 0 0)) else if ((r10_isIn x2 0 9) : Int32) = (0 : Int32) then some ((-1), (mW I 119 0 0)) else if (I 119 6 : Int32) = (12 : Int32) then some ((-1), (mW I 119 0 0)) else (mSto (mW I 119 0 0) 123 12 (I 119 6) x0).bind fun z0 => (mSto z0 124 12 (z0 119 6) x1).bind fun z1 => (mSto z1 125 12 (z1 119 6) x2).bind fun z2 => (mSto z2 120 47 (17 + z2 119 6) 0).bind fun z3 => (mSto z3 120 47 (29 + z3 119 6) 0).bind fun z4 => some (((z4 119 6 + 1) - 1), (mW (mW z4 119 6 (z4 119 6 + 1)) 119 3 0))
set_option maxHeartbeats 4000000 in
set_option maxRecDepth 100000 in
theorem w10_piece (X : Nat × (Nat → Int32)) (I : mI) (s : Nat) (x0 : Int32) (x1 : Int32) (x2 : Int32) (Q : mQ) {res : Int32 × mI} (hr : r10_piece I x0 x1 x2 = some res) (hQ : Q (some (.int res.1)) NN KK res.2 (PP s)) : mV X m10_piece 1 0 0 0 [.ref 119, .int x0, .int x1, .int x2] [] NN KK I (PP s) Q := by
  unfold r10_piece at hr
  refine mV_aload f10_piece_0 rfl ?_
  refine mV_push f10_piece_1 ?_
  refine mV_putI f10_piece_2 (by decide) kk_119 rfl rfl ?_
  refine mV_aload f10_piece_5 rfl ?_
  refine mV_iload f10_piece_6 rfl ?_
  refine mV_push f10_piece_7 ?_
  refine mV_push f10_piece_8 ?_
  refine mV_cV f10_piece_10 tg_m10_isIn mCls10 (by decide) kk_119 (mC_deep (c10_isIn X (mW I 119 0 0) s x0 1 30 rfl) (by decide)) rfl rfl (Nat.le_of_ble_eq_true rfl) ?_
  refine mV_if_eq f10_piece_13 (fun h0 => ?_) (fun h0 => ?_)
  · rw [if_pos h0] at hr
    refine mV_push f10_piece_47 ?_
    have hr := Option.some.inj hr; subst hr
    exact mV_iret rfl rfl f10_piece_48 hQ
  · rw [if_neg h0] at hr
    refine mV_aload f10_piece_16 rfl ?_
    refine mV_iload f10_piece_17 rfl ?_
    refine mV_push f10_piece_18 ?_
    refine mV_push f10_piece_19 ?_
    refine mV_cV f10_piece_21 tg_m10_isIn mCls10 (by decide) kk_119 (mC_deep (c10_isIn X (mW I 119 0 0) s x1 0 9 rfl) (by decide)) rfl rfl (Nat.le_of_ble_eq_true rfl) ?_
    refine mV_if_eq f10_piece_24 (fun h1 => ?_) (fun h1 => ?_)
    · rw [if_pos h1] at hr
      refine mV_push f10_piece_47 ?_
      have hr := Option.some.inj hr; subst hr
      exact mV_iret rfl rfl f10_piece_48 hQ
    · rw [if_neg h1] at hr
      refine mV_aload f10_piece_27 rfl ?_
      refine mV_iload f10_piece_28 rfl ?_
      refine mV_push f10_piece_29 ?_
      refine mV_push f10_piece_30 ?_
      refine mV_cV f10_piece_32 tg_m10_isIn mCls10 (by decide) kk_119 (mC_deep (c10_isIn X (mW I 119 0 0) s x2 0 9 rfl) (by decide)) rfl rfl (Nat.le_of_ble_eq_true rfl) ?_
      refine mV_if_eq f10_piece_35 (fun h2 => ?_) (fun h2 => ?_)
      · rw [if_pos h2] at hr
        refine mV_push f10_piece_47 ?_
        have hr := Option.some.inj hr; subst hr
        exact mV_iret rfl rfl f10_piece_48 hQ
      · rw [if_neg h2] at hr
        refine mV_aload f10_piece_38 rfl ?_
        refine mV_gI (I 119 6) f10_piece_39 (by decide) kk_119 rfl rfl ?_
        refine mV_push f10_piece_42 ?_
        refine mV_icmp_ne f10_piece_44 (fun h3 => ?_) (fun h3 => ?_)
        · rw [if_neg h3] at hr
          refine mV_aload f10_piece_49 rfl ?_
          refine mV_getP f10_piece_50 (by decide) kk_119 rfl (pp_119_8 _) ?_
          refine mV_aload f10_piece_53 rfl ?_
          refine mV_gI (I 119 6) f10_piece_54 (by decide) kk_119 rfl rfl ?_
          refine mV_iload f10_piece_57 rfl ?_
          obtain ⟨z0, hz0, hr⟩ := mBind hr
          refine mV_stO f10_piece_58 (by decide) kk_123 hz0 ?_
          refine mV_aload f10_piece_59 rfl ?_
          refine mV_getP f10_piece_60 (by decide) kk_119 rfl (pp_119_9 _) ?_
          refine mV_aload f10_piece_63 rfl ?_
          refine mV_gI (z0 119 6) f10_piece_64 (by decide) kk_119 rfl rfl ?_
          refine mV_iload f10_piece_67 rfl ?_
          obtain ⟨z1, hz1, hr⟩ := mBind hr
          refine mV_stO f10_piece_68 (by decide) kk_124 hz1 ?_
          refine mV_aload f10_piece_69 rfl ?_
          refine mV_getP f10_piece_70 (by decide) kk_119 rfl (pp_119_10 _) ?_
          refine mV_aload f10_piece_73 rfl ?_
          refine mV_gI (z1 119 6) f10_piece_74 (by decide) kk_119 rfl rfl ?_
          refine mV_iload f10_piece_77 rfl ?_
          obtain ⟨z2, hz2, hr⟩ := mBind hr
          refine mV_stO f10_piece_78 (by decide) kk_125 hz2 ?_
          refine mV_aload f10_piece_79 rfl ?_
          refine mV_getP f10_piece_80 (by decide) kk_119 rfl (pp_119_1 _) ?_
          refine mV_push f10_piece_83 ?_
          refine mV_aload f10_piece_85 rfl ?_
          refine mV_gI (z2 119 6) f10_piece_86 (by decide) kk_119 rfl rfl ?_
          refine mV_iadd f10_piece_89 ?_
          refine mV_push f10_piece_90 ?_
          obtain ⟨z3, hz3, hr⟩ := mBind hr
          refine mV_stO f10_piece_91 (by decide) kk_120 hz3 ?_
          refine mV_aload f10_piece_92 rfl ?_
          refine mV_getP f10_piece_93 (by decide) kk_119 rfl (pp_119_1 _) ?_
          refine mV_push f10_piece_96 ?_
          refine mV_aload f10_piece_98 rfl ?_
          refine mV_gI (z3 119 6) f10_piece_99 (by decide) kk_119 rfl rfl ?_
          refine mV_iadd f10_piece_102 ?_
          refine mV_push f10_piece_103 ?_
          obtain ⟨z4, hz4, hr⟩ := mBind hr
          refine mV_stO f10_piece_104 (by decide) kk_120 hz4 ?_
          refine mV_aload f10_piece_105 rfl ?_
          refine mV_aload f10_piece_106 rfl ?_
          refine mV_gI (z4 119 6) f10_piece_107 (by decide) kk_119 rfl rfl ?_
          refine mV_push f10_piece_110 ?_
          refine mV_iadd f10_piece_111 ?_
          refine mV_putI f10_piece_112 (by decide) kk_119 rfl rfl ?_
          refine mV_aload f10_piece_115 rfl ?_
          refine mV_push f10_piece_116 ?_
          refine mV_putI f10_piece_117 (by decide) kk_119 rfl rfl ?_
          refine mV_aload f10_piece_120 rfl ?_
          refine mV_gI (z4 119 6 + 1) f10_piece_121 (by decide) kk_119 rfl rfl ?_
          refine mV_push f10_piece_124 ?_
          refine mV_isub f10_piece_125 ?_
          have hr := Option.some.inj hr; subst hr
          exact mV_iret rfl rfl f10_piece_126 hQ
        · rw [if_pos h3] at hr
          refine mV_push f10_piece_47 ?_
          have hr := Option.some.inj hr; subst hr
          exact mV_iret rfl rfl f10_piece_48 hQ
theorem c10_piece (X : Nat × (Nat → Int32)) (I : mI) (s : Nat) (x0 : Int32) (x1 : Int32) (x2 : Int32) {res : Int32 × mI} (hr : r10_piece I x0 x1 x2 = some res) : mC X m10_piece 1 0 0 [.ref 119, .int x0, .int x1, .int x2] NN KK I (PP s) (mRet (some (.int res.1)) NN KK res.2 (PP s)) :=
  mC_of (L0 := [.ref 119, .int x0, .int x1, .int x2]) rfl (Nat.le_of_ble_eq_true rfl) (w10_piece X I s x0 x1 x2 _ hr (mRet_ok _ _ _ _ _))
def r10_player (I : mI) (x0 : Int32) (x1 : Int32) : Option (Int32 × mI) := if ((r10_isIn x0 0 9) : Int32) = (0 : Int32) then some ((-1), (mW I 119 0 0)) else if ((r10_isIn x1 0 9) : Int32) = (0 : Int32) then some ((-1), (mW I 119 0 0)) else if (I 119 7 : Int32) = (6 : Int32) then some ((-1), (mW I 119 0 0)) else (mSto (mW I 119 0 0) 126 6 (I 119 7) x0).bind fun z0 => (mSto z0 127 6 (z0 119 7) x1).bind fun z1 => (mSto z1 120 47 (41 + z1 119 7) 0).bind fun z2 => some (((z2 119 7 + 1) - 1), (mW (mW z2 119 7 (z2 119 7 + 1)) 119 3 0))
set_option maxHeartbeats 4000000 in
set_option maxRecDepth 100000 in
theorem w10_player (X : Nat × (Nat → Int32)) (I : mI) (s : Nat) (x0 : Int32) (x1 : Int32) (Q : mQ) {res : Int32 × mI} (hr : r10_player I x0 x1 = some res) (hQ : Q (some (.int res.1)) NN KK res.2 (PP s)) : mV X m10_player 1 0 0 0 [.ref 119, .int x0, .int x1] [] NN KK I (PP s) Q := by
  unfold r10_player at hr
  refine mV_aload f10_player_0 rfl ?_
  refine mV_push f10_player_1 ?_
  refine mV_putI f10_player_2 (by decide) kk_119 rfl rfl ?_
  refine mV_aload f10_player_5 rfl ?_
  refine mV_iload f10_player_6 rfl ?_
  refine mV_push f10_player_7 ?_
  refine mV_push f10_player_8 ?_
  refine mV_cV f10_player_10 tg_m10_isIn mCls10 (by decide) kk_119 (mC_deep (c10_isIn X (mW I 119 0 0) s x0 0 9 rfl) (by decide)) rfl rfl (Nat.le_of_ble_eq_true rfl) ?_
  refine mV_if_eq f10_player_13 (fun h0 => ?_) (fun h0 => ?_)
  · rw [if_pos h0] at hr
    refine mV_push f10_player_36 ?_
    have hr := Option.some.inj hr; subst hr
    exact mV_iret rfl rfl f10_player_37 hQ
  · rw [if_neg h0] at hr
    refine mV_aload f10_player_16 rfl ?_
    refine mV_iload f10_player_17 rfl ?_
    refine mV_push f10_player_18 ?_
    refine mV_push f10_player_19 ?_
    refine mV_cV f10_player_21 tg_m10_isIn mCls10 (by decide) kk_119 (mC_deep (c10_isIn X (mW I 119 0 0) s x1 0 9 rfl) (by decide)) rfl rfl (Nat.le_of_ble_eq_true rfl) ?_
    refine mV_if_eq f10_player_24 (fun h1 => ?_) (fun h1 => ?_)
    · rw [if_pos h1] at hr
      refine mV_push f10_player_36 ?_
      have hr := Option.some.inj hr; subst hr
      exact mV_iret rfl rfl f10_player_37 hQ
    · rw [if_neg h1] at hr
      refine mV_aload f10_player_27 rfl ?_
      refine mV_gI (I 119 7) f10_player_28 (by decide) kk_119 rfl rfl ?_
      refine mV_push f10_player_31 ?_
      refine mV_icmp_ne f10_player_33 (fun h2 => ?_) (fun h2 => ?_)
      · rw [if_neg h2] at hr
        refine mV_aload f10_player_38 rfl ?_
        refine mV_getP f10_player_39 (by decide) kk_119 rfl (pp_119_11 _) ?_
        refine mV_aload f10_player_42 rfl ?_
        refine mV_gI (I 119 7) f10_player_43 (by decide) kk_119 rfl rfl ?_
        refine mV_iload f10_player_46 rfl ?_
        obtain ⟨z0, hz0, hr⟩ := mBind hr
        refine mV_stO f10_player_47 (by decide) kk_126 hz0 ?_
        refine mV_aload f10_player_48 rfl ?_
        refine mV_getP f10_player_49 (by decide) kk_119 rfl (pp_119_12 _) ?_
        refine mV_aload f10_player_52 rfl ?_
        refine mV_gI (z0 119 7) f10_player_53 (by decide) kk_119 rfl rfl ?_
        refine mV_iload f10_player_56 rfl ?_
        obtain ⟨z1, hz1, hr⟩ := mBind hr
        refine mV_stO f10_player_57 (by decide) kk_127 hz1 ?_
        refine mV_aload f10_player_58 rfl ?_
        refine mV_getP f10_player_59 (by decide) kk_119 rfl (pp_119_1 _) ?_
        refine mV_push f10_player_62 ?_
        refine mV_aload f10_player_64 rfl ?_
        refine mV_gI (z1 119 7) f10_player_65 (by decide) kk_119 rfl rfl ?_
        refine mV_iadd f10_player_68 ?_
        refine mV_push f10_player_69 ?_
        obtain ⟨z2, hz2, hr⟩ := mBind hr
        refine mV_stO f10_player_70 (by decide) kk_120 hz2 ?_
        refine mV_aload f10_player_71 rfl ?_
        refine mV_aload f10_player_72 rfl ?_
        refine mV_gI (z2 119 7) f10_player_73 (by decide) kk_119 rfl rfl ?_
        refine mV_push f10_player_76 ?_
        refine mV_iadd f10_player_77 ?_
        refine mV_putI f10_player_78 (by decide) kk_119 rfl rfl ?_
        refine mV_aload f10_player_81 rfl ?_
        refine mV_push f10_player_82 ?_
        refine mV_putI f10_player_83 (by decide) kk_119 rfl rfl ?_
        refine mV_aload f10_player_86 rfl ?_
        refine mV_gI (z2 119 7 + 1) f10_player_87 (by decide) kk_119 rfl rfl ?_
        refine mV_push f10_player_90 ?_
        refine mV_isub f10_player_91 ?_
        have hr := Option.some.inj hr; subst hr
        exact mV_iret rfl rfl f10_player_92 hQ
      · rw [if_pos h2] at hr
        refine mV_push f10_player_36 ?_
        have hr := Option.some.inj hr; subst hr
        exact mV_iret rfl rfl f10_player_37 hQ
theorem c10_player (X : Nat × (Nat → Int32)) (I : mI) (s : Nat) (x0 : Int32) (x1 : Int32) {res : Int32 × mI} (hr : r10_player I x0 x1 = some res) : mC X m10_player 1 0 0 [.ref 119, .int x0, .int x1] NN KK I (PP s) (mRet (some (.int res.1)) NN KK res.2 (PP s)) :=
  mC_of (L0 := [.ref 119, .int x0, .int x1]) rfl (Nat.le_of_ble_eq_true rfl) (w10_player X I s x0 x1 _ hr (mRet_ok _ _ _ _ _))
def r10_canSet (I : mI) (x0 : Int32) (x1 : Int32) (x2 : Int32) : Int32 := if (x0 : Int32) = (0 : Int32) then if ((r10_isPiece I x1) : Int32) = (0 : Int32) then 0 else if ((r10_isIn x2 0 9) : Int32) = (0 : Int32) then 0 else 1 else if (x0 : Int32) = (1 : Int32) then if ((r10_isPiece I x1) : Int32) = (0 : Int32) then 0 else if ((r10_isIn x2 0 9) : Int32) = (0 : Int32) then 0 else 1 else if (x0 : Int32) = (2 : Int32) then if ((r10_isPlayer I x1) : Int32) = (0 : Int32) then 0 else if ((r10_isIn x2 0 9) : Int32) = (0 : Int32) then 0 else 1 else if (x0 : Int32) = (3 : Int32) then if ((r10_isPlayer I x1) : Int32) = (0 : Int32) then 0 else if ((r10_isIn x2 0 9) : Int32) = (0 : Int32) then 0 else 1 else if (x0 : Int32) = (4 : Int32) then if ((r10_isString x1) : Int32) = (0 : Int32) then 0 else if ((r10_isIn x2 0 50) : Int32) = (0 : Int32) then 0 else 1 else if ((r10_isIn x0 5 7) : Int32) = (0 : Int32) then 0 else if (x0 : Int32) = (5 : Int32) then if ((r10_isIn x2 0 999) : Int32) = (0 : Int32) then 0 else 1 else if (x0 : Int32) = (6 : Int32) then if ((r10_isIn x2 0 99) : Int32) = (0 : Int32) then 0 else 1 else if ((r10_isIn x2 0 9) : Int32) = (0 : Int32) then 0 else 1
set_option maxHeartbeats 4000000 in
set_option maxRecDepth 100000 in
theorem w10_canSet (X : Nat × (Nat → Int32)) (I : mI) (s : Nat) (x0 : Int32) (x1 : Int32) (x2 : Int32) (Q : mQ) {res : Int32} (hr : r10_canSet I x0 x1 x2 = res) (hQ : Q (some (.int res)) NN KK I (PP s)) : mV X m10_canSet 1 0 0 0 [.ref 119, .int x0, .int x1, .int x2] [] NN KK I (PP s) Q := by
  unfold r10_canSet at hr
  refine mV_iload f10_canSet_0 rfl ?_
  refine mV_if_eq f10_canSet_1 (fun h0 => ?_) (fun h0 => ?_)
  · rw [if_pos h0] at hr
    refine mV_aload f10_canSet_9 rfl ?_
    refine mV_iload f10_canSet_10 rfl ?_
    refine mV_cV f10_canSet_11 tg_m10_isPiece mCls10 (by decide) kk_119 (mC_deep (c10_isPiece X I s x1 rfl) (by decide)) rfl rfl (Nat.le_of_ble_eq_true rfl) ?_
    refine mV_if_eq f10_canSet_14 (fun h1 => ?_) (fun h1 => ?_)
    · rw [if_pos h1] at hr
      refine mV_push f10_canSet_32 ?_
      subst hr
      exact mV_iret rfl rfl f10_canSet_33 hQ
    · rw [if_neg h1] at hr
      refine mV_aload f10_canSet_17 rfl ?_
      refine mV_iload f10_canSet_18 rfl ?_
      refine mV_push f10_canSet_19 ?_
      refine mV_push f10_canSet_20 ?_
      refine mV_cV f10_canSet_22 tg_m10_isIn mCls10 (by decide) kk_119 (mC_deep (c10_isIn X I s x2 0 9 rfl) (by decide)) rfl rfl (Nat.le_of_ble_eq_true rfl) ?_
      refine mV_if_eq f10_canSet_25 (fun h2 => ?_) (fun h2 => ?_)
      · rw [if_pos h2] at hr
        refine mV_push f10_canSet_32 ?_
        subst hr
        exact mV_iret rfl rfl f10_canSet_33 hQ
      · rw [if_neg h2] at hr
        refine mV_push f10_canSet_28 ?_
        refine mV_goto f10_canSet_29 ?_
        subst hr
        exact mV_iret rfl rfl f10_canSet_33 hQ
  · rw [if_neg h0] at hr
    refine mV_iload f10_canSet_4 rfl ?_
    refine mV_push f10_canSet_5 ?_
    refine mV_icmp_ne f10_canSet_6 (fun h3 => ?_) (fun h3 => ?_)
    · rw [if_neg h3] at hr
      refine mV_iload f10_canSet_34 rfl ?_
      refine mV_push f10_canSet_35 ?_
      refine mV_icmp_eq f10_canSet_36 (fun h4 => ?_) (fun h4 => ?_)
      · rw [if_pos h4] at hr
        refine mV_aload f10_canSet_44 rfl ?_
        refine mV_iload f10_canSet_45 rfl ?_
        refine mV_cV f10_canSet_46 tg_m10_isPlayer mCls10 (by decide) kk_119 (mC_deep (c10_isPlayer X I s x1 rfl) (by decide)) rfl rfl (Nat.le_of_ble_eq_true rfl) ?_
        refine mV_if_eq f10_canSet_49 (fun h5 => ?_) (fun h5 => ?_)
        · rw [if_pos h5] at hr
          refine mV_push f10_canSet_67 ?_
          subst hr
          exact mV_iret rfl rfl f10_canSet_68 hQ
        · rw [if_neg h5] at hr
          refine mV_aload f10_canSet_52 rfl ?_
          refine mV_iload f10_canSet_53 rfl ?_
          refine mV_push f10_canSet_54 ?_
          refine mV_push f10_canSet_55 ?_
          refine mV_cV f10_canSet_57 tg_m10_isIn mCls10 (by decide) kk_119 (mC_deep (c10_isIn X I s x2 0 9 rfl) (by decide)) rfl rfl (Nat.le_of_ble_eq_true rfl) ?_
          refine mV_if_eq f10_canSet_60 (fun h6 => ?_) (fun h6 => ?_)
          · rw [if_pos h6] at hr
            refine mV_push f10_canSet_67 ?_
            subst hr
            exact mV_iret rfl rfl f10_canSet_68 hQ
          · rw [if_neg h6] at hr
            refine mV_push f10_canSet_63 ?_
            refine mV_goto f10_canSet_64 ?_
            subst hr
            exact mV_iret rfl rfl f10_canSet_68 hQ
      · rw [if_neg h4] at hr
        refine mV_iload f10_canSet_39 rfl ?_
        refine mV_push f10_canSet_40 ?_
        refine mV_icmp_ne f10_canSet_41 (fun h7 => ?_) (fun h7 => ?_)
        · rw [if_neg h7] at hr
          refine mV_iload f10_canSet_69 rfl ?_
          refine mV_push f10_canSet_70 ?_
          refine mV_icmp_ne f10_canSet_71 (fun h8 => ?_) (fun h8 => ?_)
          · rw [if_neg h8] at hr
            refine mV_aload f10_canSet_99 rfl ?_
            refine mV_iload f10_canSet_100 rfl ?_
            refine mV_push f10_canSet_101 ?_
            refine mV_push f10_canSet_102 ?_
            refine mV_cV f10_canSet_104 tg_m10_isIn mCls10 (by decide) kk_119 (mC_deep (c10_isIn X I s x0 5 7 rfl) (by decide)) rfl rfl (Nat.le_of_ble_eq_true rfl) ?_
            refine mV_if_eq f10_canSet_107 (fun h9 => ?_) (fun h9 => ?_)
            · rw [if_pos h9] at hr
              refine mV_push f10_canSet_147 ?_
              subst hr
              exact mV_iret rfl rfl f10_canSet_148 hQ
            · rw [if_neg h9] at hr
              refine mV_aload f10_canSet_110 rfl ?_
              refine mV_iload f10_canSet_111 rfl ?_
              refine mV_push f10_canSet_112 ?_
              refine mV_iload f10_canSet_113 rfl ?_
              refine mV_push f10_canSet_114 ?_
              refine mV_icmp_ne f10_canSet_115 (fun h10 => ?_) (fun h10 => ?_)
              · rw [if_neg h10] at hr
                refine mV_iload f10_canSet_124 rfl ?_
                refine mV_push f10_canSet_125 ?_
                refine mV_icmp_ne f10_canSet_127 (fun h11 => ?_) (fun h11 => ?_)
                · rw [if_neg h11] at hr
                  refine mV_push f10_canSet_135 ?_
                  refine mV_cV f10_canSet_137 tg_m10_isIn mCls10 (by decide) kk_119 (mC_deep (c10_isIn X I s x2 0 9 rfl) (by decide)) rfl rfl (Nat.le_of_ble_eq_true rfl) ?_
                  refine mV_if_eq f10_canSet_140 (fun h12 => ?_) (fun h12 => ?_)
                  · rw [if_pos h12] at hr
                    refine mV_push f10_canSet_147 ?_
                    subst hr
                    exact mV_iret rfl rfl f10_canSet_148 hQ
                  · rw [if_neg h12] at hr
                    refine mV_push f10_canSet_143 ?_
                    refine mV_goto f10_canSet_144 ?_
                    subst hr
                    exact mV_iret rfl rfl f10_canSet_148 hQ
                · rw [if_pos h11] at hr
                  refine mV_push f10_canSet_130 ?_
                  refine mV_goto f10_canSet_132 ?_
                  refine mV_cV f10_canSet_137 tg_m10_isIn mCls10 (by decide) kk_119 (mC_deep (c10_isIn X I s x2 0 99 rfl) (by decide)) rfl rfl (Nat.le_of_ble_eq_true rfl) ?_
                  refine mV_if_eq f10_canSet_140 (fun h13 => ?_) (fun h13 => ?_)
                  · rw [if_pos h13] at hr
                    refine mV_push f10_canSet_147 ?_
                    subst hr
                    exact mV_iret rfl rfl f10_canSet_148 hQ
                  · rw [if_neg h13] at hr
                    refine mV_push f10_canSet_143 ?_
                    refine mV_goto f10_canSet_144 ?_
                    subst hr
                    exact mV_iret rfl rfl f10_canSet_148 hQ
              · rw [if_pos h10] at hr
                refine mV_push f10_canSet_118 ?_
                refine mV_goto f10_canSet_121 ?_
                refine mV_cV f10_canSet_137 tg_m10_isIn mCls10 (by decide) kk_119 (mC_deep (c10_isIn X I s x2 0 999 rfl) (by decide)) rfl rfl (Nat.le_of_ble_eq_true rfl) ?_
                refine mV_if_eq f10_canSet_140 (fun h14 => ?_) (fun h14 => ?_)
                · rw [if_pos h14] at hr
                  refine mV_push f10_canSet_147 ?_
                  subst hr
                  exact mV_iret rfl rfl f10_canSet_148 hQ
                · rw [if_neg h14] at hr
                  refine mV_push f10_canSet_143 ?_
                  refine mV_goto f10_canSet_144 ?_
                  subst hr
                  exact mV_iret rfl rfl f10_canSet_148 hQ
          · rw [if_pos h8] at hr
            refine mV_aload f10_canSet_74 rfl ?_
            refine mV_iload f10_canSet_75 rfl ?_
            refine mV_cV f10_canSet_76 tg_m10_isString mCls10 (by decide) kk_119 (mC_deep (c10_isString X I s x1 rfl) (by decide)) rfl rfl (Nat.le_of_ble_eq_true rfl) ?_
            refine mV_if_eq f10_canSet_79 (fun h15 => ?_) (fun h15 => ?_)
            · rw [if_pos h15] at hr
              refine mV_push f10_canSet_97 ?_
              subst hr
              exact mV_iret rfl rfl f10_canSet_98 hQ
            · rw [if_neg h15] at hr
              refine mV_aload f10_canSet_82 rfl ?_
              refine mV_iload f10_canSet_83 rfl ?_
              refine mV_push f10_canSet_84 ?_
              refine mV_push f10_canSet_85 ?_
              refine mV_cV f10_canSet_87 tg_m10_isIn mCls10 (by decide) kk_119 (mC_deep (c10_isIn X I s x2 0 50 rfl) (by decide)) rfl rfl (Nat.le_of_ble_eq_true rfl) ?_
              refine mV_if_eq f10_canSet_90 (fun h16 => ?_) (fun h16 => ?_)
              · rw [if_pos h16] at hr
                refine mV_push f10_canSet_97 ?_
                subst hr
                exact mV_iret rfl rfl f10_canSet_98 hQ
              · rw [if_neg h16] at hr
                refine mV_push f10_canSet_93 ?_
                refine mV_goto f10_canSet_94 ?_
                subst hr
                exact mV_iret rfl rfl f10_canSet_98 hQ
        · rw [if_pos h7] at hr
          refine mV_aload f10_canSet_44 rfl ?_
          refine mV_iload f10_canSet_45 rfl ?_
          refine mV_cV f10_canSet_46 tg_m10_isPlayer mCls10 (by decide) kk_119 (mC_deep (c10_isPlayer X I s x1 rfl) (by decide)) rfl rfl (Nat.le_of_ble_eq_true rfl) ?_
          refine mV_if_eq f10_canSet_49 (fun h17 => ?_) (fun h17 => ?_)
          · rw [if_pos h17] at hr
            refine mV_push f10_canSet_67 ?_
            subst hr
            exact mV_iret rfl rfl f10_canSet_68 hQ
          · rw [if_neg h17] at hr
            refine mV_aload f10_canSet_52 rfl ?_
            refine mV_iload f10_canSet_53 rfl ?_
            refine mV_push f10_canSet_54 ?_
            refine mV_push f10_canSet_55 ?_
            refine mV_cV f10_canSet_57 tg_m10_isIn mCls10 (by decide) kk_119 (mC_deep (c10_isIn X I s x2 0 9 rfl) (by decide)) rfl rfl (Nat.le_of_ble_eq_true rfl) ?_
            refine mV_if_eq f10_canSet_60 (fun h18 => ?_) (fun h18 => ?_)
            · rw [if_pos h18] at hr
              refine mV_push f10_canSet_67 ?_
              subst hr
              exact mV_iret rfl rfl f10_canSet_68 hQ
            · rw [if_neg h18] at hr
              refine mV_push f10_canSet_63 ?_
              refine mV_goto f10_canSet_64 ?_
              subst hr
              exact mV_iret rfl rfl f10_canSet_68 hQ
    · rw [if_pos h3] at hr
      refine mV_aload f10_canSet_9 rfl ?_
      refine mV_iload f10_canSet_10 rfl ?_
      refine mV_cV f10_canSet_11 tg_m10_isPiece mCls10 (by decide) kk_119 (mC_deep (c10_isPiece X I s x1 rfl) (by decide)) rfl rfl (Nat.le_of_ble_eq_true rfl) ?_
      refine mV_if_eq f10_canSet_14 (fun h19 => ?_) (fun h19 => ?_)
      · rw [if_pos h19] at hr
        refine mV_push f10_canSet_32 ?_
        subst hr
        exact mV_iret rfl rfl f10_canSet_33 hQ
      · rw [if_neg h19] at hr
        refine mV_aload f10_canSet_17 rfl ?_
        refine mV_iload f10_canSet_18 rfl ?_
        refine mV_push f10_canSet_19 ?_
        refine mV_push f10_canSet_20 ?_
        refine mV_cV f10_canSet_22 tg_m10_isIn mCls10 (by decide) kk_119 (mC_deep (c10_isIn X I s x2 0 9 rfl) (by decide)) rfl rfl (Nat.le_of_ble_eq_true rfl) ?_
        refine mV_if_eq f10_canSet_25 (fun h20 => ?_) (fun h20 => ?_)
        · rw [if_pos h20] at hr
          refine mV_push f10_canSet_32 ?_
          subst hr
          exact mV_iret rfl rfl f10_canSet_33 hQ
        · rw [if_neg h20] at hr
          refine mV_push f10_canSet_28 ?_
          refine mV_goto f10_canSet_29 ?_
          subst hr
          exact mV_iret rfl rfl f10_canSet_33 hQ
theorem c10_canSet (X : Nat × (Nat → Int32)) (I : mI) (s : Nat) (x0 : Int32) (x1 : Int32) (x2 : Int32) {res : Int32} (hr : r10_canSet I x0 x1 x2 = res) : mC X m10_canSet 1 0 0 [.ref 119, .int x0, .int x1, .int x2] NN KK I (PP s) (mRet (some (.int res)) NN KK I (PP s)) :=
  mC_of (L0 := [.ref 119, .int x0, .int x1, .int x2]) rfl (Nat.le_of_ble_eq_true rfl) (w10_canSet X I s x0 x1 x2 _ hr (mRet_ok _ _ _ _ _))
def r10_set (I : mI) (x0 : Int32) (x1 : Int32) (x2 : Int32) : Option (Int32 × mI) := if ((r10_canSet (mW I 119 0 0) x0 x1 x2) : Int32) = (0 : Int32) then some (0, (mW I 119 0 0)) else (if (x0 : Int32) = (0 : Int32) then (mSto (mW I 119 0 0) 124 12 x1 x2).bind fun z1 => some z1 else some (mW I 119 0 0) : Option (mI)).bind fun z0 => (if (x0 : Int32) = (1 : Int32) then (mSto z0 125 12 x1 x2).bind fun z3 => some z3 else some z0 : Option (mI)).bind fun z2 => (if (x0 : Int32) = (2 : Int32) then (mSto z2 126 6 x1 x2).bind fun z5 => some z5 else some z2 : Option (mI)).bind fun z4 => (if (x0 : Int32) = (3 : Int32) then (mSto z4 127 6 x1 x2).bind fun z7 => some z7 else some z4 : Option (mI)).bind fun z6 => (if (x0 : Int32) = (4 : Int32) then (mSto z6 120 47 (9 + x1) x2).bind fun z9 => some z9 else some z6 : Option (mI)).bind fun z8 => (if (x0 : Int32) = (5 : Int32) then some (mW z8 120 3 x2) else some z8 : Option (mI)).bind fun z10 => (if (x0 : Int32) = (6 : Int32) then some (mW z10 120 5 (x2 - 10)) else some z10 : Option (mI)).bind fun z11 => (if (x0 : Int32) = (7 : Int32) then some (mW z11 120 6 x2) else some z11 : Option (mI)).bind fun z12 => some (1, (mW z12 119 3 0))
set_option maxHeartbeats 4000000 in
set_option maxRecDepth 100000 in
theorem w10_set (X : Nat × (Nat → Int32)) (I : mI) (s : Nat) (x0 : Int32) (x1 : Int32) (x2 : Int32) (Q : mQ) {res : Int32 × mI} (hr : r10_set I x0 x1 x2 = some res) (hQ : Q (some (.int res.1)) NN KK res.2 (PP s)) : mV X m10_set 2 0 0 0 [.ref 119, .int x0, .int x1, .int x2] [] NN KK I (PP s) Q := by
  unfold r10_set at hr
  refine mV_aload f10_set_0 rfl ?_
  refine mV_push f10_set_1 ?_
  refine mV_putI f10_set_2 (by decide) kk_119 rfl rfl ?_
  refine mV_aload f10_set_5 rfl ?_
  refine mV_iload f10_set_6 rfl ?_
  refine mV_iload f10_set_7 rfl ?_
  refine mV_iload f10_set_8 rfl ?_
  refine mV_cV f10_set_9 tg_m10_canSet mCls10 (by decide) kk_119 (mC_deep (c10_canSet X (mW I 119 0 0) s x0 x1 x2 rfl) (by decide)) rfl rfl (Nat.le_of_ble_eq_true rfl) ?_
  refine mV_if_ne f10_set_12 (fun h0 => ?_) (fun h0 => ?_)
  · rw [if_neg h0] at hr
    refine mV_iload f10_set_17 rfl ?_
    obtain ⟨z0, hz0, hr⟩ := mBind hr
    have keyz0 : mV X m10_set 2 0 0 28 [.ref 119, .int x0, .int x1, .int x2] [] NN KK z0 (PP s) Q := by
      refine mV_iload f10_set_28 rfl ?_
      refine mV_push f10_set_29 ?_
      obtain ⟨z2, hz2, hr⟩ := mBind hr
      have keyz2 : mV X m10_set 2 0 0 40 [.ref 119, .int x0, .int x1, .int x2] [] NN KK z2 (PP s) Q := by
        refine mV_iload f10_set_40 rfl ?_
        refine mV_push f10_set_41 ?_
        obtain ⟨z4, hz4, hr⟩ := mBind hr
        have keyz4 : mV X m10_set 2 0 0 52 [.ref 119, .int x0, .int x1, .int x2] [] NN KK z4 (PP s) Q := by
          refine mV_iload f10_set_52 rfl ?_
          refine mV_push f10_set_53 ?_
          obtain ⟨z6, hz6, hr⟩ := mBind hr
          have keyz6 : mV X m10_set 2 0 0 64 [.ref 119, .int x0, .int x1, .int x2] [] NN KK z6 (PP s) Q := by
            refine mV_iload f10_set_64 rfl ?_
            refine mV_push f10_set_65 ?_
            obtain ⟨z8, hz8, hr⟩ := mBind hr
            have keyz8 : mV X m10_set 2 0 0 79 [.ref 119, .int x0, mX0, .int x2] [] NN KK z8 (PP s) Q := by
              refine mV_iload f10_set_79 rfl ?_
              refine mV_push f10_set_80 ?_
              obtain ⟨z10, hz10, hr⟩ := mBind hr
              have keyz10 : mV X m10_set 2 0 0 91 [.ref 119, .int x0, mX0, .int x2] [] NN KK z10 (PP s) Q := by
                refine mV_iload f10_set_91 rfl ?_
                refine mV_push f10_set_92 ?_
                obtain ⟨z11, hz11, hr⟩ := mBind hr
                have keyz11 : mV X m10_set 2 0 0 107 [.ref 119, .int x0, mX0, .int x2] [] NN KK z11 (PP s) Q := by
                  refine mV_iload f10_set_107 rfl ?_
                  refine mV_push f10_set_108 ?_
                  obtain ⟨z12, hz12, hr⟩ := mBind hr
                  have keyz12 : mV X m10_set 2 0 0 121 [.ref 119, mX0, mX0, mX0] [] NN KK z12 (PP s) Q := by
                    refine mV_aload f10_set_121 rfl ?_
                    refine mV_push f10_set_122 ?_
                    refine mV_putI f10_set_123 (by decide) kk_119 rfl rfl ?_
                    refine mV_push f10_set_126 ?_
                    have hr := Option.some.inj hr; subst hr
                    exact mV_iret rfl rfl f10_set_127 hQ
                  clear hr
                  have hr := hz12
                  clear hz12
                  refine mV_icmp_ne f10_set_110 (fun h8 => ?_) (fun h8 => ?_)
                  · rw [if_neg h8] at hr
                    have hr := Option.some.inj hr; subst hr
                    refine mV_drop (L' := [.ref 119, mX0, mX0, mX0]) (mSub_k (mSub_x (mSub_x (mSub_x mSub_n)))) ?_
                    exact keyz12
                  · rw [if_pos h8] at hr
                    refine mV_aload f10_set_113 rfl ?_
                    refine mV_getP f10_set_114 (by decide) kk_119 rfl (pp_119_1 _) ?_
                    refine mV_push f10_set_117 ?_
                    refine mV_iload f10_set_119 rfl ?_
                    refine mV_sto 6 f10_set_120 (by decide) kk_120 (by decide) ?_
                    have hr := Option.some.inj hr; subst hr
                    refine mV_drop (L' := [.ref 119, mX0, mX0, mX0]) (mSub_k (mSub_x (mSub_x (mSub_x mSub_n)))) ?_
                    exact keyz12
                clear hr
                have hr := hz11
                clear hz11
                refine mV_icmp_ne f10_set_94 (fun h7 => ?_) (fun h7 => ?_)
                · rw [if_neg h7] at hr
                  have hr := Option.some.inj hr; subst hr
                  exact keyz11
                · rw [if_pos h7] at hr
                  refine mV_aload f10_set_97 rfl ?_
                  refine mV_getP f10_set_98 (by decide) kk_119 rfl (pp_119_1 _) ?_
                  refine mV_push f10_set_101 ?_
                  refine mV_iload f10_set_102 rfl ?_
                  refine mV_push f10_set_103 ?_
                  refine mV_isub f10_set_105 ?_
                  refine mV_sto 5 f10_set_106 (by decide) kk_120 (by decide) ?_
                  have hr := Option.some.inj hr; subst hr
                  exact keyz11
              clear hr
              have hr := hz10
              clear hz10
              refine mV_icmp_ne f10_set_81 (fun h6 => ?_) (fun h6 => ?_)
              · rw [if_neg h6] at hr
                have hr := Option.some.inj hr; subst hr
                exact keyz10
              · rw [if_pos h6] at hr
                refine mV_aload f10_set_84 rfl ?_
                refine mV_getP f10_set_85 (by decide) kk_119 rfl (pp_119_1 _) ?_
                refine mV_push f10_set_88 ?_
                refine mV_iload f10_set_89 rfl ?_
                refine mV_sto 3 f10_set_90 (by decide) kk_120 (by decide) ?_
                have hr := Option.some.inj hr; subst hr
                exact keyz10
            clear hr
            have hr := hz8
            clear hz8
            refine mV_icmp_ne f10_set_66 (fun h5 => ?_) (fun h5 => ?_)
            · rw [if_neg h5] at hr
              have hr := Option.some.inj hr; subst hr
              refine mV_drop (L' := [.ref 119, .int x0, mX0, .int x2]) (mSub_k (mSub_k (mSub_x (mSub_k mSub_n)))) ?_
              exact keyz8
            · rw [if_pos h5] at hr
              refine mV_aload f10_set_69 rfl ?_
              refine mV_getP f10_set_70 (by decide) kk_119 rfl (pp_119_1 _) ?_
              refine mV_push f10_set_73 ?_
              refine mV_iload f10_set_75 rfl ?_
              refine mV_iadd f10_set_76 ?_
              refine mV_iload f10_set_77 rfl ?_
              obtain ⟨z9, hz9, hr⟩ := mBind hr
              refine mV_stO f10_set_78 (by decide) kk_120 hz9 ?_
              have hr := Option.some.inj hr; subst hr
              refine mV_drop (L' := [.ref 119, .int x0, mX0, .int x2]) (mSub_k (mSub_k (mSub_x (mSub_k mSub_n)))) ?_
              exact keyz8
          clear hr
          have hr := hz6
          clear hz6
          refine mV_icmp_ne f10_set_54 (fun h4 => ?_) (fun h4 => ?_)
          · rw [if_neg h4] at hr
            have hr := Option.some.inj hr; subst hr
            exact keyz6
          · rw [if_pos h4] at hr
            refine mV_aload f10_set_57 rfl ?_
            refine mV_getP f10_set_58 (by decide) kk_119 rfl (pp_119_12 _) ?_
            refine mV_iload f10_set_61 rfl ?_
            refine mV_iload f10_set_62 rfl ?_
            obtain ⟨z7, hz7, hr⟩ := mBind hr
            refine mV_stO f10_set_63 (by decide) kk_127 hz7 ?_
            have hr := Option.some.inj hr; subst hr
            exact keyz6
        clear hr
        have hr := hz4
        clear hz4
        refine mV_icmp_ne f10_set_42 (fun h3 => ?_) (fun h3 => ?_)
        · rw [if_neg h3] at hr
          have hr := Option.some.inj hr; subst hr
          exact keyz4
        · rw [if_pos h3] at hr
          refine mV_aload f10_set_45 rfl ?_
          refine mV_getP f10_set_46 (by decide) kk_119 rfl (pp_119_11 _) ?_
          refine mV_iload f10_set_49 rfl ?_
          refine mV_iload f10_set_50 rfl ?_
          obtain ⟨z5, hz5, hr⟩ := mBind hr
          refine mV_stO f10_set_51 (by decide) kk_126 hz5 ?_
          have hr := Option.some.inj hr; subst hr
          exact keyz4
      clear hr
      have hr := hz2
      clear hz2
      refine mV_icmp_ne f10_set_30 (fun h2 => ?_) (fun h2 => ?_)
      · rw [if_neg h2] at hr
        have hr := Option.some.inj hr; subst hr
        exact keyz2
      · rw [if_pos h2] at hr
        refine mV_aload f10_set_33 rfl ?_
        refine mV_getP f10_set_34 (by decide) kk_119 rfl (pp_119_10 _) ?_
        refine mV_iload f10_set_37 rfl ?_
        refine mV_iload f10_set_38 rfl ?_
        obtain ⟨z3, hz3, hr⟩ := mBind hr
        refine mV_stO f10_set_39 (by decide) kk_125 hz3 ?_
        have hr := Option.some.inj hr; subst hr
        exact keyz2
    clear hr
    have hr := hz0
    clear hz0
    refine mV_if_ne f10_set_18 (fun h1 => ?_) (fun h1 => ?_)
    · rw [if_neg h1] at hr
      have hr := Option.some.inj hr; subst hr
      exact keyz0
    · rw [if_pos h1] at hr
      refine mV_aload f10_set_21 rfl ?_
      refine mV_getP f10_set_22 (by decide) kk_119 rfl (pp_119_9 _) ?_
      refine mV_iload f10_set_25 rfl ?_
      refine mV_iload f10_set_26 rfl ?_
      obtain ⟨z1, hz1, hr⟩ := mBind hr
      refine mV_stO f10_set_27 (by decide) kk_124 hz1 ?_
      have hr := Option.some.inj hr; subst hr
      exact keyz0
  · rw [if_pos h0] at hr
    refine mV_push f10_set_15 ?_
    have hr := Option.some.inj hr; subst hr
    exact mV_iret rfl rfl f10_set_16 hQ
theorem c10_set (X : Nat × (Nat → Int32)) (I : mI) (s : Nat) (x0 : Int32) (x1 : Int32) (x2 : Int32) {res : Int32 × mI} (hr : r10_set I x0 x1 x2 = some res) : mC X m10_set 2 0 0 [.ref 119, .int x0, .int x1, .int x2] NN KK I (PP s) (mRet (some (.int res.1)) NN KK res.2 (PP s)) :=
  mC_of (L0 := [.ref 119, .int x0, .int x1, .int x2]) rfl (Nat.le_of_ble_eq_true rfl) (w10_set X I s x0 x1 x2 _ hr (mRet_ok _ _ _ _ _))
def l10_types_3 (k1 : Int32) : Nat → Int32 → mI → Option (mI)
  | 0, _, _ => none
  | f + 1, y2, I => if (y2 : Int32) < (0 : Int32) then some I else (mSto I 129 400 (I 119 15) (((k1 : Int32) >>> (y2 &&& 31)) &&& 255)).bind fun z0 => l10_types_3 k1 f (y2 + (-8)) (mW z0 119 15 (z0 119 15 + 1))
def r10_types (I : mI) (x0 : Int32) : Option (mI) := (l10_types_3 x0 FU 24 I).bind fun z0 => some z0
set_option maxHeartbeats 4000000 in
set_option maxRecDepth 100000 in
theorem t10_types_3 (X : Nat × (Nat → Int32)) (Q : mQ) (s : Nat) (k1 : Int32) : ∀ (f : Nat) (y2 : Int32) (I : mI) (z : mI), l10_types_3 k1 f y2 I = some z → mV X m10_types 0 0 0 39 [.ref 119, .int k1, mX0] [] NN KK z (PP s) Q → mV X m10_types 0 0 0 3 [.ref 119, .int k1, .int y2] [] NN KK I (PP s) Q := by
  intro f
  induction f with
  | zero => intro y2 I z hr hk; cases hr
  | succ f ih =>
    intro y2 I z hr hk
    unfold l10_types_3 at hr
    refine mV_iload f10_types_3 rfl ?_
    refine mV_if_lt f10_types_4 (fun h0 => ?_) (fun h0 => ?_)
    · rw [if_pos h0] at hr
      have hr := Option.some.inj hr; subst hr
      refine mV_drop (L' := [.ref 119, .int k1, mX0]) (mSub_k (mSub_k (mSub_x mSub_n))) ?_
      exact hk
    · rw [if_neg h0] at hr
      refine mV_aload f10_types_7 rfl ?_
      refine mV_getP f10_types_8 (by decide) kk_119 rfl (pp_119_14 _) ?_
      refine mV_aload f10_types_11 rfl ?_
      refine mV_gI (I 119 15) f10_types_12 (by decide) kk_119 rfl rfl ?_
      refine mV_iload f10_types_15 rfl ?_
      refine mV_iload f10_types_16 rfl ?_
      refine mV_ishr f10_types_17 ?_
      refine mV_push f10_types_18 ?_
      refine mV_iand f10_types_21 ?_
      obtain ⟨z0, hz0, hr⟩ := mBind hr
      refine mV_stO f10_types_22 (by decide) kk_129 hz0 ?_
      refine mV_aload f10_types_23 rfl ?_
      refine mV_aload f10_types_24 rfl ?_
      refine mV_gI (z0 119 15) f10_types_25 (by decide) kk_119 rfl rfl ?_
      refine mV_push f10_types_28 ?_
      refine mV_iadd f10_types_29 ?_
      refine mV_putI f10_types_30 (by decide) kk_119 rfl rfl ?_
      refine mV_iinc (y := (y2 + (-8))) (L' := [.ref 119, .int k1, .int (y2 + (-8))]) f10_types_33 rfl rfl (by decide) rfl rfl ?_
      refine mV_goto f10_types_36 ?_
      exact ih (y2 + (-8)) (mW z0 119 15 (z0 119 15 + 1)) _ hr hk
set_option maxHeartbeats 4000000 in
set_option maxRecDepth 100000 in
theorem w10_types (X : Nat × (Nat → Int32)) (I : mI) (s : Nat) (x0 : Int32) (Q : mQ) {res : mI} (hr : r10_types I x0 = some res) (hQ : Q none NN KK res (PP s)) : mV X m10_types 0 0 0 0 [.ref 119, .int x0, mX0] [] NN KK I (PP s) Q := by
  unfold r10_types at hr
  refine mV_push f10_types_0 ?_
  refine mV_istore (L' := [.ref 119, .int x0, .int 24]) f10_types_2 (by decide) rfl rfl ?_
  obtain ⟨z0, hz0, hr⟩ := mBind hr
  refine t10_types_3 X Q s x0 FU 24 I _ hz0 ?_
  have hr := Option.some.inj hr; subst hr
  exact mV_vret rfl f10_types_39 hQ
theorem c10_types (X : Nat × (Nat → Int32)) (I : mI) (s : Nat) (x0 : Int32) {res : mI} (hr : r10_types I x0 = some res) : mC X m10_types 0 0 0 [.ref 119, .int x0] NN KK I (PP s) (mRet none NN KK res (PP s)) :=
  mC_of (L0 := [.ref 119, .int x0, mX0]) rfl (Nat.le_of_ble_eq_true rfl) (w10_types X I s x0 _ hr (mRet_ok _ _ _ _ _))
def r10_feed (I : mI) (x0 : Int32) (x1 : Int32) (x2 : Int32) (x3 : Int32) (x4 : Int32) : Option (Int32 × mI) := if (I 119 15 : Int32) ≤ (380 : Int32) then (r10_types (mW I 119 0 0) x0).bind fun z0 => (r10_types z0 x1).bind fun z1 => (r10_types z1 x2).bind fun z2 => (r10_types z2 x3).bind fun z3 => (r10_types z3 x4).bind fun z4 => some (z4 119 15, z4) else some ((-1), (mW I 119 0 0))
set_option maxHeartbeats 4000000 in
set_option maxRecDepth 100000 in
theorem w10_feed (X : Nat × (Nat → Int32)) (I : mI) (s : Nat) (x0 : Int32) (x1 : Int32) (x2 : Int32) (x3 : Int32) (x4 : Int32) (Q : mQ) {res : Int32 × mI} (hr : r10_feed I x0 x1 x2 x3 x4 = some res) (hQ : Q (some (.int res.1)) NN KK res.2 (PP s)) : mV X m10_feed 1 0 0 0 [.ref 119, .int x0, .int x1, .int x2, .int x3, .int x4] [] NN KK I (PP s) Q := by
  unfold r10_feed at hr
  refine mV_aload f10_feed_0 rfl ?_
  refine mV_push f10_feed_1 ?_
  refine mV_putI f10_feed_2 (by decide) kk_119 rfl rfl ?_
  refine mV_aload f10_feed_5 rfl ?_
  refine mV_gI (I 119 15) f10_feed_6 (by decide) kk_119 rfl rfl ?_
  refine mV_push f10_feed_9 ?_
  refine mV_icmp_le f10_feed_12 (fun h0 => ?_) (fun h0 => ?_)
  · rw [if_pos h0] at hr
    refine mV_aload f10_feed_17 rfl ?_
    refine mV_iload f10_feed_18 rfl ?_
    obtain ⟨z0, hz0, hr⟩ := mBind hr
    refine mV_cV f10_feed_19 tg_m10_types mCls10 (by decide) kk_119 (mC_deep (c10_types X (mW I 119 0 0) s x0 hz0) (by decide)) rfl rfl (Nat.le_of_ble_eq_true rfl) ?_
    refine mV_aload f10_feed_22 rfl ?_
    refine mV_iload f10_feed_23 rfl ?_
    obtain ⟨z1, hz1, hr⟩ := mBind hr
    refine mV_cV f10_feed_24 tg_m10_types mCls10 (by decide) kk_119 (mC_deep (c10_types X z0 s x1 hz1) (by decide)) rfl rfl (Nat.le_of_ble_eq_true rfl) ?_
    refine mV_aload f10_feed_27 rfl ?_
    refine mV_iload f10_feed_28 rfl ?_
    obtain ⟨z2, hz2, hr⟩ := mBind hr
    refine mV_cV f10_feed_29 tg_m10_types mCls10 (by decide) kk_119 (mC_deep (c10_types X z1 s x2 hz2) (by decide)) rfl rfl (Nat.le_of_ble_eq_true rfl) ?_
    refine mV_aload f10_feed_32 rfl ?_
    refine mV_iload f10_feed_33 rfl ?_
    obtain ⟨z3, hz3, hr⟩ := mBind hr
    refine mV_cV f10_feed_35 tg_m10_types mCls10 (by decide) kk_119 (mC_deep (c10_types X z2 s x3 hz3) (by decide)) rfl rfl (Nat.le_of_ble_eq_true rfl) ?_
    refine mV_aload f10_feed_38 rfl ?_
    refine mV_iload f10_feed_39 rfl ?_
    obtain ⟨z4, hz4, hr⟩ := mBind hr
    refine mV_cV f10_feed_41 tg_m10_types mCls10 (by decide) kk_119 (mC_deep (c10_types X z3 s x4 hz4) (by decide)) rfl rfl (Nat.le_of_ble_eq_true rfl) ?_
    refine mV_aload f10_feed_44 rfl ?_
    refine mV_gI (z4 119 15) f10_feed_45 (by decide) kk_119 rfl rfl ?_
    have hr := Option.some.inj hr; subst hr
    exact mV_iret rfl rfl f10_feed_48 hQ
  · rw [if_neg h0] at hr
    refine mV_push f10_feed_15 ?_
    have hr := Option.some.inj hr; subst hr
    exact mV_iret rfl rfl f10_feed_16 hQ
theorem c10_feed (X : Nat × (Nat → Int32)) (I : mI) (s : Nat) (x0 : Int32) (x1 : Int32) (x2 : Int32) (x3 : Int32) (x4 : Int32) {res : Int32 × mI} (hr : r10_feed I x0 x1 x2 x3 x4 = some res) : mC X m10_feed 1 0 0 [.ref 119, .int x0, .int x1, .int x2, .int x3, .int x4] NN KK I (PP s) (mRet (some (.int res.1)) NN KK res.2 (PP s)) :=
  mC_of (L0 := [.ref 119, .int x0, .int x1, .int x2, .int x3, .int x4]) rfl (Nat.le_of_ble_eq_true rfl) (w10_feed X I s x0 x1 x2 x3 x4 _ hr (mRet_ok _ _ _ _ _))
def r10_end (I : mI) (x0 : Int32) : Option (Int32 × mI) := if ((r10_isIn x0 0 (I 119 15)) : Int32) = (0 : Int32) then some (0, (mW I 119 0 0)) else some (1, (mW (mW I 119 0 0) 119 15 x0))
set_option maxHeartbeats 4000000 in
set_option maxRecDepth 100000 in
theorem w10_end (X : Nat × (Nat → Int32)) (I : mI) (s : Nat) (x0 : Int32) (Q : mQ) {res : Int32 × mI} (hr : r10_end I x0 = some res) (hQ : Q (some (.int res.1)) NN KK res.2 (PP s)) : mV X m10_end 1 0 0 0 [.ref 119, .int x0] [] NN KK I (PP s) Q := by
  unfold r10_end at hr
  refine mV_aload f10_end_0 rfl ?_
  refine mV_push f10_end_1 ?_
  refine mV_putI f10_end_2 (by decide) kk_119 rfl rfl ?_
  refine mV_aload f10_end_5 rfl ?_
  refine mV_iload f10_end_6 rfl ?_
  refine mV_push f10_end_7 ?_
  refine mV_aload f10_end_8 rfl ?_
  refine mV_gI (I 119 15) f10_end_9 (by decide) kk_119 rfl rfl ?_
  refine mV_cV f10_end_12 tg_m10_isIn mCls10 (by decide) kk_119 (mC_deep (c10_isIn X (mW I 119 0 0) s x0 0 (I 119 15) rfl) (by decide)) rfl rfl (Nat.le_of_ble_eq_true rfl) ?_
  refine mV_if_ne f10_end_15 (fun h0 => ?_) (fun h0 => ?_)
  · rw [if_neg h0] at hr
    refine mV_aload f10_end_20 rfl ?_
    refine mV_iload f10_end_21 rfl ?_
    refine mV_putI f10_end_22 (by decide) kk_119 rfl rfl ?_
    refine mV_push f10_end_25 ?_
    have hr := Option.some.inj hr; subst hr
    exact mV_iret rfl rfl f10_end_26 hQ
  · rw [if_pos h0] at hr
    refine mV_push f10_end_18 ?_
    have hr := Option.some.inj hr; subst hr
    exact mV_iret rfl rfl f10_end_19 hQ
theorem c10_end (X : Nat × (Nat → Int32)) (I : mI) (s : Nat) (x0 : Int32) {res : Int32 × mI} (hr : r10_end I x0 = some res) : mC X m10_end 1 0 0 [.ref 119, .int x0] NN KK I (PP s) (mRet (some (.int res.1)) NN KK res.2 (PP s)) :=
  mC_of (L0 := [.ref 119, .int x0]) rfl (Nat.le_of_ble_eq_true rfl) (w10_end X I s x0 _ hr (mRet_ok _ _ _ _ _))
def r10_raw (I : mI) (x0 : Int32) : Option (Int32) := (if (I 119 15 : Int32) ≤ (x0 : Int32) then some (-1) else (mLd I 129 400 x0).bind fun z1 => some z1 : Option (Int32)).bind fun z0 => some z0
set_option maxHeartbeats 4000000 in
set_option maxRecDepth 100000 in
theorem w10_raw (X : Nat × (Nat → Int32)) (I : mI) (s : Nat) (x0 : Int32) (Q : mQ) {res : Int32} (hr : r10_raw I x0 = some res) (hQ : Q (some (.int res)) NN KK I (PP s)) : mV X m10_raw 0 0 0 0 [.ref 119, .int x0] [] NN KK I (PP s) Q := by
  unfold r10_raw at hr
  refine mV_iload f10_raw_0 rfl ?_
  refine mV_aload f10_raw_1 rfl ?_
  refine mV_gI (I 119 15) f10_raw_2 (by decide) kk_119 rfl rfl ?_
  obtain ⟨z0, hz0, hr⟩ := mBind hr
  have keyz0 : mV X m10_raw 0 0 0 18 [.ref 119, mX0] [.int z0] NN KK I (PP s) Q := by
    have hr := Option.some.inj hr; subst hr
    exact mV_iret rfl rfl f10_raw_18 hQ
  clear hr
  have hr := hz0
  clear hz0
  refine mV_icmp_ge f10_raw_5 (fun h0 => ?_) (fun h0 => ?_)
  · rw [if_pos h0] at hr
    refine mV_push f10_raw_17 ?_
    have hr := Option.some.inj hr; subst hr
    refine mV_drop (L' := [.ref 119, mX0]) (mSub_k (mSub_x mSub_n)) ?_
    exact keyz0
  · rw [if_neg h0] at hr
    refine mV_aload f10_raw_8 rfl ?_
    refine mV_getP f10_raw_9 (by decide) kk_119 rfl (pp_119_14 _) ?_
    refine mV_iload f10_raw_12 rfl ?_
    obtain ⟨z1, hz1, hr⟩ := mBind hr
    refine mV_ldO f10_raw_13 (by decide) kk_129 hz1 ?_
    refine mV_goto f10_raw_14 ?_
    have hr := Option.some.inj hr; subst hr
    refine mV_drop (L' := [.ref 119, mX0]) (mSub_k (mSub_x mSub_n)) ?_
    exact keyz0
theorem c10_raw (X : Nat × (Nat → Int32)) (I : mI) (s : Nat) (x0 : Int32) {res : Int32} (hr : r10_raw I x0 = some res) : mC X m10_raw 0 0 0 [.ref 119, .int x0] NN KK I (PP s) (mRet (some (.int res)) NN KK I (PP s)) :=
  mC_of (L0 := [.ref 119, .int x0]) rfl (Nat.le_of_ble_eq_true rfl) (w10_raw X I s x0 _ hr (mRet_ok _ _ _ _ _))
def r10_isLetter (x0 : Int32) : Int32 := if ((r10_isIn x0 97 122) : Int32) = (0 : Int32) then if ((r10_isIn x0 65 90) : Int32) = (0 : Int32) then 0 else 1 else 1
set_option maxHeartbeats 4000000 in
set_option maxRecDepth 100000 in
theorem w10_isLetter (X : Nat × (Nat → Int32)) (I : mI) (s : Nat) (x0 : Int32) (Q : mQ) {res : Int32} (hr : r10_isLetter x0 = res) (hQ : Q (some (.int res)) NN KK I (PP s)) : mV X m10_isLetter 1 0 0 0 [.ref 119, .int x0] [] NN KK I (PP s) Q := by
  unfold r10_isLetter at hr
  refine mV_aload f10_isLetter_0 rfl ?_
  refine mV_iload f10_isLetter_1 rfl ?_
  refine mV_push f10_isLetter_2 ?_
  refine mV_push f10_isLetter_4 ?_
  refine mV_cV f10_isLetter_6 tg_m10_isIn mCls10 (by decide) kk_119 (mC_deep (c10_isIn X I s x0 97 122 rfl) (by decide)) rfl rfl (Nat.le_of_ble_eq_true rfl) ?_
  refine mV_if_ne f10_isLetter_9 (fun h0 => ?_) (fun h0 => ?_)
  · rw [if_neg h0] at hr
    refine mV_push f10_isLetter_24 ?_
    refine mV_goto f10_isLetter_25 ?_
    subst hr
    exact mV_iret rfl rfl f10_isLetter_29 hQ
  · rw [if_pos h0] at hr
    refine mV_aload f10_isLetter_12 rfl ?_
    refine mV_iload f10_isLetter_13 rfl ?_
    refine mV_push f10_isLetter_14 ?_
    refine mV_push f10_isLetter_16 ?_
    refine mV_cV f10_isLetter_18 tg_m10_isIn mCls10 (by decide) kk_119 (mC_deep (c10_isIn X I s x0 65 90 rfl) (by decide)) rfl rfl (Nat.le_of_ble_eq_true rfl) ?_
    refine mV_if_eq f10_isLetter_21 (fun h1 => ?_) (fun h1 => ?_)
    · rw [if_pos h1] at hr
      refine mV_push f10_isLetter_28 ?_
      subst hr
      exact mV_iret rfl rfl f10_isLetter_29 hQ
    · rw [if_neg h1] at hr
      refine mV_push f10_isLetter_24 ?_
      refine mV_goto f10_isLetter_25 ?_
      subst hr
      exact mV_iret rfl rfl f10_isLetter_29 hQ
theorem c10_isLetter (X : Nat × (Nat → Int32)) (I : mI) (s : Nat) (x0 : Int32) {res : Int32} (hr : r10_isLetter x0 = res) : mC X m10_isLetter 1 0 0 [.ref 119, .int x0] NN KK I (PP s) (mRet (some (.int res)) NN KK I (PP s)) :=
  mC_of (L0 := [.ref 119, .int x0]) rfl (Nat.le_of_ble_eq_true rfl) (w10_isLetter X I s x0 _ hr (mRet_ok _ _ _ _ _))
def r10_isDigit (x0 : Int32) : Int32 := ((r10_isIn x0 48 57) &&& 1)
set_option maxHeartbeats 4000000 in
set_option maxRecDepth 100000 in
theorem w10_isDigit (X : Nat × (Nat → Int32)) (I : mI) (s : Nat) (x0 : Int32) (Q : mQ) {res : Int32} (hr : r10_isDigit x0 = res) (hQ : Q (some (.int res)) NN KK I (PP s)) : mV X m10_isDigit 1 0 0 0 [.ref 119, .int x0] [] NN KK I (PP s) Q := by
  unfold r10_isDigit at hr
  refine mV_aload f10_isDigit_0 rfl ?_
  refine mV_iload f10_isDigit_1 rfl ?_
  refine mV_push f10_isDigit_2 ?_
  refine mV_push f10_isDigit_4 ?_
  refine mV_cV f10_isDigit_6 tg_m10_isIn mCls10 (by decide) kk_119 (mC_deep (c10_isIn X I s x0 48 57 rfl) (by decide)) rfl rfl (Nat.le_of_ble_eq_true rfl) ?_
  subst hr
  exact mV_zret rfl f10_isDigit_9 hQ
theorem c10_isDigit (X : Nat × (Nat → Int32)) (I : mI) (s : Nat) (x0 : Int32) {res : Int32} (hr : r10_isDigit x0 = res) : mC X m10_isDigit 1 0 0 [.ref 119, .int x0] NN KK I (PP s) (mRet (some (.int res)) NN KK I (PP s)) :=
  mC_of (L0 := [.ref 119, .int x0]) rfl (Nat.le_of_ble_eq_true rfl) (w10_isDigit X I s x0 _ hr (mRet_ok _ _ _ _ _))
def r10_isMarkSign (x0 : Int32) : Int32 := if (x0 : Int32) = (59 : Int32) then 1 else if (x0 : Int32) = (43 : Int32) then 1 else if (x0 : Int32) = (45 : Int32) then 1 else if (x0 : Int32) = (42 : Int32) then 1 else if (x0 : Int32) = (47 : Int32) then 1 else if (x0 : Int32) = (40 : Int32) then 1 else if (x0 : Int32) = (41 : Int32) then 1 else if (x0 : Int32) = (60 : Int32) then 1 else if (x0 : Int32) = (61 : Int32) then 1 else if (x0 : Int32) = (62 : Int32) then 1 else 0
set_option maxHeartbeats 4000000 in
set_option maxRecDepth 100000 in
theorem w10_isMarkSign (X : Nat × (Nat → Int32)) (I : mI) (s : Nat) (x0 : Int32) (Q : mQ) {res : Int32} (hr : r10_isMarkSign x0 = res) (hQ : Q (some (.int res)) NN KK I (PP s)) : mV X m10_isMarkSign 0 0 0 0 [.ref 119, .int x0] [] NN KK I (PP s) Q := by
  unfold r10_isMarkSign at hr
  refine mV_iload f10_isMarkSign_0 rfl ?_
  refine mV_push f10_isMarkSign_1 ?_
  refine mV_icmp_eq f10_isMarkSign_3 (fun h0 => ?_) (fun h0 => ?_)
  · rw [if_pos h0] at hr
    refine mV_push f10_isMarkSign_60 ?_
    refine mV_goto f10_isMarkSign_61 ?_
    subst hr
    exact mV_iret rfl rfl f10_isMarkSign_65 hQ
  · rw [if_neg h0] at hr
    refine mV_iload f10_isMarkSign_6 rfl ?_
    refine mV_push f10_isMarkSign_7 ?_
    refine mV_icmp_eq f10_isMarkSign_9 (fun h1 => ?_) (fun h1 => ?_)
    · rw [if_pos h1] at hr
      refine mV_push f10_isMarkSign_60 ?_
      refine mV_goto f10_isMarkSign_61 ?_
      subst hr
      exact mV_iret rfl rfl f10_isMarkSign_65 hQ
    · rw [if_neg h1] at hr
      refine mV_iload f10_isMarkSign_12 rfl ?_
      refine mV_push f10_isMarkSign_13 ?_
      refine mV_icmp_eq f10_isMarkSign_15 (fun h2 => ?_) (fun h2 => ?_)
      · rw [if_pos h2] at hr
        refine mV_push f10_isMarkSign_60 ?_
        refine mV_goto f10_isMarkSign_61 ?_
        subst hr
        exact mV_iret rfl rfl f10_isMarkSign_65 hQ
      · rw [if_neg h2] at hr
        refine mV_iload f10_isMarkSign_18 rfl ?_
        refine mV_push f10_isMarkSign_19 ?_
        refine mV_icmp_eq f10_isMarkSign_21 (fun h3 => ?_) (fun h3 => ?_)
        · rw [if_pos h3] at hr
          refine mV_push f10_isMarkSign_60 ?_
          refine mV_goto f10_isMarkSign_61 ?_
          subst hr
          exact mV_iret rfl rfl f10_isMarkSign_65 hQ
        · rw [if_neg h3] at hr
          refine mV_iload f10_isMarkSign_24 rfl ?_
          refine mV_push f10_isMarkSign_25 ?_
          refine mV_icmp_eq f10_isMarkSign_27 (fun h4 => ?_) (fun h4 => ?_)
          · rw [if_pos h4] at hr
            refine mV_push f10_isMarkSign_60 ?_
            refine mV_goto f10_isMarkSign_61 ?_
            subst hr
            exact mV_iret rfl rfl f10_isMarkSign_65 hQ
          · rw [if_neg h4] at hr
            refine mV_iload f10_isMarkSign_30 rfl ?_
            refine mV_push f10_isMarkSign_31 ?_
            refine mV_icmp_eq f10_isMarkSign_33 (fun h5 => ?_) (fun h5 => ?_)
            · rw [if_pos h5] at hr
              refine mV_push f10_isMarkSign_60 ?_
              refine mV_goto f10_isMarkSign_61 ?_
              subst hr
              exact mV_iret rfl rfl f10_isMarkSign_65 hQ
            · rw [if_neg h5] at hr
              refine mV_iload f10_isMarkSign_36 rfl ?_
              refine mV_push f10_isMarkSign_37 ?_
              refine mV_icmp_eq f10_isMarkSign_39 (fun h6 => ?_) (fun h6 => ?_)
              · rw [if_pos h6] at hr
                refine mV_push f10_isMarkSign_60 ?_
                refine mV_goto f10_isMarkSign_61 ?_
                subst hr
                exact mV_iret rfl rfl f10_isMarkSign_65 hQ
              · rw [if_neg h6] at hr
                refine mV_iload f10_isMarkSign_42 rfl ?_
                refine mV_push f10_isMarkSign_43 ?_
                refine mV_icmp_eq f10_isMarkSign_45 (fun h7 => ?_) (fun h7 => ?_)
                · rw [if_pos h7] at hr
                  refine mV_push f10_isMarkSign_60 ?_
                  refine mV_goto f10_isMarkSign_61 ?_
                  subst hr
                  exact mV_iret rfl rfl f10_isMarkSign_65 hQ
                · rw [if_neg h7] at hr
                  refine mV_iload f10_isMarkSign_48 rfl ?_
                  refine mV_push f10_isMarkSign_49 ?_
                  refine mV_icmp_eq f10_isMarkSign_51 (fun h8 => ?_) (fun h8 => ?_)
                  · rw [if_pos h8] at hr
                    refine mV_push f10_isMarkSign_60 ?_
                    refine mV_goto f10_isMarkSign_61 ?_
                    subst hr
                    exact mV_iret rfl rfl f10_isMarkSign_65 hQ
                  · rw [if_neg h8] at hr
                    refine mV_iload f10_isMarkSign_54 rfl ?_
                    refine mV_push f10_isMarkSign_55 ?_
                    refine mV_icmp_ne f10_isMarkSign_57 (fun h9 => ?_) (fun h9 => ?_)
                    · rw [if_neg h9] at hr
                      refine mV_push f10_isMarkSign_64 ?_
                      subst hr
                      exact mV_iret rfl rfl f10_isMarkSign_65 hQ
                    · rw [if_pos h9] at hr
                      refine mV_push f10_isMarkSign_60 ?_
                      refine mV_goto f10_isMarkSign_61 ?_
                      subst hr
                      exact mV_iret rfl rfl f10_isMarkSign_65 hQ
theorem c10_isMarkSign (X : Nat × (Nat → Int32)) (I : mI) (s : Nat) (x0 : Int32) {res : Int32} (hr : r10_isMarkSign x0 = res) : mC X m10_isMarkSign 0 0 0 [.ref 119, .int x0] NN KK I (PP s) (mRet (some (.int res)) NN KK I (PP s)) :=
  mC_of (L0 := [.ref 119, .int x0]) rfl (Nat.le_of_ble_eq_true rfl) (w10_isMarkSign X I s x0 _ hr (mRet_ok _ _ _ _ _))
def l10_wordAt_20 (I : mI) (k1 : Int32) (k2 : Int32) (k4 : Int32) : Nat → Int32 → Option (Int32)
  | 0, _ => none
  | f + 1, y5 => if (k2 : Int32) ≤ ((k1 + y5) : Int32) then some y5 else (mLd I 130 143 ((k4 + 1) + y5)).bind fun z0 => (mLd I 129 400 (k1 + y5)).bind fun z1 => if (z0 : Int32) = (z1 : Int32) then l10_wordAt_20 I k1 k2 k4 f (y5 + 1) else some y5
def l10_wordAt_94 (I : mI) : Nat → Int32 → Option (Int32)
  | 0, _ => none
  | f + 1, y4 => (mLd I 130 143 y4).bind fun z0 => if (z0 : Int32) = (32 : Int32) then some y4 else l10_wordAt_94 I f (y4 + 1)
def l10_wordAt_5 (I : mI) (k1 : Int32) (k2 : Int32) : Nat → Int32 → Int32 → Option ((Int32) ⊕ (Unit))
  | 0, _, _ => none
  | f + 1, y3, y4 => if (142 : Int32) ≤ (y4 : Int32) then some (.inr ()) else (l10_wordAt_20 I k1 k2 y4 FU 0).bind fun z0 => if ((k1 + z0) : Int32) = (k2 : Int32) then (mLd I 130 143 ((y4 + 1) + z0)).bind fun z2 => if (z2 : Int32) = (32 : Int32) then some (.inl (y3 + 1)) else (l10_wordAt_94 I FU (y4 + 1)).bind fun z3 => l10_wordAt_5 I k1 k2 f (y3 + 1) z3 else (l10_wordAt_94 I FU (y4 + 1)).bind fun z1 => l10_wordAt_5 I k1 k2 f (y3 + 1) z1
def r10_wordAt (I : mI) (x0 : Int32) (x1 : Int32) : Option (Int32) := (l10_wordAt_5 I x0 x1 FU (-1) 0).bind fun z0 => match z0 with | .inl rz0 => some rz0 | .inr wz0 => some (-1)
set_option maxHeartbeats 4000000 in
set_option maxRecDepth 100000 in
theorem t10_wordAt_20 (X : Nat × (Nat → Int32)) (Q : mQ) (s : Nat) (I : mI) (k1 : Int32) (k2 : Int32) (k3 : Int32) (k4 : Int32) : ∀ (f : Nat) (y5 : Int32) (z : Int32), l10_wordAt_20 I k1 k2 k4 f y5 = some z → mV X m10_wordAt 0 0 0 61 [.ref 119, .int k1, .int k2, .int k3, .int k4, .int z] [] NN KK I (PP s) Q → mV X m10_wordAt 0 0 0 20 [.ref 119, .int k1, .int k2, .int k3, .int k4, .int y5] [] NN KK I (PP s) Q := by
  intro f
  induction f with
  | zero => intro y5 z hr hk; cases hr
  | succ f ih =>
    intro y5 z hr hk
    unfold l10_wordAt_20 at hr
    refine mV_iload f10_wordAt_20 rfl ?_
    refine mV_iload f10_wordAt_21 rfl ?_
    refine mV_iadd f10_wordAt_23 ?_
    refine mV_iload f10_wordAt_24 rfl ?_
    refine mV_icmp_ge f10_wordAt_25 (fun h0 => ?_) (fun h0 => ?_)
    · rw [if_pos h0] at hr
      have hr := Option.some.inj hr; subst hr
      exact hk
    · rw [if_neg h0] at hr
      refine mV_aload f10_wordAt_28 rfl ?_
      refine mV_getP f10_wordAt_29 (by decide) kk_119 rfl (pp_119_20 _) ?_
      refine mV_iload f10_wordAt_32 rfl ?_
      refine mV_push f10_wordAt_34 ?_
      refine mV_iadd f10_wordAt_35 ?_
      refine mV_iload f10_wordAt_36 rfl ?_
      refine mV_iadd f10_wordAt_38 ?_
      obtain ⟨z0, hz0, hr⟩ := mBind hr
      refine mV_ldO f10_wordAt_39 (by decide) kk_130 hz0 ?_
      refine mV_aload f10_wordAt_40 rfl ?_
      refine mV_getP f10_wordAt_41 (by decide) kk_119 rfl (pp_119_14 _) ?_
      refine mV_iload f10_wordAt_44 rfl ?_
      refine mV_iload f10_wordAt_45 rfl ?_
      refine mV_iadd f10_wordAt_47 ?_
      obtain ⟨z1, hz1, hr⟩ := mBind hr
      refine mV_ldO f10_wordAt_48 (by decide) kk_129 hz1 ?_
      refine mV_icmp_ne f10_wordAt_49 (fun h1 => ?_) (fun h1 => ?_)
      · rw [if_neg h1] at hr
        have hr := Option.some.inj hr; subst hr
        exact hk
      · rw [if_pos h1] at hr
        refine mV_iload f10_wordAt_52 rfl ?_
        refine mV_push f10_wordAt_54 ?_
        refine mV_iadd f10_wordAt_55 ?_
        refine mV_istore (L' := [.ref 119, .int k1, .int k2, .int k3, .int k4, .int (y5 + 1)]) f10_wordAt_56 (by decide) rfl rfl ?_
        refine mV_goto f10_wordAt_58 ?_
        exact ih (y5 + 1) _ hr hk
set_option maxHeartbeats 4000000 in
set_option maxRecDepth 100000 in
theorem t10_wordAt_94 (X : Nat × (Nat → Int32)) (Q : mQ) (s : Nat) (I : mI) (k1 : Int32) (k2 : Int32) (k3 : Int32) : ∀ (f : Nat) (y4 : Int32) (z : Int32), l10_wordAt_94 I f y4 = some z → mV X m10_wordAt 0 0 0 115 [.ref 119, .int k1, .int k2, .int k3, .int z, mX0] [] NN KK I (PP s) Q → mV X m10_wordAt 0 0 0 94 [.ref 119, .int k1, .int k2, .int k3, .int y4, mX0] [] NN KK I (PP s) Q := by
  intro f
  induction f with
  | zero => intro y4 z hr hk; cases hr
  | succ f ih =>
    intro y4 z hr hk
    unfold l10_wordAt_94 at hr
    refine mV_aload f10_wordAt_94 rfl ?_
    refine mV_getP f10_wordAt_95 (by decide) kk_119 rfl (pp_119_20 _) ?_
    refine mV_iload f10_wordAt_98 rfl ?_
    obtain ⟨z0, hz0, hr⟩ := mBind hr
    refine mV_ldO f10_wordAt_100 (by decide) kk_130 hz0 ?_
    refine mV_push f10_wordAt_101 ?_
    refine mV_icmp_eq f10_wordAt_103 (fun h0 => ?_) (fun h0 => ?_)
    · rw [if_pos h0] at hr
      have hr := Option.some.inj hr; subst hr
      exact hk
    · rw [if_neg h0] at hr
      refine mV_iload f10_wordAt_106 rfl ?_
      refine mV_push f10_wordAt_108 ?_
      refine mV_iadd f10_wordAt_109 ?_
      refine mV_istore (L' := [.ref 119, .int k1, .int k2, .int k3, .int (y4 + 1), mX0]) f10_wordAt_110 (by decide) rfl rfl ?_
      refine mV_goto f10_wordAt_112 ?_
      exact ih (y4 + 1) _ hr hk
set_option maxHeartbeats 4000000 in
set_option maxRecDepth 100000 in
theorem t10_wordAt_5 (X : Nat × (Nat → Int32)) (Q : mQ) (s : Nat) (I : mI) (k1 : Int32) (k2 : Int32) : ∀ (f : Nat) (y3 : Int32) (y4 : Int32) (z : (Int32) ⊕ (Unit)), l10_wordAt_5 I k1 k2 f y3 y4 = some z → (∀ res, z = .inl res → Q (some (.int res)) NN KK I (PP s)) → (∀ w, z = .inr w → mV X m10_wordAt 0 0 0 118 [.ref 119, .int k1, .int k2, mX0, mX0, mX0] [] NN KK I (PP s) Q) → mV X m10_wordAt 0 0 0 5 [.ref 119, .int k1, .int k2, .int y3, .int y4, mX0] [] NN KK I (PP s) Q := by
  intro f
  induction f with
  | zero => intro y3 y4 z hr hret hk; cases hr
  | succ f ih =>
    intro y3 y4 z hr hret hk
    unfold l10_wordAt_5 at hr
    refine mV_iload f10_wordAt_5 rfl ?_
    refine mV_push f10_wordAt_7 ?_
    refine mV_icmp_ge f10_wordAt_10 (fun h0 => ?_) (fun h0 => ?_)
    · rw [if_pos h0] at hr
      have hr := Option.some.inj hr; subst hr
      refine mV_drop (L' := [.ref 119, .int k1, .int k2, mX0, mX0, mX0]) (mSub_k (mSub_k (mSub_k (mSub_x (mSub_x (mSub_x mSub_n)))))) ?_
      exact hk _ rfl
    · rw [if_neg h0] at hr
      refine mV_push f10_wordAt_13 ?_
      refine mV_istore (L' := [.ref 119, .int k1, .int k2, .int y3, .int y4, .int 0]) f10_wordAt_14 (by decide) rfl rfl ?_
      refine mV_iload f10_wordAt_16 rfl ?_
      refine mV_push f10_wordAt_17 ?_
      refine mV_iadd f10_wordAt_18 ?_
      refine mV_istore (L' := [.ref 119, .int k1, .int k2, .int (y3 + 1), .int y4, .int 0]) f10_wordAt_19 (by decide) rfl rfl ?_
      obtain ⟨z0, hz0, hr⟩ := mBind hr
      refine t10_wordAt_20 X Q s I k1 k2 (y3 + 1) y4 FU 0 _ hz0 ?_
      refine mV_iload f10_wordAt_61 rfl ?_
      refine mV_iload f10_wordAt_62 rfl ?_
      refine mV_iadd f10_wordAt_64 ?_
      refine mV_iload f10_wordAt_65 rfl ?_
      refine mV_icmp_ne f10_wordAt_66 (fun h1 => ?_) (fun h1 => ?_)
      · rw [if_neg h1] at hr
        refine mV_iload f10_wordAt_88 rfl ?_
        refine mV_push f10_wordAt_90 ?_
        refine mV_iadd f10_wordAt_91 ?_
        refine mV_istore (L' := [.ref 119, .int k1, .int k2, .int (y3 + 1), .int (y4 + 1), .int z0]) f10_wordAt_92 (by decide) rfl rfl ?_
        obtain ⟨z1, hz1, hr⟩ := mBind hr
        refine mV_drop (L' := [.ref 119, .int k1, .int k2, .int (y3 + 1), .int (y4 + 1), mX0]) (mSub_k (mSub_k (mSub_k (mSub_k (mSub_k (mSub_x mSub_n)))))) ?_
        refine t10_wordAt_94 X Q s I k1 k2 (y3 + 1) FU (y4 + 1) _ hz1 ?_
        refine mV_goto f10_wordAt_115 ?_
        exact ih (y3 + 1) z1 _ hr hret hk
      · rw [if_pos h1] at hr
        refine mV_aload f10_wordAt_69 rfl ?_
        refine mV_getP f10_wordAt_70 (by decide) kk_119 rfl (pp_119_20 _) ?_
        refine mV_iload f10_wordAt_73 rfl ?_
        refine mV_push f10_wordAt_75 ?_
        refine mV_iadd f10_wordAt_76 ?_
        refine mV_iload f10_wordAt_77 rfl ?_
        refine mV_iadd f10_wordAt_79 ?_
        obtain ⟨z2, hz2, hr⟩ := mBind hr
        refine mV_ldO f10_wordAt_80 (by decide) kk_130 hz2 ?_
        refine mV_push f10_wordAt_81 ?_
        refine mV_icmp_ne f10_wordAt_83 (fun h2 => ?_) (fun h2 => ?_)
        · rw [if_neg h2] at hr
          refine mV_iload f10_wordAt_88 rfl ?_
          refine mV_push f10_wordAt_90 ?_
          refine mV_iadd f10_wordAt_91 ?_
          refine mV_istore (L' := [.ref 119, .int k1, .int k2, .int (y3 + 1), .int (y4 + 1), .int z0]) f10_wordAt_92 (by decide) rfl rfl ?_
          obtain ⟨z3, hz3, hr⟩ := mBind hr
          refine mV_drop (L' := [.ref 119, .int k1, .int k2, .int (y3 + 1), .int (y4 + 1), mX0]) (mSub_k (mSub_k (mSub_k (mSub_k (mSub_k (mSub_x mSub_n)))))) ?_
          refine t10_wordAt_94 X Q s I k1 k2 (y3 + 1) FU (y4 + 1) _ hz3 ?_
          refine mV_goto f10_wordAt_115 ?_
          exact ih (y3 + 1) z3 _ hr hret hk
        · rw [if_pos h2] at hr
          refine mV_iload f10_wordAt_86 rfl ?_
          have hr := Option.some.inj hr; subst hr; have hQ := hret _ rfl
          exact mV_iret rfl rfl f10_wordAt_87 hQ
set_option maxHeartbeats 4000000 in
set_option maxRecDepth 100000 in
theorem w10_wordAt (X : Nat × (Nat → Int32)) (I : mI) (s : Nat) (x0 : Int32) (x1 : Int32) (Q : mQ) {res : Int32} (hr : r10_wordAt I x0 x1 = some res) (hQ : Q (some (.int res)) NN KK I (PP s)) : mV X m10_wordAt 0 0 0 0 [.ref 119, .int x0, .int x1, mX0, mX0, mX0] [] NN KK I (PP s) Q := by
  unfold r10_wordAt at hr
  refine mV_push f10_wordAt_0 ?_
  refine mV_istore (L' := [.ref 119, .int x0, .int x1, .int (-1), mX0, mX0]) f10_wordAt_1 (by decide) rfl rfl ?_
  refine mV_push f10_wordAt_2 ?_
  refine mV_istore (L' := [.ref 119, .int x0, .int x1, .int (-1), .int 0, mX0]) f10_wordAt_3 (by decide) rfl rfl ?_
  obtain ⟨z0, hz0, hr⟩ := mBind hr
  refine t10_wordAt_5 X Q s I x0 x1 FU (-1) 0 _ hz0 (fun res ez0 => ?_) (fun wz0 ez0 => ?_)
  · rw [ez0] at hr; have hr := Option.some.inj hr; subst hr; exact hQ
  rw [ez0] at hr
  dsimp only at hr
  refine mV_push f10_wordAt_118 ?_
  have hr := Option.some.inj hr; subst hr
  exact mV_iret rfl rfl f10_wordAt_119 hQ
theorem c10_wordAt (X : Nat × (Nat → Int32)) (I : mI) (s : Nat) (x0 : Int32) (x1 : Int32) {res : Int32} (hr : r10_wordAt I x0 x1 = some res) : mC X m10_wordAt 0 0 0 [.ref 119, .int x0, .int x1] NN KK I (PP s) (mRet (some (.int res)) NN KK I (PP s)) :=
  mC_of (L0 := [.ref 119, .int x0, .int x1, mX0, mX0, mX0]) rfl (Nat.le_of_ble_eq_true rfl) (w10_wordAt X I s x0 x1 _ hr (mRet_ok _ _ _ _ _))
def l10_reads_0 : Nat → mI → Option (mI)
  | 0, _ => none
  | f + 1, I => (r10_raw I (I 119 16)).bind fun z0 => if (z0 : Int32) = (32 : Int32) then l10_reads_0 f (mW I 119 16 (I 119 16 + 1)) else (r10_raw I (I 119 16)).bind fun z1 => if (z1 : Int32) = (10 : Int32) then l10_reads_0 f (mW I 119 16 (I 119 16 + 1)) else some I
def l10_reads_171 : Nat → mI → Option (mI)
  | 0, _ => none
  | f + 1, I => (r10_raw I (I 119 16)).bind fun z0 => if ((r10_isDigit z0) : Int32) = (0 : Int32) then some I else (if (10000 : Int32) ≤ (I 119 19 : Int32) then some (I 119 19) else (r10_raw I (I 119 16)).bind fun z2 => some (((10 * I 119 19) + z2) - 48) : Option (Int32)).bind fun z1 => l10_reads_171 f (mW (mW I 119 19 z1) 119 16 (I 119 16 + 1))
def l10_reads_95 : Nat → mI → Option (mI)
  | 0, _ => none
  | f + 1, I => (r10_raw I (I 119 16)).bind fun z0 => if ((r10_isLetter z0) : Int32) = (0 : Int32) then some I else l10_reads_95 f (mW I 119 16 (I 119 16 + 1))
def r10_reads (I : mI) : Option (mI) := (l10_reads_0 FU I).bind fun z0 => (r10_raw (mW (mW z0 119 17 (z0 119 16)) 119 18 1) (z0 119 16)).bind fun z1 => if (z1 : Int32) = ((-1) : Int32) then some (mW (mW (mW z0 119 17 (z0 119 16)) 119 18 1) 119 18 0) else (if ((r10_isLetter z1) : Int32) = (0 : Int32) then if ((r10_isDigit z1) : Int32) = (0 : Int32) then if ((r10_isMarkSign z1) : Int32) = (0 : Int32) then some (mW (mW (mW (mW z0 119 17 (z0 119 16)) 119 18 1) 119 16 (z0 119 16 + 1)) 119 19 z1) else some (mW (mW (mW (mW (mW z0 119 17 (z0 119 16)) 119 18 1) 119 16 (z0 119 16 + 1)) 119 19 z1) 119 18 4) else (l10_reads_171 FU (mW (mW (mW (mW (mW z0 119 17 (z0 119 16)) 119 18 1) 119 16 (z0 119 16 + 1)) 119 19 z1) 119 19 (z1 - 48))).bind fun z3 => if (5 : Int32) ≤ ((z3 119 16 - z3 119 17) : Int32) then some z3 else some (mW z3 119 18 3) else (l10_reads_95 FU (mW (mW (mW (mW z0 119 17 (z0 119 16)) 119 18 1) 119 16 (z0 119 16 + 1)) 119 19 z1)).bind fun z4 => (r10_wordAt z4 (z4 119 17) (z4 119 16)).bind fun z5 => if (z5 : Int32) = ((-1) : Int32) then some (mW z4 119 19 z5) else some (mW (mW z4 119 19 z5) 119 18 2) : Option (mI)).bind fun z2 => some z2
set_option maxHeartbeats 4000000 in
set_option maxRecDepth 100000 in
theorem t10_reads_0 (X : Nat × (Nat → Int32)) (Q : mQ) (s : Nat) : ∀ (f : Nat) (I : mI) (z : mI), l10_reads_0 f I = some z → mV X m10_reads 2 0 0 39 [.ref 119, mX0] [] NN KK z (PP s) Q → mV X m10_reads 2 0 0 0 [.ref 119, mX0] [] NN KK I (PP s) Q := by
  intro f
  induction f with
  | zero => intro I z hr hk; cases hr
  | succ f ih =>
    intro I z hr hk
    unfold l10_reads_0 at hr
    refine mV_aload f10_reads_0 rfl ?_
    refine mV_aload f10_reads_1 rfl ?_
    refine mV_gI (I 119 16) f10_reads_2 (by decide) kk_119 rfl rfl ?_
    obtain ⟨z0, hz0, hr⟩ := mBind hr
    refine mV_cV f10_reads_5 tg_m10_raw mCls10 (by decide) kk_119 (mC_deep (c10_raw X I s (I 119 16) hz0) (by decide)) rfl rfl (Nat.le_of_ble_eq_true rfl) ?_
    refine mV_push f10_reads_8 ?_
    refine mV_icmp_eq f10_reads_10 (fun h0 => ?_) (fun h0 => ?_)
    · rw [if_pos h0] at hr
      refine mV_aload f10_reads_26 rfl ?_
      refine mV_aload f10_reads_27 rfl ?_
      refine mV_gI (I 119 16) f10_reads_28 (by decide) kk_119 rfl rfl ?_
      refine mV_push f10_reads_31 ?_
      refine mV_iadd f10_reads_32 ?_
      refine mV_putI f10_reads_33 (by decide) kk_119 rfl rfl ?_
      refine mV_goto f10_reads_36 ?_
      exact ih (mW I 119 16 (I 119 16 + 1)) _ hr hk
    · rw [if_neg h0] at hr
      refine mV_aload f10_reads_13 rfl ?_
      refine mV_aload f10_reads_14 rfl ?_
      refine mV_gI (I 119 16) f10_reads_15 (by decide) kk_119 rfl rfl ?_
      obtain ⟨z1, hz1, hr⟩ := mBind hr
      refine mV_cV f10_reads_18 tg_m10_raw mCls10 (by decide) kk_119 (mC_deep (c10_raw X I s (I 119 16) hz1) (by decide)) rfl rfl (Nat.le_of_ble_eq_true rfl) ?_
      refine mV_push f10_reads_21 ?_
      refine mV_icmp_ne f10_reads_23 (fun h1 => ?_) (fun h1 => ?_)
      · rw [if_neg h1] at hr
        have hr := Option.some.inj hr; subst hr
        exact hk
      · rw [if_pos h1] at hr
        refine mV_aload f10_reads_26 rfl ?_
        refine mV_aload f10_reads_27 rfl ?_
        refine mV_gI (I 119 16) f10_reads_28 (by decide) kk_119 rfl rfl ?_
        refine mV_push f10_reads_31 ?_
        refine mV_iadd f10_reads_32 ?_
        refine mV_putI f10_reads_33 (by decide) kk_119 rfl rfl ?_
        refine mV_goto f10_reads_36 ?_
        exact ih (mW I 119 16 (I 119 16 + 1)) _ hr hk
set_option maxHeartbeats 4000000 in
set_option maxRecDepth 100000 in
theorem t10_reads_171 (X : Nat × (Nat → Int32)) (Q : mQ) (s : Nat) : ∀ (f : Nat) (I : mI) (z : mI), l10_reads_171 f I = some z → mV X m10_reads 2 0 0 239 [.ref 119, mX0] [] NN KK z (PP s) Q → mV X m10_reads 2 0 0 171 [.ref 119, mX0] [] NN KK I (PP s) Q := by
  intro f
  induction f with
  | zero => intro I z hr hk; cases hr
  | succ f ih =>
    intro I z hr hk
    unfold l10_reads_171 at hr
    refine mV_aload f10_reads_171 rfl ?_
    refine mV_aload f10_reads_172 rfl ?_
    refine mV_aload f10_reads_173 rfl ?_
    refine mV_gI (I 119 16) f10_reads_174 (by decide) kk_119 rfl rfl ?_
    obtain ⟨z0, hz0, hr⟩ := mBind hr
    refine mV_cV f10_reads_177 tg_m10_raw mCls10 (by decide) kk_119 (mC_deep (c10_raw X I s (I 119 16) hz0) (by decide)) rfl rfl (Nat.le_of_ble_eq_true rfl) ?_
    refine mV_cV f10_reads_180 tg_m10_isDigit mCls10 (by decide) kk_119 (mC_deep (c10_isDigit X I s z0 rfl) (by decide)) rfl rfl (Nat.le_of_ble_eq_true rfl) ?_
    refine mV_if_eq f10_reads_183 (fun h0 => ?_) (fun h0 => ?_)
    · rw [if_pos h0] at hr
      have hr := Option.some.inj hr; subst hr
      exact hk
    · rw [if_neg h0] at hr
      refine mV_aload f10_reads_186 rfl ?_
      refine mV_aload f10_reads_187 rfl ?_
      refine mV_gI (I 119 19) f10_reads_188 (by decide) kk_119 rfl rfl ?_
      refine mV_push f10_reads_191 ?_
      obtain ⟨z1, hz1, hr⟩ := mBind hr
      have keyz1 : mV X m10_reads 2 0 0 223 [.ref 119, mX0] [.int z1, .ref 119] NN KK I (PP s) Q := by
        refine mV_putI f10_reads_223 (by decide) kk_119 rfl rfl ?_
        refine mV_aload f10_reads_226 rfl ?_
        refine mV_aload f10_reads_227 rfl ?_
        refine mV_gI (I 119 16) f10_reads_228 (by decide) kk_119 rfl rfl ?_
        refine mV_push f10_reads_231 ?_
        refine mV_iadd f10_reads_232 ?_
        refine mV_putI f10_reads_233 (by decide) kk_119 rfl rfl ?_
        refine mV_goto f10_reads_236 ?_
        exact ih (mW (mW I 119 19 z1) 119 16 (I 119 16 + 1)) _ hr hk
      clear hr
      have hr := hz1
      clear hz1
      refine mV_icmp_ge f10_reads_194 (fun h1 => ?_) (fun h1 => ?_)
      · rw [if_pos h1] at hr
        refine mV_aload f10_reads_219 rfl ?_
        refine mV_gI (I 119 19) f10_reads_220 (by decide) kk_119 rfl rfl ?_
        have hr := Option.some.inj hr; subst hr
        exact keyz1
      · rw [if_neg h1] at hr
        refine mV_push f10_reads_197 ?_
        refine mV_aload f10_reads_199 rfl ?_
        refine mV_gI (I 119 19) f10_reads_200 (by decide) kk_119 rfl rfl ?_
        refine mV_imul f10_reads_203 ?_
        refine mV_aload f10_reads_204 rfl ?_
        refine mV_aload f10_reads_205 rfl ?_
        refine mV_gI (I 119 16) f10_reads_206 (by decide) kk_119 rfl rfl ?_
        obtain ⟨z2, hz2, hr⟩ := mBind hr
        refine mV_cV f10_reads_209 tg_m10_raw mCls10 (by decide) kk_119 (mC_deep (c10_raw X I s (I 119 16) hz2) (by decide)) rfl rfl (Nat.le_of_ble_eq_true rfl) ?_
        refine mV_iadd f10_reads_212 ?_
        refine mV_push f10_reads_213 ?_
        refine mV_isub f10_reads_215 ?_
        refine mV_goto f10_reads_216 ?_
        have hr := Option.some.inj hr; subst hr
        exact keyz1
set_option maxHeartbeats 4000000 in
set_option maxRecDepth 100000 in
theorem t10_reads_95 (X : Nat × (Nat → Int32)) (Q : mQ) (s : Nat) : ∀ (f : Nat) (I : mI) (z : mI), l10_reads_95 f I = some z → mV X m10_reads 2 0 0 123 [.ref 119, mX0] [] NN KK z (PP s) Q → mV X m10_reads 2 0 0 95 [.ref 119, mX0] [] NN KK I (PP s) Q := by
  intro f
  induction f with
  | zero => intro I z hr hk; cases hr
  | succ f ih =>
    intro I z hr hk
    unfold l10_reads_95 at hr
    refine mV_aload f10_reads_95 rfl ?_
    refine mV_aload f10_reads_96 rfl ?_
    refine mV_aload f10_reads_97 rfl ?_
    refine mV_gI (I 119 16) f10_reads_98 (by decide) kk_119 rfl rfl ?_
    obtain ⟨z0, hz0, hr⟩ := mBind hr
    refine mV_cV f10_reads_101 tg_m10_raw mCls10 (by decide) kk_119 (mC_deep (c10_raw X I s (I 119 16) hz0) (by decide)) rfl rfl (Nat.le_of_ble_eq_true rfl) ?_
    refine mV_cV f10_reads_104 tg_m10_isLetter mCls10 (by decide) kk_119 (mC_deep (c10_isLetter X I s z0 rfl) (by decide)) rfl rfl (Nat.le_of_ble_eq_true rfl) ?_
    refine mV_if_eq f10_reads_107 (fun h0 => ?_) (fun h0 => ?_)
    · rw [if_pos h0] at hr
      have hr := Option.some.inj hr; subst hr
      exact hk
    · rw [if_neg h0] at hr
      refine mV_aload f10_reads_110 rfl ?_
      refine mV_aload f10_reads_111 rfl ?_
      refine mV_gI (I 119 16) f10_reads_112 (by decide) kk_119 rfl rfl ?_
      refine mV_push f10_reads_115 ?_
      refine mV_iadd f10_reads_116 ?_
      refine mV_putI f10_reads_117 (by decide) kk_119 rfl rfl ?_
      refine mV_goto f10_reads_120 ?_
      exact ih (mW I 119 16 (I 119 16 + 1)) _ hr hk
set_option maxHeartbeats 4000000 in
set_option maxRecDepth 100000 in
theorem w10_reads (X : Nat × (Nat → Int32)) (I : mI) (s : Nat) (Q : mQ) {res : mI} (hr : r10_reads I = some res) (hQ : Q none NN KK res (PP s)) : mV X m10_reads 2 0 0 0 [.ref 119, mX0] [] NN KK I (PP s) Q := by
  unfold r10_reads at hr
  obtain ⟨z0, hz0, hr⟩ := mBind hr
  refine t10_reads_0 X Q s FU I _ hz0 ?_
  refine mV_aload f10_reads_39 rfl ?_
  refine mV_aload f10_reads_40 rfl ?_
  refine mV_gI (z0 119 16) f10_reads_41 (by decide) kk_119 rfl rfl ?_
  refine mV_putI f10_reads_44 (by decide) kk_119 rfl rfl ?_
  refine mV_aload f10_reads_47 rfl ?_
  refine mV_push f10_reads_48 ?_
  refine mV_putI f10_reads_49 (by decide) kk_119 rfl rfl ?_
  refine mV_aload f10_reads_52 rfl ?_
  refine mV_aload f10_reads_53 rfl ?_
  refine mV_gI (z0 119 16) f10_reads_54 (by decide) kk_119 rfl rfl ?_
  obtain ⟨z1, hz1, hr⟩ := mBind hr
  refine mV_cV f10_reads_57 tg_m10_raw mCls10 (by decide) kk_119 (mC_deep (c10_raw X (mW (mW z0 119 17 (z0 119 16)) 119 18 1) s (z0 119 16) hz1) (by decide)) rfl rfl (Nat.le_of_ble_eq_true rfl) ?_
  refine mV_istore (L' := [.ref 119, .int z1]) f10_reads_60 (by decide) rfl rfl ?_
  refine mV_iload f10_reads_61 rfl ?_
  refine mV_push f10_reads_62 ?_
  refine mV_icmp_ne f10_reads_63 (fun h0 => ?_) (fun h0 => ?_)
  · rw [if_neg h0] at hr
    refine mV_aload f10_reads_72 rfl ?_
    refine mV_aload f10_reads_73 rfl ?_
    refine mV_gI (z0 119 16) f10_reads_74 (by decide) kk_119 rfl rfl ?_
    refine mV_push f10_reads_77 ?_
    refine mV_iadd f10_reads_78 ?_
    refine mV_putI f10_reads_79 (by decide) kk_119 rfl rfl ?_
    refine mV_aload f10_reads_82 rfl ?_
    refine mV_iload f10_reads_83 rfl ?_
    refine mV_putI f10_reads_84 (by decide) kk_119 rfl rfl ?_
    refine mV_aload f10_reads_87 rfl ?_
    refine mV_iload f10_reads_88 rfl ?_
    refine mV_cV f10_reads_89 tg_m10_isLetter mCls10 (by decide) kk_119 (mC_deep (c10_isLetter X (mW (mW (mW (mW z0 119 17 (z0 119 16)) 119 18 1) 119 16 (z0 119 16 + 1)) 119 19 z1) s z1 rfl) (by decide)) rfl rfl (Nat.le_of_ble_eq_true rfl) ?_
    obtain ⟨z2, hz2, hr⟩ := mBind hr
    have keyz2 : mV X m10_reads 2 0 0 273 [.ref 119, mX0] [] NN KK z2 (PP s) Q := by
      have hr := Option.some.inj hr; subst hr
      exact mV_vret rfl f10_reads_273 hQ
    clear hr
    have hr := hz2
    clear hz2
    refine mV_if_eq f10_reads_92 (fun h1 => ?_) (fun h1 => ?_)
    · rw [if_pos h1] at hr
      refine mV_aload f10_reads_155 rfl ?_
      refine mV_iload f10_reads_156 rfl ?_
      refine mV_cV f10_reads_157 tg_m10_isDigit mCls10 (by decide) kk_119 (mC_deep (c10_isDigit X (mW (mW (mW (mW z0 119 17 (z0 119 16)) 119 18 1) 119 16 (z0 119 16 + 1)) 119 19 z1) s z1 rfl) (by decide)) rfl rfl (Nat.le_of_ble_eq_true rfl) ?_
      refine mV_if_eq f10_reads_160 (fun h2 => ?_) (fun h2 => ?_)
      · rw [if_pos h2] at hr
        refine mV_aload f10_reads_260 rfl ?_
        refine mV_iload f10_reads_261 rfl ?_
        refine mV_cV f10_reads_262 tg_m10_isMarkSign mCls10 (by decide) kk_119 (mC_deep (c10_isMarkSign X (mW (mW (mW (mW z0 119 17 (z0 119 16)) 119 18 1) 119 16 (z0 119 16 + 1)) 119 19 z1) s z1 rfl) (by decide)) rfl rfl (Nat.le_of_ble_eq_true rfl) ?_
        refine mV_if_eq f10_reads_265 (fun h3 => ?_) (fun h3 => ?_)
        · rw [if_pos h3] at hr
          have hr := Option.some.inj hr; subst hr
          refine mV_drop (L' := [.ref 119, mX0]) (mSub_k (mSub_x mSub_n)) ?_
          exact keyz2
        · rw [if_neg h3] at hr
          refine mV_aload f10_reads_268 rfl ?_
          refine mV_push f10_reads_269 ?_
          refine mV_putI f10_reads_270 (by decide) kk_119 rfl rfl ?_
          have hr := Option.some.inj hr; subst hr
          refine mV_drop (L' := [.ref 119, mX0]) (mSub_k (mSub_x mSub_n)) ?_
          exact keyz2
      · rw [if_neg h2] at hr
        refine mV_aload f10_reads_163 rfl ?_
        refine mV_iload f10_reads_164 rfl ?_
        refine mV_push f10_reads_165 ?_
        refine mV_isub f10_reads_167 ?_
        refine mV_putI f10_reads_168 (by decide) kk_119 rfl rfl ?_
        obtain ⟨z3, hz3, hr⟩ := mBind hr
        refine mV_drop (L' := [.ref 119, mX0]) (mSub_k (mSub_x mSub_n)) ?_
        refine t10_reads_171 X Q s FU (mW (mW (mW (mW (mW z0 119 17 (z0 119 16)) 119 18 1) 119 16 (z0 119 16 + 1)) 119 19 z1) 119 19 (z1 - 48)) _ hz3 ?_
        refine mV_aload f10_reads_239 rfl ?_
        refine mV_gI (z3 119 16) f10_reads_240 (by decide) kk_119 rfl rfl ?_
        refine mV_aload f10_reads_243 rfl ?_
        refine mV_gI (z3 119 17) f10_reads_244 (by decide) kk_119 rfl rfl ?_
        refine mV_isub f10_reads_247 ?_
        refine mV_push f10_reads_248 ?_
        refine mV_icmp_ge f10_reads_249 (fun h4 => ?_) (fun h4 => ?_)
        · rw [if_pos h4] at hr
          have hr := Option.some.inj hr; subst hr
          exact keyz2
        · rw [if_neg h4] at hr
          refine mV_aload f10_reads_252 rfl ?_
          refine mV_push f10_reads_253 ?_
          refine mV_putI f10_reads_254 (by decide) kk_119 rfl rfl ?_
          refine mV_goto f10_reads_257 ?_
          have hr := Option.some.inj hr; subst hr
          exact keyz2
    · rw [if_neg h1] at hr
      obtain ⟨z4, hz4, hr⟩ := mBind hr
      refine mV_drop (L' := [.ref 119, mX0]) (mSub_k (mSub_x mSub_n)) ?_
      refine t10_reads_95 X Q s FU (mW (mW (mW (mW z0 119 17 (z0 119 16)) 119 18 1) 119 16 (z0 119 16 + 1)) 119 19 z1) _ hz4 ?_
      refine mV_aload f10_reads_123 rfl ?_
      refine mV_aload f10_reads_124 rfl ?_
      refine mV_aload f10_reads_125 rfl ?_
      refine mV_gI (z4 119 17) f10_reads_126 (by decide) kk_119 rfl rfl ?_
      refine mV_aload f10_reads_129 rfl ?_
      refine mV_gI (z4 119 16) f10_reads_130 (by decide) kk_119 rfl rfl ?_
      obtain ⟨z5, hz5, hr⟩ := mBind hr
      refine mV_cV f10_reads_133 tg_m10_wordAt mCls10 (by decide) kk_119 (mC_deep (c10_wordAt X z4 s (z4 119 17) (z4 119 16) hz5) (by decide)) rfl rfl (Nat.le_of_ble_eq_true rfl) ?_
      refine mV_putI f10_reads_136 (by decide) kk_119 rfl rfl ?_
      refine mV_aload f10_reads_139 rfl ?_
      refine mV_gI z5 f10_reads_140 (by decide) kk_119 rfl rfl ?_
      refine mV_push f10_reads_143 ?_
      refine mV_icmp_eq f10_reads_144 (fun h5 => ?_) (fun h5 => ?_)
      · rw [if_pos h5] at hr
        have hr := Option.some.inj hr; subst hr
        exact keyz2
      · rw [if_neg h5] at hr
        refine mV_aload f10_reads_147 rfl ?_
        refine mV_push f10_reads_148 ?_
        refine mV_putI f10_reads_149 (by decide) kk_119 rfl rfl ?_
        refine mV_goto f10_reads_152 ?_
        have hr := Option.some.inj hr; subst hr
        exact keyz2
  · rw [if_pos h0] at hr
    refine mV_aload f10_reads_66 rfl ?_
    refine mV_push f10_reads_67 ?_
    refine mV_putI f10_reads_68 (by decide) kk_119 rfl rfl ?_
    have hr := Option.some.inj hr; subst hr
    exact mV_vret rfl f10_reads_71 hQ
theorem c10_reads (X : Nat × (Nat → Int32)) (I : mI) (s : Nat) {res : mI} (hr : r10_reads I = some res) : mC X m10_reads 2 0 0 [.ref 119] NN KK I (PP s) (mRet none NN KK res (PP s)) :=
  mC_of (L0 := [.ref 119, mX0]) rfl (Nat.le_of_ble_eq_true rfl) (w10_reads X I s _ hr (mRet_ok _ _ _ _ _))

def r10_raw (I : mI) (x0 : Int32) : Option (Int32) := (if (I 119 15 : Int32) ≤ (x0 : Int32) then some (-1) else (mLd I 129 400 x0).bind fun z1 => some z1 : Option (Int32)).bind fun z0 => some z0
set_option maxHeartbeats 4000000 in
set_option maxRecDepth 100000 in
theorem w10_raw (X : Nat × (Nat → Int32)) (I : mI) (s : Nat) (x0 : Int32) (Q : mQ) {res : Int32} (hr : r10_raw I x0 = some res) (hQ : Q (some (.int res)) NN KK I (PP s)) : mV X m10_raw 0 0 0 0 [.ref 119, .int x0] [] NN KK I (PP s) Q := by
  unfold r10_raw at hr
  refine mV_iload f10_raw_0 rfl ?_
  refine mV_aload f10_raw_1 rfl ?_
  refine mV_gI (I 119 15) f10_raw_2 (by decide) kk_119 rfl rfl ?_
  obtain ⟨z0, hz0, hr⟩ := mBind hr
  have keyz0 : mV X m10_raw 0 0 0 18 [.ref 119, mX0] [.int z0] NN KK I (PP s) Q := by
    have hr := Option.some.inj hr; subst hr
    exact mV_iret rfl rfl f10_raw_18 hQ
  clear hr
  have hr := hz0
  clear hz0
  refine mV_icmp_ge f10_raw_5 (fun h0 => ?_) (fun h0 => ?_)
  · rw [if_pos h0] at hr
    refine mV_push f10_raw_17 ?_
    have hr := Option.some.inj hr; subst hr
    refine mV_drop (L' := [.ref 119, mX0]) (mSub_k (mSub_x mSub_n)) ?_
    exact keyz0
  · rw [if_neg h0] at hr
    refine mV_aload f10_raw_8 rfl ?_
    refine mV_getP f10_raw_9 (by decide) kk_119 rfl (pp_119_14 _) ?_
    refine mV_iload f10_raw_12 rfl ?_
    obtain ⟨z1, hz1, hr⟩ := mBind hr
    refine mV_ldO f10_raw_13 (by decide) kk_129 hz1 ?_
    refine mV_goto f10_raw_14 ?_
    have hr := Option.some.inj hr; subst hr
    refine mV_drop (L' := [.ref 119, mX0]) (mSub_k (mSub_x mSub_n)) ?_
    exact keyz0
theorem c10_raw (X : Nat × (Nat → Int32)) (I : mI) (s : Nat) (x0 : Int32) {res : Int32} (hr : r10_raw I x0 = some res) : mC X m10_raw 0 0 0 [.ref 119, .int x0] NN KK I (PP s) (mRet (some (.int res)) NN KK I (PP s)) :=
  mC_of (L0 := [.ref 119, .int x0]) rfl (Nat.le_of_ble_eq_true rfl) (w10_raw X I s x0 _ hr (mRet_ok _ _ _ _ _))
def r10_isLetter (x0 : Int32) : Int32 := if ((r10_isIn x0 97 122) : Int32) = (0 : Int32) then if ((r10_isIn x0 65 90) : Int32) = (0 : Int32) then 0 else 1 else 1
set_option maxHeartbeats 4000000 in
set_option maxRecDepth 100000 in
theorem w10_isLetter (X : Nat × (Nat → Int32)) (I : mI) (s : Nat) (x0 : Int32) (Q : mQ) {res : Int32} (hr : r10_isLetter x0 = res) (hQ : Q (some (.int res)) NN KK I (PP s)) : mV X m10_isLetter 1 0 0 0 [.ref 119, .int x0] [] NN KK I (PP s) Q := by
  unfold r10_isLetter at hr
  refine mV_aload f10_isLetter_0 rfl ?_
  refine mV_iload f10_isLetter_1 rfl ?_
  refine mV_push f10_isLetter_2 ?_
  refine mV_push f10_isLetter_4 ?_
  refine mV_cV f10_isLetter_6 tg_m10_isIn mCls10 (by decide) kk_119 (mC_deep (c10_isIn X I s x0 97 122 rfl) (by decide)) rfl rfl (Nat.le_of_ble_eq_true rfl) ?_
  refine mV_if_ne f10_isLetter_9 (fun h0 => ?_) (fun h0 => ?_)
  · rw [if_neg h0] at hr
    refine mV_push f10_isLetter_24 ?_
    refine mV_goto f10_isLetter_25 ?_
    subst hr
    exact mV_iret rfl rfl f10_isLetter_29 hQ
  · rw [if_pos h0] at hr
    refine mV_aload f10_isLetter_12 rfl ?_
    refine mV_iload f10_isLetter_13 rfl ?_
    refine mV_push f10_isLetter_14 ?_
    refine mV_push f10_isLetter_16 ?_
    refine mV_cV f10_isLetter_18 tg_m10_isIn mCls10 (by decide) kk_119 (mC_deep (c10_isIn X I s x0 65 90 rfl) (by decide)) rfl rfl (Nat.le_of_ble_eq_true rfl) ?_
    refine mV_if_eq f10_isLetter_21 (fun h1 => ?_) (fun h1 => ?_)
    · rw [if_pos h1] at hr
      refine mV_push f10_isLetter_28 ?_
      subst hr
      exact mV_iret rfl rfl f10_isLetter_29 hQ
    · rw [if_neg h1] at hr
      refine mV_push f10_isLetter_24 ?_
      refine mV_goto f10_isLetter_25 ?_
      subst hr
      exact mV_iret rfl rfl f10_isLetter_29 hQ
theorem c10_isLetter (X : Nat × (Nat → Int32)) (I : mI) (s : Nat) (x0 : Int32) {res : Int32} (hr : r10_isLetter x0 = res) : mC X m10_isLetter 1 0 0 [.ref 119, .int x0] NN KK I (PP s) (mRet (some (.int res)) NN KK I (PP s)) :=
  mC_of (L0 := [.ref 119, .int x0]) rfl (Nat.le_of_ble_eq_true rfl) (w10_isLetter X I s x0 _ hr (mRet_ok _ _ _ _ _))
def r10_isDigit (x0 : Int32) : Int32 := ((r10_isIn x0 48 57) &&& 1)
set_option maxHeartbeats 4000000 in
set_option maxRecDepth 100000 in
theorem w10_isDigit (X : Nat × (Nat → Int32)) (I : mI) (s : Nat) (x0 : Int32) (Q : mQ) {res : Int32} (hr : r10_isDigit x0 = res) (hQ : Q (some (.int res)) NN KK I (PP s)) : mV X m10_isDigit 1 0 0 0 [.ref 119, .int x0] [] NN KK I (PP s) Q := by
  unfold r10_isDigit at hr
  refine mV_aload f10_isDigit_0 rfl ?_
  refine mV_iload f10_isDigit_1 rfl ?_
  refine mV_push f10_isDigit_2 ?_
  refine mV_push f10_isDigit_4 ?_
  refine mV_cV f10_isDigit_6 tg_m10_isIn mCls10 (by decide) kk_119 (mC_deep (c10_isIn X I s x0 48 57 rfl) (by decide)) rfl rfl (Nat.le_of_ble_eq_true rfl) ?_
  subst hr
  exact mV_zret rfl f10_isDigit_9 hQ
theorem c10_isDigit (X : Nat × (Nat → Int32)) (I : mI) (s : Nat) (x0 : Int32) {res : Int32} (hr : r10_isDigit x0 = res) : mC X m10_isDigit 1 0 0 [.ref 119, .int x0] NN KK I (PP s) (mRet (some (.int res)) NN KK I (PP s)) :=
  mC_of (L0 := [.ref 119, .int x0]) rfl (Nat.le_of_ble_eq_true rfl) (w10_isDigit X I s x0 _ hr (mRet_ok _ _ _ _ _))
def r10_isMarkSign (x0 : Int32) : Int32 := if (x0 : Int32) = (59 : Int32) then 1 else if (x0 : Int32) = (43 : Int32) then 1 else if (x0 : Int32) = (45 : Int32) then 1 else if (x0 : Int32) = (42 : Int32) then 1 else if (x0 : Int32) = (47 : Int32) then 1 else if (x0 : Int32) = (40 : Int32) then 1 else if (x0 : Int32) = (41 : Int32) then 1 else if (x0 : Int32) = (60 : Int32) then 1 else if (x0 : Int32) = (61 : Int32) then 1 else if (x0 : Int32) = (62 : Int32) then 1 else 0
set_option maxHeartbeats 4000000 in
set_option maxRecDepth 100000 in
theorem w10_isMarkSign (X : Nat × (Nat → Int32)) (I : mI) (s : Nat) (x0 : Int32) (Q : mQ) {res : Int32} (hr : r10_isMarkSign x0 = res) (hQ : Q (some (.int res)) NN KK I (PP s)) : mV X m10_isMarkSign 0 0 0 0 [.ref 119, .int x0] [] NN KK I (PP s) Q := by
  unfold r10_isMarkSign at hr
  refine mV_iload f10_isMarkSign_0 rfl ?_
  refine mV_push f10_isMarkSign_1 ?_
  refine mV_icmp_eq f10_isMarkSign_3 (fun h0 => ?_) (fun h0 => ?_)
  · rw [if_pos h0] at hr
    refine mV_push f10_isMarkSign_60 ?_
    refine mV_goto f10_isMarkSign_61 ?_
    subst hr
    exact mV_iret rfl rfl f10_isMarkSign_65 hQ
  · rw [if_neg h0] at hr
    refine mV_iload f10_isMarkSign_6 rfl ?_
    refine mV_push f10_isMarkSign_7 ?_
    refine mV_icmp_eq f10_isMarkSign_9 (fun h1 => ?_) (fun h1 => ?_)
    · rw [if_pos h1] at hr
      refine mV_push f10_isMarkSign_60 ?_
      refine mV_goto f10_isMarkSign_61 ?_
      subst hr
      exact mV_iret rfl rfl f10_isMarkSign_65 hQ
    · rw [if_neg h1] at hr
      refine mV_iload f10_isMarkSign_12 rfl ?_
      refine mV_push f10_isMarkSign_13 ?_
      refine mV_icmp_eq f10_isMarkSign_15 (fun h2 => ?_) (fun h2 => ?_)
      · rw [if_pos h2] at hr
        refine mV_push f10_isMarkSign_60 ?_
        refine mV_goto f10_isMarkSign_61 ?_
        subst hr
        exact mV_iret rfl rfl f10_isMarkSign_65 hQ
      · rw [if_neg h2] at hr
        refine mV_iload f10_isMarkSign_18 rfl ?_
        refine mV_push f10_isMarkSign_19 ?_
        refine mV_icmp_eq f10_isMarkSign_21 (fun h3 => ?_) (fun h3 => ?_)
        · rw [if_pos h3] at hr
          refine mV_push f10_isMarkSign_60 ?_
          refine mV_goto f10_isMarkSign_61 ?_
          subst hr
          exact mV_iret rfl rfl f10_isMarkSign_65 hQ
        · rw [if_neg h3] at hr
          refine mV_iload f10_isMarkSign_24 rfl ?_
          refine mV_push f10_isMarkSign_25 ?_
          refine mV_icmp_eq f10_isMarkSign_27 (fun h4 => ?_) (fun h4 => ?_)
          · rw [if_pos h4] at hr
            refine mV_push f10_isMarkSign_60 ?_
            refine mV_goto f10_isMarkSign_61 ?_
            subst hr
            exact mV_iret rfl rfl f10_isMarkSign_65 hQ
          · rw [if_neg h4] at hr
            refine mV_iload f10_isMarkSign_30 rfl ?_
            refine mV_push f10_isMarkSign_31 ?_
            refine mV_icmp_eq f10_isMarkSign_33 (fun h5 => ?_) (fun h5 => ?_)
            · rw [if_pos h5] at hr
              refine mV_push f10_isMarkSign_60 ?_
              refine mV_goto f10_isMarkSign_61 ?_
              subst hr
              exact mV_iret rfl rfl f10_isMarkSign_65 hQ
            · rw [if_neg h5] at hr
              refine mV_iload f10_isMarkSign_36 rfl ?_
              refine mV_push f10_isMarkSign_37 ?_
              refine mV_icmp_eq f10_isMarkSign_39 (fun h6 => ?_) (fun h6 => ?_)
              · rw [if_pos h6] at hr
                refine mV_push f10_isMarkSign_60 ?_
                refine mV_goto f10_isMarkSign_61 ?_
                subst hr
                exact mV_iret rfl rfl f10_isMarkSign_65 hQ
              · rw [if_neg h6] at hr
                refine mV_iload f10_isMarkSign_42 rfl ?_
                refine mV_push f10_isMarkSign_43 ?_
                refine mV_icmp_eq f10_isMarkSign_45 (fun h7 => ?_) (fun h7 => ?_)
                · rw [if_pos h7] at hr
                  refine mV_push f10_isMarkSign_60 ?_
                  refine mV_goto f10_isMarkSign_61 ?_
                  subst hr
                  exact mV_iret rfl rfl f10_isMarkSign_65 hQ
                · rw [if_neg h7] at hr
                  refine mV_iload f10_isMarkSign_48 rfl ?_
                  refine mV_push f10_isMarkSign_49 ?_
                  refine mV_icmp_eq f10_isMarkSign_51 (fun h8 => ?_) (fun h8 => ?_)
                  · rw [if_pos h8] at hr
                    refine mV_push f10_isMarkSign_60 ?_
                    refine mV_goto f10_isMarkSign_61 ?_
                    subst hr
                    exact mV_iret rfl rfl f10_isMarkSign_65 hQ
                  · rw [if_neg h8] at hr
                    refine mV_iload f10_isMarkSign_54 rfl ?_
                    refine mV_push f10_isMarkSign_55 ?_
                    refine mV_icmp_ne f10_isMarkSign_57 (fun h9 => ?_) (fun h9 => ?_)
                    · rw [if_neg h9] at hr
                      refine mV_push f10_isMarkSign_64 ?_
                      subst hr
                      exact mV_iret rfl rfl f10_isMarkSign_65 hQ
                    · rw [if_pos h9] at hr
                      refine mV_push f10_isMarkSign_60 ?_
                      refine mV_goto f10_isMarkSign_61 ?_
                      subst hr
                      exact mV_iret rfl rfl f10_isMarkSign_65 hQ
theorem c10_isMarkSign (X : Nat × (Nat → Int32)) (I : mI) (s : Nat) (x0 : Int32) {res : Int32} (hr : r10_isMarkSign x0 = res) : mC X m10_isMarkSign 0 0 0 [.ref 119, .int x0] NN KK I (PP s) (mRet (some (.int res)) NN KK I (PP s)) :=
  mC_of (L0 := [.ref 119, .int x0]) rfl (Nat.le_of_ble_eq_true rfl) (w10_isMarkSign X I s x0 _ hr (mRet_ok _ _ _ _ _))
def l10_wordAt_20 (I : mI) (k1 : Int32) (k2 : Int32) (k4 : Int32) : Nat → Int32 → Option (Int32)
  | 0, _ => none
  | f + 1, y5 => if (k2 : Int32) ≤ ((k1 + y5) : Int32) then some y5 else (mLd I 130 143 ((k4 + 1) + y5)).bind fun z0 => (mLd I 129 400 (k1 + y5)).bind fun z1 => if (z0 : Int32) = (z1 : Int32) then l10_wordAt_20 I k1 k2 k4 f (y5 + 1) else some y5
def l10_wordAt_94 (I : mI) : Nat → Int32 → Option (Int32)
  | 0, _ => none
  | f + 1, y4 => (mLd I 130 143 y4).bind fun z0 => if (z0 : Int32) = (32 : Int32) then some y4 else l10_wordAt_94 I f (y4 + 1)
def l10_wordAt_5 (I : mI) (k1 : Int32) (k2 : Int32) : Nat → Int32 → Int32 → Option ((Int32) ⊕ (Unit))
  | 0, _, _ => none
  | f + 1, y3, y4 => if (142 : Int32) ≤ (y4 : Int32) then some (.inr ()) else (l10_wordAt_20 I k1 k2 y4 FU 0).bind fun z0 => if ((k1 + z0) : Int32) = (k2 : Int32) then (mLd I 130 143 ((y4 + 1) + z0)).bind fun z2 => if (z2 : Int32) = (32 : Int32) then some (.inl (y3 + 1)) else (l10_wordAt_94 I FU (y4 + 1)).bind fun z3 => l10_wordAt_5 I k1 k2 f (y3 + 1) z3 else (l10_wordAt_94 I FU (y4 + 1)).bind fun z1 => l10_wordAt_5 I k1 k2 f (y3 + 1) z1
def r10_wordAt (I : mI) (x0 : Int32) (x1 : Int32) : Option (Int32) := (l10_wordAt_5 I x0 x1 FU (-1) 0).bind fun z0 => match z0 with | .inl rz0 => some rz0 | .inr wz0 => some (-1)
set_option maxHeartbeats 4000000 in
set_option maxRecDepth 100000 in
theorem t10_wordAt_20 (X : Nat × (Nat → Int32)) (Q : mQ) (s : Nat) (I : mI) (k1 : Int32) (k2 : Int32) (k3 : Int32) (k4 : Int32) : ∀ (f : Nat) (y5 : Int32) (z : Int32), l10_wordAt_20 I k1 k2 k4 f y5 = some z → mV X m10_wordAt 0 0 0 61 [.ref 119, .int k1, .int k2, .int k3, .int k4, .int z] [] NN KK I (PP s) Q → mV X m10_wordAt 0 0 0 20 [.ref 119, .int k1, .int k2, .int k3, .int k4, .int y5] [] NN KK I (PP s) Q := by
  intro f
  induction f with
  | zero => intro y5 z hr hk; cases hr
  | succ f ih =>
    intro y5 z hr hk
    unfold l10_wordAt_20 at hr
    refine mV_iload f10_wordAt_20 rfl ?_
    refine mV_iload f10_wordAt_21 rfl ?_
    refine mV_iadd f10_wordAt_23 ?_
    refine mV_iload f10_wordAt_24 rfl ?_
    refine mV_icmp_ge f10_wordAt_25 (fun h0 => ?_) (fun h0 => ?_)
    · rw [if_pos h0] at hr
      have hr := Option.some.inj hr; subst hr
      exact hk
    · rw [if_neg h0] at hr
      refine mV_aload f10_wordAt_28 rfl ?_
      refine mV_getP f10_wordAt_29 (by decide) kk_119 rfl (pp_119_20 _) ?_
      refine mV_iload f10_wordAt_32 rfl ?_
      refine mV_push f10_wordAt_34 ?_
      refine mV_iadd f10_wordAt_35 ?_
      refine mV_iload f10_wordAt_36 rfl ?_
      refine mV_iadd f10_wordAt_38 ?_
      obtain ⟨z0, hz0, hr⟩ := mBind hr
      refine mV_ldO f10_wordAt_39 (by decide) kk_130 hz0 ?_
      refine mV_aload f10_wordAt_40 rfl ?_
      refine mV_getP f10_wordAt_41 (by decide) kk_119 rfl (pp_119_14 _) ?_
      refine mV_iload f10_wordAt_44 rfl ?_
      refine mV_iload f10_wordAt_45 rfl ?_
      refine mV_iadd f10_wordAt_47 ?_
      obtain ⟨z1, hz1, hr⟩ := mBind hr
      refine mV_ldO f10_wordAt_48 (by decide) kk_129 hz1 ?_
      refine mV_icmp_ne f10_wordAt_49 (fun h1 => ?_) (fun h1 => ?_)
      · rw [if_neg h1] at hr
        have hr := Option.some.inj hr; subst hr
        exact hk
      · rw [if_pos h1] at hr
        refine mV_iload f10_wordAt_52 rfl ?_
        refine mV_push f10_wordAt_54 ?_
        refine mV_iadd f10_wordAt_55 ?_
        refine mV_istore (L' := [.ref 119, .int k1, .int k2, .int k3, .int k4, .int (y5 + 1)]) f10_wordAt_56 (by decide) rfl rfl ?_
        refine mV_goto f10_wordAt_58 ?_
        exact ih (y5 + 1) _ hr hk
set_option maxHeartbeats 4000000 in
set_option maxRecDepth 100000 in
theorem t10_wordAt_94 (X : Nat × (Nat → Int32)) (Q : mQ) (s : Nat) (I : mI) (k1 : Int32) (k2 : Int32) (k3 : Int32) : ∀ (f : Nat) (y4 : Int32) (z : Int32), l10_wordAt_94 I f y4 = some z → mV X m10_wordAt 0 0 0 115 [.ref 119, .int k1, .int k2, .int k3, .int z, mX0] [] NN KK I (PP s) Q → mV X m10_wordAt 0 0 0 94 [.ref 119, .int k1, .int k2, .int k3, .int y4, mX0] [] NN KK I (PP s) Q := by
  intro f
  induction f with
  | zero => intro y4 z hr hk; cases hr
  | succ f ih =>
    intro y4 z hr hk
    unfold l10_wordAt_94 at hr
    refine mV_aload f10_wordAt_94 rfl ?_
    refine mV_getP f10_wordAt_95 (by decide) kk_119 rfl (pp_119_20 _) ?_
    refine mV_iload f10_wordAt_98 rfl ?_
    obtain ⟨z0, hz0, hr⟩ := mBind hr
    refine mV_ldO f10_wordAt_100 (by decide) kk_130 hz0 ?_
    refine mV_push f10_wordAt_101 ?_
    refine mV_icmp_eq f10_wordAt_103 (fun h0 => ?_) (fun h0 => ?_)
    · rw [if_pos h0] at hr
      have hr := Option.some.inj hr; subst hr
      exact hk
    · rw [if_neg h0] at hr
      refine mV_iload f10_wordAt_106 rfl ?_
      refine mV_push f10_wordAt_108 ?_
      refine mV_iadd f10_wordAt_109 ?_
      refine mV_istore (L' := [.ref 119, .int k1, .int k2, .int k3, .int (y4 + 1), mX0]) f10_wordAt_110 (by decide) rfl rfl ?_
      refine mV_goto f10_wordAt_112 ?_
      exact ih (y4 + 1) _ hr hk
set_option maxHeartbeats 4000000 in
set_option maxRecDepth 100000 in
theorem t10_wordAt_5 (X : Nat × (Nat → Int32)) (Q : mQ) (s : Nat) (I : mI) (k1 : Int32) (k2 : Int32) : ∀ (f : Nat) (y3 : Int32) (y4 : Int32) (z : (Int32) ⊕ (Unit)), l10_wordAt_5 I k1 k2 f y3 y4 = some z → (∀ res, z = .inl res → Q (some (.int res)) NN KK I (PP s)) → (∀ w, z = .inr w → mV X m10_wordAt 0 0 0 118 [.ref 119, .int k1, .int k2, mX0, mX0, mX0] [] NN KK I (PP s) Q) → mV X m10_wordAt 0 0 0 5 [.ref 119, .int k1, .int k2, .int y3, .int y4, mX0] [] NN KK I (PP s) Q := by
  intro f
  induction f with
  | zero => intro y3 y4 z hr hret hk; cases hr
  | succ f ih =>
    intro y3 y4 z hr hret hk
    unfold l10_wordAt_5 at hr
    refine mV_iload f10_wordAt_5 rfl ?_
    refine mV_push f10_wordAt_7 ?_
    refine mV_icmp_ge f10_wordAt_10 (fun h0 => ?_) (fun h0 => ?_)
    · rw [if_pos h0] at hr
      have hr := Option.some.inj hr; subst hr
      refine mV_drop (L' := [.ref 119, .int k1, .int k2, mX0, mX0, mX0]) (mSub_k (mSub_k (mSub_k (mSub_x (mSub_x (mSub_x mSub_n)))))) ?_
      exact hk _ rfl
    · rw [if_neg h0] at hr
      refine mV_push f10_wordAt_13 ?_
      refine mV_istore (L' := [.ref 119, .int k1, .int k2, .int y3, .int y4, .int 0]) f10_wordAt_14 (by decide) rfl rfl ?_
      refine mV_iload f10_wordAt_16 rfl ?_
      refine mV_push f10_wordAt_17 ?_
      refine mV_iadd f10_wordAt_18 ?_
      refine mV_istore (L' := [.ref 119, .int k1, .int k2, .int (y3 + 1), .int y4, .int 0]) f10_wordAt_19 (by decide) rfl rfl ?_
      obtain ⟨z0, hz0, hr⟩ := mBind hr
      refine t10_wordAt_20 X Q s I k1 k2 (y3 + 1) y4 FU 0 _ hz0 ?_
      refine mV_iload f10_wordAt_61 rfl ?_
      refine mV_iload f10_wordAt_62 rfl ?_
      refine mV_iadd f10_wordAt_64 ?_
      refine mV_iload f10_wordAt_65 rfl ?_
      refine mV_icmp_ne f10_wordAt_66 (fun h1 => ?_) (fun h1 => ?_)
      · rw [if_neg h1] at hr
        refine mV_iload f10_wordAt_88 rfl ?_
        refine mV_push f10_wordAt_90 ?_
        refine mV_iadd f10_wordAt_91 ?_
        refine mV_istore (L' := [.ref 119, .int k1, .int k2, .int (y3 + 1), .int (y4 + 1), .int z0]) f10_wordAt_92 (by decide) rfl rfl ?_
        obtain ⟨z1, hz1, hr⟩ := mBind hr
        refine mV_drop (L' := [.ref 119, .int k1, .int k2, .int (y3 + 1), .int (y4 + 1), mX0]) (mSub_k (mSub_k (mSub_k (mSub_k (mSub_k (mSub_x mSub_n)))))) ?_
        refine t10_wordAt_94 X Q s I k1 k2 (y3 + 1) FU (y4 + 1) _ hz1 ?_
        refine mV_goto f10_wordAt_115 ?_
        exact ih (y3 + 1) z1 _ hr hret hk
      · rw [if_pos h1] at hr
        refine mV_aload f10_wordAt_69 rfl ?_
        refine mV_getP f10_wordAt_70 (by decide) kk_119 rfl (pp_119_20 _) ?_
        refine mV_iload f10_wordAt_73 rfl ?_
        refine mV_push f10_wordAt_75 ?_
        refine mV_iadd f10_wordAt_76 ?_
        refine mV_iload f10_wordAt_77 rfl ?_
        refine mV_iadd f10_wordAt_79 ?_
        obtain ⟨z2, hz2, hr⟩ := mBind hr
        refine mV_ldO f10_wordAt_80 (by decide) kk_130 hz2 ?_
        refine mV_push f10_wordAt_81 ?_
        refine mV_icmp_ne f10_wordAt_83 (fun h2 => ?_) (fun h2 => ?_)
        · rw [if_neg h2] at hr
          refine mV_iload f10_wordAt_88 rfl ?_
          refine mV_push f10_wordAt_90 ?_
          refine mV_iadd f10_wordAt_91 ?_
          refine mV_istore (L' := [.ref 119, .int k1, .int k2, .int (y3 + 1), .int (y4 + 1), .int z0]) f10_wordAt_92 (by decide) rfl rfl ?_
          obtain ⟨z3, hz3, hr⟩ := mBind hr
          refine mV_drop (L' := [.ref 119, .int k1, .int k2, .int (y3 + 1), .int (y4 + 1), mX0]) (mSub_k (mSub_k (mSub_k (mSub_k (mSub_k (mSub_x mSub_n)))))) ?_
          refine t10_wordAt_94 X Q s I k1 k2 (y3 + 1) FU (y4 + 1) _ hz3 ?_
          refine mV_goto f10_wordAt_115 ?_
          exact ih (y3 + 1) z3 _ hr hret hk
        · rw [if_pos h2] at hr
          refine mV_iload f10_wordAt_86 rfl ?_
          have hr := Option.some.inj hr; subst hr; have hQ := hret _ rfl
          exact mV_iret rfl rfl f10_wordAt_87 hQ
set_option maxHeartbeats 4000000 in
set_option maxRecDepth 100000 in
theorem w10_wordAt (X : Nat × (Nat → Int32)) (I : mI) (s : Nat) (x0 : Int32) (x1 : Int32) (Q : mQ) {res : Int32} (hr : r10_wordAt I x0 x1 = some res) (hQ : Q (some (.int res)) NN KK I (PP s)) : mV X m10_wordAt 0 0 0 0 [.ref 119, .int x0, .int x1, mX0, mX0, mX0] [] NN KK I (PP s) Q := by
  unfold r10_wordAt at hr
  refine mV_push f10_wordAt_0 ?_
  refine mV_istore (L' := [.ref 119, .int x0, .int x1, .int (-1), mX0, mX0]) f10_wordAt_1 (by decide) rfl rfl ?_
  refine mV_push f10_wordAt_2 ?_
  refine mV_istore (L' := [.ref 119, .int x0, .int x1, .int (-1), .int 0, mX0]) f10_wordAt_3 (by decide) rfl rfl ?_
  obtain ⟨z0, hz0, hr⟩ := mBind hr
  refine t10_wordAt_5 X Q s I x0 x1 FU (-1) 0 _ hz0 (fun res ez0 => ?_) (fun wz0 ez0 => ?_)
  · rw [ez0] at hr; have hr := Option.some.inj hr; subst hr; exact hQ
  rw [ez0] at hr
  dsimp only at hr
  refine mV_push f10_wordAt_118 ?_
  have hr := Option.some.inj hr; subst hr
  exact mV_iret rfl rfl f10_wordAt_119 hQ
theorem c10_wordAt (X : Nat × (Nat → Int32)) (I : mI) (s : Nat) (x0 : Int32) (x1 : Int32) {res : Int32} (hr : r10_wordAt I x0 x1 = some res) : mC X m10_wordAt 0 0 0 [.ref 119, .int x0, .int x1] NN KK I (PP s) (mRet (some (.int res)) NN KK I (PP s)) :=
  mC_of (L0 := [.ref 119, .int x0, .int x1, mX0, mX0, mX0]) rfl (Nat.le_of_ble_eq_true rfl) (w10_wordAt X I s x0 x1 _ hr (mRet_ok _ _ _ _ _))
def l10_reads_0 : Nat → mI → Option (mI)
  | 0, _ => none
  | f + 1, I => (r10_raw I (I 119 16)).bind fun z0 => if (z0 : Int32) = (32 : Int32) then l10_reads_0 f (mW I 119 16 (I 119 16 + 1)) else (r10_raw I (I 119 16)).bind fun z1 => if (z1 : Int32) = (10 : Int32) then l10_reads_0 f (mW I 119 16 (I 119 16 + 1)) else some I
def l10_reads_171 : Nat → mI → Option (mI)
  | 0, _ => none
  | f + 1, I => (r10_raw I (I 119 16)).bind fun z0 => if ((r10_isDigit z0) : Int32) = (0 : Int32) then some I else (if (10000 : Int32) ≤ (I 119 19 : Int32) then some (I 119 19) else (r10_raw I (I 119 16)).bind fun z2 => some (((10 * I 119 19) + z2) - 48) : Option (Int32)).bind fun z1 => l10_reads_171 f (mW (mW I 119 19 z1) 119 16 (I 119 16 + 1))
def l10_reads_95 : Nat → mI → Option (mI)
  | 0, _ => none
  | f + 1, I => (r10_raw I (I 119 16)).bind fun z0 => if ((r10_isLetter z0) : Int32) = (0 : Int32) then some I else l10_reads_95 f (mW I 119 16 (I 119 16 + 1))
def r10_reads (I : mI) : Option (mI) := (l10_reads_0 FU I).bind fun z0 => (r10_raw (mW (mW z0 119 17 (z0 119 16)) 119 18 1) (z0 119 16)).bind fun z1 => if (z1 : Int32) = ((-1) : Int32) then some (mW (mW (mW z0 119 17 (z0 119 16)) 119 18 1) 119 18 0) else (if ((r10_isLetter z1) : Int32) = (0 : Int32) then if ((r10_isDigit z1) : Int32) = (0 : Int32) then if ((r10_isMarkSign z1) : Int32) = (0 : Int32) then some (mW (mW (mW (mW z0 119 17 (z0 119 16)) 119 18 1) 119 16 (z0 119 16 + 1)) 119 19 z1) else some (mW (mW (mW (mW (mW z0 119 17 (z0 119 16)) 119 18 1) 119 16 (z0 119 16 + 1)) 119 19 z1) 119 18 4) else (l10_reads_171 FU (mW (mW (mW (mW (mW z0 119 17 (z0 119 16)) 119 18 1) 119 16 (z0 119 16 + 1)) 119 19 z1) 119 19 (z1 - 48))).bind fun z3 => if (5 : Int32) ≤ ((z3 119 16 - z3 119 17) : Int32) then some z3 else some (mW z3 119 18 3) else (l10_reads_95 FU (mW (mW (mW (mW z0 119 17 (z0 119 16)) 119 18 1) 119 16 (z0 119 16 + 1)) 119 19 z1)).bind fun z4 => (r10_wordAt z4 (z4 119 17) (z4 119 16)).bind fun z5 => if (z5 : Int32) = ((-1) : Int32) then some (mW z4 119 19 z5) else some (mW (mW z4 119 19 z5) 119 18 2) : Option (mI)).bind fun z2 => some z2
set_option maxHeartbeats 4000000 in
set_option maxRecDepth 100000 in
theorem t10_reads_0 (X : Nat × (Nat → Int32)) (Q : mQ) (s : Nat) : ∀ (f : Nat) (I : mI) (z : mI), l10_reads_0 f I = some z → mV X m10_reads 2 0 0 39 [.ref 119, mX0] [] NN KK z (PP s) Q → mV X m10_reads 2 0 0 0 [.ref 119, mX0] [] NN KK I (PP s) Q := by
  intro f
  induction f with
  | zero => intro I z hr hk; cases hr
  | succ f ih =>
    intro I z hr hk
    unfold l10_reads_0 at hr
    refine mV_aload f10_reads_0 rfl ?_
    refine mV_aload f10_reads_1 rfl ?_
    refine mV_gI (I 119 16) f10_reads_2 (by decide) kk_119 rfl rfl ?_
    obtain ⟨z0, hz0, hr⟩ := mBind hr
    refine mV_cV f10_reads_5 tg_m10_raw mCls10 (by decide) kk_119 (mC_deep (c10_raw X I s (I 119 16) hz0) (by decide)) rfl rfl (Nat.le_of_ble_eq_true rfl) ?_
    refine mV_push f10_reads_8 ?_
    refine mV_icmp_eq f10_reads_10 (fun h0 => ?_) (fun h0 => ?_)
    · rw [if_pos h0] at hr
      refine mV_aload f10_reads_26 rfl ?_
      refine mV_aload f10_reads_27 rfl ?_
      refine mV_gI (I 119 16) f10_reads_28 (by decide) kk_119 rfl rfl ?_
      refine mV_push f10_reads_31 ?_
      refine mV_iadd f10_reads_32 ?_
      refine mV_putI f10_reads_33 (by decide) kk_119 rfl rfl ?_
      refine mV_goto f10_reads_36 ?_
      exact ih (mW I 119 16 (I 119 16 + 1)) _ hr hk
    · rw [if_neg h0] at hr
      refine mV_aload f10_reads_13 rfl ?_
      refine mV_aload f10_reads_14 rfl ?_
      refine mV_gI (I 119 16) f10_reads_15 (by decide) kk_119 rfl rfl ?_
      obtain ⟨z1, hz1, hr⟩ := mBind hr
      refine mV_cV f10_reads_18 tg_m10_raw mCls10 (by decide) kk_119 (mC_deep (c10_raw X I s (I 119 16) hz1) (by decide)) rfl rfl (Nat.le_of_ble_eq_true rfl) ?_
      refine mV_push f10_reads_21 ?_
      refine mV_icmp_ne f10_reads_23 (fun h1 => ?_) (fun h1 => ?_)
      · rw [if_neg h1] at hr
        have hr := Option.some.inj hr; subst hr
        exact hk
      · rw [if_pos h1] at hr
        refine mV_aload f10_reads_26 rfl ?_
        refine mV_aload f10_reads_27 rfl ?_
        refine mV_gI (I 119 16) f10_reads_28 (by decide) kk_119 rfl rfl ?_
        refine mV_push f10_reads_31 ?_
        refine mV_iadd f10_reads_32 ?_
        refine mV_putI f10_reads_33 (by decide) kk_119 rfl rfl ?_
        refine mV_goto f10_reads_36 ?_
        exact ih (mW I 119 16 (I 119 16 + 1)) _ hr hk
set_option maxHeartbeats 4000000 in
set_option maxRecDepth 100000 in
theorem t10_reads_171 (X : Nat × (Nat → Int32)) (Q : mQ) (s : Nat) : ∀ (f : Nat) (I : mI) (z : mI), l10_reads_171 f I = some z → mV X m10_reads 2 0 0 239 [.ref 119, mX0] [] NN KK z (PP s) Q → mV X m10_reads 2 0 0 171 [.ref 119, mX0] [] NN KK I (PP s) Q := by
  intro f
  induction f with
  | zero => intro I z hr hk; cases hr
  | succ f ih =>
    intro I z hr hk
    unfold l10_reads_171 at hr
    refine mV_aload f10_reads_171 rfl ?_
    refine mV_aload f10_reads_172 rfl ?_
    refine mV_aload f10_reads_173 rfl ?_
    refine mV_gI (I 119 16) f10_reads_174 (by decide) kk_119 rfl rfl ?_
    obtain ⟨z0, hz0, hr⟩ := mBind hr
    refine mV_cV f10_reads_177 tg_m10_raw mCls10 (by decide) kk_119 (mC_deep (c10_raw X I s (I 119 16) hz0) (by decide)) rfl rfl (Nat.le_of_ble_eq_true rfl) ?_
    refine mV_cV f10_reads_180 tg_m10_isDigit mCls10 (by decide) kk_119 (mC_deep (c10_isDigit X I s z0 rfl) (by decide)) rfl rfl (Nat.le_of_ble_eq_true rfl) ?_
    refine mV_if_eq f10_reads_183 (fun h0 => ?_) (fun h0 => ?_)
    · rw [if_pos h0] at hr
      have hr := Option.some.inj hr; subst hr
      exact hk
    · rw [if_neg h0] at hr
      refine mV_aload f10_reads_186 rfl ?_
      refine mV_aload f10_reads_187 rfl ?_
      refine mV_gI (I 119 19) f10_reads_188 (by decide) kk_119 rfl rfl ?_
      refine mV_push f10_reads_191 ?_
      obtain ⟨z1, hz1, hr⟩ := mBind hr
      have keyz1 : mV X m10_reads 2 0 0 223 [.ref 119, mX0] [.int z1, .ref 119] NN KK I (PP s) Q := by
        refine mV_putI f10_reads_223 (by decide) kk_119 rfl rfl ?_
        refine mV_aload f10_reads_226 rfl ?_
        refine mV_aload f10_reads_227 rfl ?_
        refine mV_gI (I 119 16) f10_reads_228 (by decide) kk_119 rfl rfl ?_
        refine mV_push f10_reads_231 ?_
        refine mV_iadd f10_reads_232 ?_
        refine mV_putI f10_reads_233 (by decide) kk_119 rfl rfl ?_
        refine mV_goto f10_reads_236 ?_
        exact ih (mW (mW I 119 19 z1) 119 16 (I 119 16 + 1)) _ hr hk
      clear hr
      have hr := hz1
      clear hz1
      refine mV_icmp_ge f10_reads_194 (fun h1 => ?_) (fun h1 => ?_)
      · rw [if_pos h1] at hr
        refine mV_aload f10_reads_219 rfl ?_
        refine mV_gI (I 119 19) f10_reads_220 (by decide) kk_119 rfl rfl ?_
        have hr := Option.some.inj hr; subst hr
        exact keyz1
      · rw [if_neg h1] at hr
        refine mV_push f10_reads_197 ?_
        refine mV_aload f10_reads_199 rfl ?_
        refine mV_gI (I 119 19) f10_reads_200 (by decide) kk_119 rfl rfl ?_
        refine mV_imul f10_reads_203 ?_
        refine mV_aload f10_reads_204 rfl ?_
        refine mV_aload f10_reads_205 rfl ?_
        refine mV_gI (I 119 16) f10_reads_206 (by decide) kk_119 rfl rfl ?_
        obtain ⟨z2, hz2, hr⟩ := mBind hr
        refine mV_cV f10_reads_209 tg_m10_raw mCls10 (by decide) kk_119 (mC_deep (c10_raw X I s (I 119 16) hz2) (by decide)) rfl rfl (Nat.le_of_ble_eq_true rfl) ?_
        refine mV_iadd f10_reads_212 ?_
        refine mV_push f10_reads_213 ?_
        refine mV_isub f10_reads_215 ?_
        refine mV_goto f10_reads_216 ?_
        have hr := Option.some.inj hr; subst hr
        exact keyz1
set_option maxHeartbeats 4000000 in
set_option maxRecDepth 100000 in
theorem t10_reads_95 (X : Nat × (Nat → Int32)) (Q : mQ) (s : Nat) : ∀ (f : Nat) (I : mI) (z : mI), l10_reads_95 f I = some z → mV X m10_reads 2 0 0 123 [.ref 119, mX0] [] NN KK z (PP s) Q → mV X m10_reads 2 0 0 95 [.ref 119, mX0] [] NN KK I (PP s) Q := by
  intro f
  induction f with
  | zero => intro I z hr hk; cases hr
  | succ f ih =>
    intro I z hr hk
    unfold l10_reads_95 at hr
    refine mV_aload f10_reads_95 rfl ?_
    refine mV_aload f10_reads_96 rfl ?_
    refine mV_aload f10_reads_97 rfl ?_
    refine mV_gI (I 119 16) f10_reads_98 (by decide) kk_119 rfl rfl ?_
    obtain ⟨z0, hz0, hr⟩ := mBind hr
    refine mV_cV f10_reads_101 tg_m10_raw mCls10 (by decide) kk_119 (mC_deep (c10_raw X I s (I 119 16) hz0) (by decide)) rfl rfl (Nat.le_of_ble_eq_true rfl) ?_
    refine mV_cV f10_reads_104 tg_m10_isLetter mCls10 (by decide) kk_119 (mC_deep (c10_isLetter X I s z0 rfl) (by decide)) rfl rfl (Nat.le_of_ble_eq_true rfl) ?_
    refine mV_if_eq f10_reads_107 (fun h0 => ?_) (fun h0 => ?_)
    · rw [if_pos h0] at hr
      have hr := Option.some.inj hr; subst hr
      exact hk
    · rw [if_neg h0] at hr
      refine mV_aload f10_reads_110 rfl ?_
      refine mV_aload f10_reads_111 rfl ?_
      refine mV_gI (I 119 16) f10_reads_112 (by decide) kk_119 rfl rfl ?_
      refine mV_push f10_reads_115 ?_
      refine mV_iadd f10_reads_116 ?_
      refine mV_putI f10_reads_117 (by decide) kk_119 rfl rfl ?_
      refine mV_goto f10_reads_120 ?_
      exact ih (mW I 119 16 (I 119 16 + 1)) _ hr hk
set_option maxHeartbeats 4000000 in
set_option maxRecDepth 100000 in
theorem w10_reads (X : Nat × (Nat → Int32)) (I : mI) (s : Nat) (Q : mQ) {res : mI} (hr : r10_reads I = some res) (hQ : Q none NN KK res (PP s)) : mV X m10_reads 2 0 0 0 [.ref 119, mX0] [] NN KK I (PP s) Q := by
  unfold r10_reads at hr
  obtain ⟨z0, hz0, hr⟩ := mBind hr
  refine t10_reads_0 X Q s FU I _ hz0 ?_
  refine mV_aload f10_reads_39 rfl ?_
  refine mV_aload f10_reads_40 rfl ?_
  refine mV_gI (z0 119 16) f10_reads_41 (by decide) kk_119 rfl rfl ?_
  refine mV_putI f10_reads_44 (by decide) kk_119 rfl rfl ?_
  refine mV_aload f10_reads_47 rfl ?_
  refine mV_push f10_reads_48 ?_
  refine mV_putI f10_reads_49 (by decide) kk_119 rfl rfl ?_
  refine mV_aload f10_reads_52 rfl ?_
  refine mV_aload f10_reads_53 rfl ?_
  refine mV_gI (z0 119 16) f10_reads_54 (by decide) kk_119 rfl rfl ?_
  obtain ⟨z1, hz1, hr⟩ := mBind hr
  refine mV_cV f10_reads_57 tg_m10_raw mCls10 (by decide) kk_119 (mC_deep (c10_raw X (mW (mW z0 119 17 (z0 119 16)) 119 18 1) s (z0 119 16) hz1) (by decide)) rfl rfl (Nat.le_of_ble_eq_true rfl) ?_
  refine mV_istore (L' := [.ref 119, .int z1]) f10_reads_60 (by decide) rfl rfl ?_
  refine mV_iload f10_reads_61 rfl ?_
  refine mV_push f10_reads_62 ?_
  refine mV_icmp_ne f10_reads_63 (fun h0 => ?_) (fun h0 => ?_)
  · rw [if_neg h0] at hr
    refine mV_aload f10_reads_72 rfl ?_
    refine mV_aload f10_reads_73 rfl ?_
    refine mV_gI (z0 119 16) f10_reads_74 (by decide) kk_119 rfl rfl ?_
    refine mV_push f10_reads_77 ?_
    refine mV_iadd f10_reads_78 ?_
    refine mV_putI f10_reads_79 (by decide) kk_119 rfl rfl ?_
    refine mV_aload f10_reads_82 rfl ?_
    refine mV_iload f10_reads_83 rfl ?_
    refine mV_putI f10_reads_84 (by decide) kk_119 rfl rfl ?_
    refine mV_aload f10_reads_87 rfl ?_
    refine mV_iload f10_reads_88 rfl ?_
    refine mV_cV f10_reads_89 tg_m10_isLetter mCls10 (by decide) kk_119 (mC_deep (c10_isLetter X (mW (mW (mW (mW z0 119 17 (z0 119 16)) 119 18 1) 119 16 (z0 119 16 + 1)) 119 19 z1) s z1 rfl) (by decide)) rfl rfl (Nat.le_of_ble_eq_true rfl) ?_
    obtain ⟨z2, hz2, hr⟩ := mBind hr
    have keyz2 : mV X m10_reads 2 0 0 273 [.ref 119, mX0] [] NN KK z2 (PP s) Q := by
      have hr := Option.some.inj hr; subst hr
      exact mV_vret rfl f10_reads_273 hQ
    clear hr
    have hr := hz2
    clear hz2
    refine mV_if_eq f10_reads_92 (fun h1 => ?_) (fun h1 => ?_)
    · rw [if_pos h1] at hr
      refine mV_aload f10_reads_155 rfl ?_
      refine mV_iload f10_reads_156 rfl ?_
      refine mV_cV f10_reads_157 tg_m10_isDigit mCls10 (by decide) kk_119 (mC_deep (c10_isDigit X (mW (mW (mW (mW z0 119 17 (z0 119 16)) 119 18 1) 119 16 (z0 119 16 + 1)) 119 19 z1) s z1 rfl) (by decide)) rfl rfl (Nat.le_of_ble_eq_true rfl) ?_
      refine mV_if_eq f10_reads_160 (fun h2 => ?_) (fun h2 => ?_)
      · rw [if_pos h2] at hr
        refine mV_aload f10_reads_260 rfl ?_
        refine mV_iload f10_reads_261 rfl ?_
        refine mV_cV f10_reads_262 tg_m10_isMarkSign mCls10 (by decide) kk_119 (mC_deep (c10_isMarkSign X (mW (mW (mW (mW z0 119 17 (z0 119 16)) 119 18 1) 119 16 (z0 119 16 + 1)) 119 19 z1) s z1 rfl) (by decide)) rfl rfl (Nat.le_of_ble_eq_true rfl) ?_
        refine mV_if_eq f10_reads_265 (fun h3 => ?_) (fun h3 => ?_)
        · rw [if_pos h3] at hr
          have hr := Option.some.inj hr; subst hr
          refine mV_drop (L' := [.ref 119, mX0]) (mSub_k (mSub_x mSub_n)) ?_
          exact keyz2
        · rw [if_neg h3] at hr
          refine mV_aload f10_reads_268 rfl ?_
          refine mV_push f10_reads_269 ?_
          refine mV_putI f10_reads_270 (by decide) kk_119 rfl rfl ?_
          have hr := Option.some.inj hr; subst hr
          refine mV_drop (L' := [.ref 119, mX0]) (mSub_k (mSub_x mSub_n)) ?_
          exact keyz2
      · rw [if_neg h2] at hr
        refine mV_aload f10_reads_163 rfl ?_
        refine mV_iload f10_reads_164 rfl ?_
        refine mV_push f10_reads_165 ?_
        refine mV_isub f10_reads_167 ?_
        refine mV_putI f10_reads_168 (by decide) kk_119 rfl rfl ?_
        obtain ⟨z3, hz3, hr⟩ := mBind hr
        refine mV_drop (L' := [.ref 119, mX0]) (mSub_k (mSub_x mSub_n)) ?_
        refine t10_reads_171 X Q s FU (mW (mW (mW (mW (mW z0 119 17 (z0 119 16)) 119 18 1) 119 16 (z0 119 16 + 1)) 119 19 z1) 119 19 (z1 - 48)) _ hz3 ?_
        refine mV_aload f10_reads_239 rfl ?_
        refine mV_gI (z3 119 16) f10_reads_240 (by decide) kk_119 rfl rfl ?_
        refine mV_aload f10_reads_243 rfl ?_
        refine mV_gI (z3 119 17) f10_reads_244 (by decide) kk_119 rfl rfl ?_
        refine mV_isub f10_reads_247 ?_
        refine mV_push f10_reads_248 ?_
        refine mV_icmp_ge f10_reads_249 (fun h4 => ?_) (fun h4 => ?_)
        · rw [if_pos h4] at hr
          have hr := Option.some.inj hr; subst hr
          exact keyz2
        · rw [if_neg h4] at hr
          refine mV_aload f10_reads_252 rfl ?_
          refine mV_push f10_reads_253 ?_
          refine mV_putI f10_reads_254 (by decide) kk_119 rfl rfl ?_
          refine mV_goto f10_reads_257 ?_
          have hr := Option.some.inj hr; subst hr
          exact keyz2
    · rw [if_neg h1] at hr
      obtain ⟨z4, hz4, hr⟩ := mBind hr
      refine mV_drop (L' := [.ref 119, mX0]) (mSub_k (mSub_x mSub_n)) ?_
      refine t10_reads_95 X Q s FU (mW (mW (mW (mW z0 119 17 (z0 119 16)) 119 18 1) 119 16 (z0 119 16 + 1)) 119 19 z1) _ hz4 ?_
      refine mV_aload f10_reads_123 rfl ?_
      refine mV_aload f10_reads_124 rfl ?_
      refine mV_aload f10_reads_125 rfl ?_
      refine mV_gI (z4 119 17) f10_reads_126 (by decide) kk_119 rfl rfl ?_
      refine mV_aload f10_reads_129 rfl ?_
      refine mV_gI (z4 119 16) f10_reads_130 (by decide) kk_119 rfl rfl ?_
      obtain ⟨z5, hz5, hr⟩ := mBind hr
      refine mV_cV f10_reads_133 tg_m10_wordAt mCls10 (by decide) kk_119 (mC_deep (c10_wordAt X z4 s (z4 119 17) (z4 119 16) hz5) (by decide)) rfl rfl (Nat.le_of_ble_eq_true rfl) ?_
      refine mV_putI f10_reads_136 (by decide) kk_119 rfl rfl ?_
      refine mV_aload f10_reads_139 rfl ?_
      refine mV_gI z5 f10_reads_140 (by decide) kk_119 rfl rfl ?_
      refine mV_push f10_reads_143 ?_
      refine mV_icmp_eq f10_reads_144 (fun h5 => ?_) (fun h5 => ?_)
      · rw [if_pos h5] at hr
        have hr := Option.some.inj hr; subst hr
        exact keyz2
      · rw [if_neg h5] at hr
        refine mV_aload f10_reads_147 rfl ?_
        refine mV_push f10_reads_148 ?_
        refine mV_putI f10_reads_149 (by decide) kk_119 rfl rfl ?_
        refine mV_goto f10_reads_152 ?_
        have hr := Option.some.inj hr; subst hr
        exact keyz2
  · rw [if_pos h0] at hr
    refine mV_aload f10_reads_66 rfl ?_
    refine mV_push f10_reads_67 ?_
    refine mV_putI f10_reads_68 (by decide) kk_119 rfl rfl ?_
    have hr := Option.some.inj hr; subst hr
    exact mV_vret rfl f10_reads_71 hQ
theorem c10_reads (X : Nat × (Nat → Int32)) (I : mI) (s : Nat) {res : mI} (hr : r10_reads I = some res) : mC X m10_reads 2 0 0 [.ref 119] NN KK I (PP s) (mRet none NN KK res (PP s)) :=
  mC_of (L0 := [.ref 119, mX0]) rfl (Nat.le_of_ble_eq_true rfl) (w10_reads X I s _ hr (mRet_ok _ _ _ _ _))
def r10_errs (I : mI) (x0 : Int32) : Option (Int32 × mI) := some ((-1), (mW (mW I 119 33 x0) 119 34 (I 119 17)))
set_option maxHeartbeats 4000000 in
set_option maxRecDepth 100000 in
theorem w10_errs (X : Nat × (Nat → Int32)) (I : mI) (s : Nat) (x0 : Int32) (Q : mQ) {res : Int32 × mI} (hr : r10_errs I x0 = some res) (hQ : Q (some (.int res.1)) NN KK res.2 (PP s)) : mV X m10_errs 0 0 0 0 [.ref 119, .int x0] [] NN KK I (PP s) Q := by
  unfold r10_errs at hr
  refine mV_aload f10_errs_0 rfl ?_
  refine mV_iload f10_errs_1 rfl ?_
  refine mV_putI f10_errs_2 (by decide) kk_119 rfl rfl ?_
  refine mV_aload f10_errs_5 rfl ?_
  refine mV_aload f10_errs_6 rfl ?_
  refine mV_gI (I 119 17) f10_errs_7 (by decide) kk_119 rfl rfl ?_
  refine mV_putI f10_errs_10 (by decide) kk_119 rfl rfl ?_
  refine mV_push f10_errs_13 ?_
  have hr := Option.some.inj hr; subst hr
  exact mV_iret rfl rfl f10_errs_14 hQ
theorem c10_errs (X : Nat × (Nat → Int32)) (I : mI) (s : Nat) (x0 : Int32) {res : Int32 × mI} (hr : r10_errs I x0 = some res) : mC X m10_errs 0 0 0 [.ref 119, .int x0] NN KK I (PP s) (mRet (some (.int res.1)) NN KK res.2 (PP s)) :=
  mC_of (L0 := [.ref 119, .int x0]) rfl (Nat.le_of_ble_eq_true rfl) (w10_errs X I s x0 _ hr (mRet_ok _ _ _ _ _))
def r10_isWord (I : mI) (x0 : Int32) : Int32 := if (I 119 18 : Int32) = (2 : Int32) then if (I 119 19 : Int32) = (x0 : Int32) then 1 else 0 else 0
set_option maxHeartbeats 4000000 in
set_option maxRecDepth 100000 in
theorem w10_isWord (X : Nat × (Nat → Int32)) (I : mI) (s : Nat) (x0 : Int32) (Q : mQ) {res : Int32} (hr : r10_isWord I x0 = res) (hQ : Q (some (.int res)) NN KK I (PP s)) : mV X m10_isWord 0 0 0 0 [.ref 119, .int x0] [] NN KK I (PP s) Q := by
  unfold r10_isWord at hr
  refine mV_aload f10_isWord_0 rfl ?_
  refine mV_gI (I 119 18) f10_isWord_1 (by decide) kk_119 rfl rfl ?_
  refine mV_push f10_isWord_4 ?_
  refine mV_icmp_ne f10_isWord_5 (fun h0 => ?_) (fun h0 => ?_)
  · rw [if_neg h0] at hr
    refine mV_push f10_isWord_20 ?_
    subst hr
    exact mV_iret rfl rfl f10_isWord_21 hQ
  · rw [if_pos h0] at hr
    refine mV_aload f10_isWord_8 rfl ?_
    refine mV_gI (I 119 19) f10_isWord_9 (by decide) kk_119 rfl rfl ?_
    refine mV_iload f10_isWord_12 rfl ?_
    refine mV_icmp_ne f10_isWord_13 (fun h1 => ?_) (fun h1 => ?_)
    · rw [if_neg h1] at hr
      refine mV_push f10_isWord_20 ?_
      subst hr
      exact mV_iret rfl rfl f10_isWord_21 hQ
    · rw [if_pos h1] at hr
      refine mV_push f10_isWord_16 ?_
      refine mV_goto f10_isWord_17 ?_
      subst hr
      exact mV_iret rfl rfl f10_isWord_21 hQ
theorem c10_isWord (X : Nat × (Nat → Int32)) (I : mI) (s : Nat) (x0 : Int32) {res : Int32} (hr : r10_isWord I x0 = res) : mC X m10_isWord 0 0 0 [.ref 119, .int x0] NN KK I (PP s) (mRet (some (.int res)) NN KK I (PP s)) :=
  mC_of (L0 := [.ref 119, .int x0]) rfl (Nat.le_of_ble_eq_true rfl) (w10_isWord X I s x0 _ hr (mRet_ok _ _ _ _ _))
def r10_isSign (I : mI) (x0 : Int32) : Int32 := if (I 119 18 : Int32) = (4 : Int32) then if (I 119 19 : Int32) = (x0 : Int32) then 1 else 0 else 0
set_option maxHeartbeats 4000000 in
set_option maxRecDepth 100000 in
theorem w10_isSign (X : Nat × (Nat → Int32)) (I : mI) (s : Nat) (x0 : Int32) (Q : mQ) {res : Int32} (hr : r10_isSign I x0 = res) (hQ : Q (some (.int res)) NN KK I (PP s)) : mV X m10_isSign 0 0 0 0 [.ref 119, .int x0] [] NN KK I (PP s) Q := by
  unfold r10_isSign at hr
  refine mV_aload f10_isSign_0 rfl ?_
  refine mV_gI (I 119 18) f10_isSign_1 (by decide) kk_119 rfl rfl ?_
  refine mV_push f10_isSign_4 ?_
  refine mV_icmp_ne f10_isSign_5 (fun h0 => ?_) (fun h0 => ?_)
  · rw [if_neg h0] at hr
    refine mV_push f10_isSign_20 ?_
    subst hr
    exact mV_iret rfl rfl f10_isSign_21 hQ
  · rw [if_pos h0] at hr
    refine mV_aload f10_isSign_8 rfl ?_
    refine mV_gI (I 119 19) f10_isSign_9 (by decide) kk_119 rfl rfl ?_
    refine mV_iload f10_isSign_12 rfl ?_
    refine mV_icmp_ne f10_isSign_13 (fun h1 => ?_) (fun h1 => ?_)
    · rw [if_neg h1] at hr
      refine mV_push f10_isSign_20 ?_
      subst hr
      exact mV_iret rfl rfl f10_isSign_21 hQ
    · rw [if_pos h1] at hr
      refine mV_push f10_isSign_16 ?_
      refine mV_goto f10_isSign_17 ?_
      subst hr
      exact mV_iret rfl rfl f10_isSign_21 hQ
theorem c10_isSign (X : Nat × (Nat → Int32)) (I : mI) (s : Nat) (x0 : Int32) {res : Int32} (hr : r10_isSign I x0 = res) : mC X m10_isSign 0 0 0 [.ref 119, .int x0] NN KK I (PP s) (mRet (some (.int res)) NN KK I (PP s)) :=
  mC_of (L0 := [.ref 119, .int x0]) rfl (Nat.le_of_ble_eq_true rfl) (w10_isSign X I s x0 _ hr (mRet_ok _ _ _ _ _))
def r10_emits (I : mI) (x0 : Int32) (x1 : Int32) : Option (mI) := (mSto I 136 1200 (800 + I 119 29) x0).bind fun z0 => (mSto z0 137 1200 (800 + z0 119 29) x1).bind fun z1 => some (mW z1 119 29 (z1 119 29 + 1))
set_option maxHeartbeats 4000000 in
set_option maxRecDepth 100000 in
theorem w10_emits (X : Nat × (Nat → Int32)) (I : mI) (s : Nat) (x0 : Int32) (x1 : Int32) (Q : mQ) {res : mI} (hr : r10_emits I x0 x1 = some res) (hQ : Q none NN KK res (PP s)) : mV X m10_emits 0 0 0 0 [.ref 119, .int x0, .int x1] [] NN KK I (PP s) Q := by
  unfold r10_emits at hr
  refine mV_aload f10_emits_0 rfl ?_
  refine mV_getP f10_emits_1 (by decide) kk_119 rfl (pp_119_26 _) ?_
  refine mV_push f10_emits_4 ?_
  refine mV_aload f10_emits_7 rfl ?_
  refine mV_gI (I 119 29) f10_emits_8 (by decide) kk_119 rfl rfl ?_
  refine mV_iadd f10_emits_11 ?_
  refine mV_iload f10_emits_12 rfl ?_
  obtain ⟨z0, hz0, hr⟩ := mBind hr
  refine mV_stO f10_emits_13 (by decide) kk_136 hz0 ?_
  refine mV_aload f10_emits_14 rfl ?_
  refine mV_getP f10_emits_15 (by decide) kk_119 rfl (pp_119_27 _) ?_
  refine mV_push f10_emits_18 ?_
  refine mV_aload f10_emits_21 rfl ?_
  refine mV_gI (z0 119 29) f10_emits_22 (by decide) kk_119 rfl rfl ?_
  refine mV_iadd f10_emits_25 ?_
  refine mV_iload f10_emits_26 rfl ?_
  obtain ⟨z1, hz1, hr⟩ := mBind hr
  refine mV_stO f10_emits_27 (by decide) kk_137 hz1 ?_
  refine mV_aload f10_emits_28 rfl ?_
  refine mV_aload f10_emits_29 rfl ?_
  refine mV_gI (z1 119 29) f10_emits_30 (by decide) kk_119 rfl rfl ?_
  refine mV_push f10_emits_33 ?_
  refine mV_iadd f10_emits_34 ?_
  refine mV_putI f10_emits_35 (by decide) kk_119 rfl rfl ?_
  have hr := Option.some.inj hr; subst hr
  exact mV_vret rfl f10_emits_38 hQ
theorem c10_emits (X : Nat × (Nat → Int32)) (I : mI) (s : Nat) (x0 : Int32) (x1 : Int32) {res : mI} (hr : r10_emits I x0 x1 = some res) : mC X m10_emits 0 0 0 [.ref 119, .int x0, .int x1] NN KK I (PP s) (mRet none NN KK res (PP s)) :=
  mC_of (L0 := [.ref 119, .int x0, .int x1]) rfl (Nat.le_of_ble_eq_true rfl) (w10_emits X I s x0 x1 _ hr (mRet_ok _ _ _ _ _))
def r10_canAsk (x0 : Int32) : Int32 := ((r10_isIn x0 7 18) &&& 1)
set_option maxHeartbeats 4000000 in
set_option maxRecDepth 100000 in
theorem w10_canAsk (X : Nat × (Nat → Int32)) (I : mI) (s : Nat) (x0 : Int32) (Q : mQ) {res : Int32} (hr : r10_canAsk x0 = res) (hQ : Q (some (.int res)) NN KK I (PP s)) : mV X m10_canAsk 1 0 0 0 [.ref 119, .int x0] [] NN KK I (PP s) Q := by
  unfold r10_canAsk at hr
  refine mV_aload f10_canAsk_0 rfl ?_
  refine mV_iload f10_canAsk_1 rfl ?_
  refine mV_push f10_canAsk_2 ?_
  refine mV_push f10_canAsk_4 ?_
  refine mV_cV f10_canAsk_6 tg_m10_isIn mCls10 (by decide) kk_119 (mC_deep (c10_isIn X I s x0 7 18 rfl) (by decide)) rfl rfl (Nat.le_of_ble_eq_true rfl) ?_
  subst hr
  exact mV_zret rfl f10_canAsk_9 hQ
theorem c10_canAsk (X : Nat × (Nat → Int32)) (I : mI) (s : Nat) (x0 : Int32) {res : Int32} (hr : r10_canAsk x0 = res) : mC X m10_canAsk 1 0 0 [.ref 119, .int x0] NN KK I (PP s) (mRet (some (.int res)) NN KK I (PP s)) :=
  mC_of (L0 := [.ref 119, .int x0]) rfl (Nat.le_of_ble_eq_true rfl) (w10_canAsk X I s x0 _ hr (mRet_ok _ _ _ _ _))
def r10_readUnit (I : mI) : Option (Int32 × mI) := (if (I 119 18 : Int32) = (2 : Int32) then if ((r10_canAsk (I 119 19)) : Int32) = (0 : Int32) then some 0 else some 1 else some 0 : Option (Int32)).bind fun z0 => if (z0 : Int32) = (0 : Int32) then if (I 119 18 : Int32) = (3 : Int32) then (if (z0 : Int32) = (0 : Int32) then some 0 else some 1 : Option (Int32)).bind fun z5 => (if (z0 : Int32) = (0 : Int32) then some (I 119 19) else some (I 119 19 - 7) : Option (Int32)).bind fun z6 => (r10_emits I z5 z6).bind fun z7 => (r10_reads z7).bind fun z8 => some (0, z8) else (r10_errs I 1).bind fun z9 => some (z9.1, z9.2) else (if (z0 : Int32) = (0 : Int32) then some 0 else some 1 : Option (Int32)).bind fun z1 => (if (z0 : Int32) = (0 : Int32) then some (I 119 19) else some (I 119 19 - 7) : Option (Int32)).bind fun z2 => (r10_emits I z1 z2).bind fun z3 => (r10_reads z3).bind fun z4 => some (0, z4)
set_option maxHeartbeats 4000000 in
set_option maxRecDepth 100000 in
theorem w10_readUnit (X : Nat × (Nat → Int32)) (I : mI) (s : Nat) (Q : mQ) {res : Int32 × mI} (hr : r10_readUnit I = some res) (hQ : Q (some (.int res.1)) NN KK res.2 (PP s)) : mV X m10_readUnit 3 0 0 0 [.ref 119, mX0] [] NN KK I (PP s) Q := by
  unfold r10_readUnit at hr
  refine mV_aload f10_readUnit_0 rfl ?_
  refine mV_gI (I 119 18) f10_readUnit_1 (by decide) kk_119 rfl rfl ?_
  refine mV_push f10_readUnit_4 ?_
  obtain ⟨z0, hz0, hr⟩ := mBind hr
  have keyz0 : mV X m10_readUnit 3 0 0 24 [.ref 119, mX0] [.int z0] NN KK I (PP s) Q := by
    refine mV_istore (L' := [.ref 119, .int z0]) f10_readUnit_24 (by decide) rfl rfl ?_
    refine mV_iload f10_readUnit_25 rfl ?_
    refine mV_if_ne f10_readUnit_26 (fun h2 => ?_) (fun h2 => ?_)
    · rw [if_neg h2] at hr
      refine mV_aload f10_readUnit_43 rfl ?_
      refine mV_iload f10_readUnit_44 rfl ?_
      obtain ⟨z1, hz1, hr⟩ := mBind hr
      have keyz1 : mV X m10_readUnit 3 0 0 53 [.ref 119, .int z0] [.int z1, .ref 119] NN KK I (PP s) Q := by
        refine mV_iload f10_readUnit_53 rfl ?_
        obtain ⟨z2, hz2, hr⟩ := mBind hr
        have keyz2 : mV X m10_readUnit 3 0 0 71 [.ref 119, mX0] [.int z2, .int z1, .ref 119] NN KK I (PP s) Q := by
          obtain ⟨z3, hz3, hr⟩ := mBind hr
          refine mV_cV f10_readUnit_71 tg_m10_emits mCls10 (by decide) kk_119 (mC_deep (c10_emits X I s z1 z2 hz3) (by decide)) rfl rfl (Nat.le_of_ble_eq_true rfl) ?_
          refine mV_aload f10_readUnit_74 rfl ?_
          obtain ⟨z4, hz4, hr⟩ := mBind hr
          refine mV_cV f10_readUnit_75 tg_m10_reads mCls10 (by decide) kk_119 (mC_deep (c10_reads X z3 s hz4) (by decide)) rfl rfl (Nat.le_of_ble_eq_true rfl) ?_
          refine mV_push f10_readUnit_78 ?_
          have hr := Option.some.inj hr; subst hr
          exact mV_iret rfl rfl f10_readUnit_79 hQ
        clear hr
        have hr := hz2
        clear hz2
        refine mV_if_eq f10_readUnit_54 (fun h4 => ?_) (fun h4 => ?_)
        · rw [if_pos h4] at hr
          refine mV_aload f10_readUnit_67 rfl ?_
          refine mV_gI (I 119 19) f10_readUnit_68 (by decide) kk_119 rfl rfl ?_
          have hr := Option.some.inj hr; subst hr
          refine mV_drop (L' := [.ref 119, mX0]) (mSub_k (mSub_x mSub_n)) ?_
          exact keyz2
        · rw [if_neg h4] at hr
          refine mV_aload f10_readUnit_57 rfl ?_
          refine mV_gI (I 119 19) f10_readUnit_58 (by decide) kk_119 rfl rfl ?_
          refine mV_push f10_readUnit_61 ?_
          refine mV_isub f10_readUnit_63 ?_
          refine mV_goto f10_readUnit_64 ?_
          have hr := Option.some.inj hr; subst hr
          refine mV_drop (L' := [.ref 119, mX0]) (mSub_k (mSub_x mSub_n)) ?_
          exact keyz2
      clear hr
      have hr := hz1
      clear hz1
      refine mV_if_eq f10_readUnit_45 (fun h3 => ?_) (fun h3 => ?_)
      · rw [if_pos h3] at hr
        refine mV_push f10_readUnit_52 ?_
        have hr := Option.some.inj hr; subst hr
        exact keyz1
      · rw [if_neg h3] at hr
        refine mV_push f10_readUnit_48 ?_
        refine mV_goto f10_readUnit_49 ?_
        have hr := Option.some.inj hr; subst hr
        exact keyz1
    · rw [if_pos h2] at hr
      refine mV_aload f10_readUnit_29 rfl ?_
      refine mV_gI (I 119 18) f10_readUnit_30 (by decide) kk_119 rfl rfl ?_
      refine mV_push f10_readUnit_33 ?_
      refine mV_icmp_eq f10_readUnit_34 (fun h5 => ?_) (fun h5 => ?_)
      · rw [if_pos h5] at hr
        refine mV_aload f10_readUnit_43 rfl ?_
        refine mV_iload f10_readUnit_44 rfl ?_
        obtain ⟨z5, hz5, hr⟩ := mBind hr
        have keyz5 : mV X m10_readUnit 3 0 0 53 [.ref 119, .int z0] [.int z5, .ref 119] NN KK I (PP s) Q := by
          refine mV_iload f10_readUnit_53 rfl ?_
          obtain ⟨z6, hz6, hr⟩ := mBind hr
          have keyz6 : mV X m10_readUnit 3 0 0 71 [.ref 119, mX0] [.int z6, .int z5, .ref 119] NN KK I (PP s) Q := by
            obtain ⟨z7, hz7, hr⟩ := mBind hr
            refine mV_cV f10_readUnit_71 tg_m10_emits mCls10 (by decide) kk_119 (mC_deep (c10_emits X I s z5 z6 hz7) (by decide)) rfl rfl (Nat.le_of_ble_eq_true rfl) ?_
            refine mV_aload f10_readUnit_74 rfl ?_
            obtain ⟨z8, hz8, hr⟩ := mBind hr
            refine mV_cV f10_readUnit_75 tg_m10_reads mCls10 (by decide) kk_119 (mC_deep (c10_reads X z7 s hz8) (by decide)) rfl rfl (Nat.le_of_ble_eq_true rfl) ?_
            refine mV_push f10_readUnit_78 ?_
            have hr := Option.some.inj hr; subst hr
            exact mV_iret rfl rfl f10_readUnit_79 hQ
          clear hr
          have hr := hz6
          clear hz6
          refine mV_if_eq f10_readUnit_54 (fun h7 => ?_) (fun h7 => ?_)
          · rw [if_pos h7] at hr
            refine mV_aload f10_readUnit_67 rfl ?_
            refine mV_gI (I 119 19) f10_readUnit_68 (by decide) kk_119 rfl rfl ?_
            have hr := Option.some.inj hr; subst hr
            refine mV_drop (L' := [.ref 119, mX0]) (mSub_k (mSub_x mSub_n)) ?_
            exact keyz6
          · rw [if_neg h7] at hr
            refine mV_aload f10_readUnit_57 rfl ?_
            refine mV_gI (I 119 19) f10_readUnit_58 (by decide) kk_119 rfl rfl ?_
            refine mV_push f10_readUnit_61 ?_
            refine mV_isub f10_readUnit_63 ?_
            refine mV_goto f10_readUnit_64 ?_
            have hr := Option.some.inj hr; subst hr
            refine mV_drop (L' := [.ref 119, mX0]) (mSub_k (mSub_x mSub_n)) ?_
            exact keyz6
        clear hr
        have hr := hz5
        clear hz5
        refine mV_if_eq f10_readUnit_45 (fun h6 => ?_) (fun h6 => ?_)
        · rw [if_pos h6] at hr
          refine mV_push f10_readUnit_52 ?_
          have hr := Option.some.inj hr; subst hr
          exact keyz5
        · rw [if_neg h6] at hr
          refine mV_push f10_readUnit_48 ?_
          refine mV_goto f10_readUnit_49 ?_
          have hr := Option.some.inj hr; subst hr
          exact keyz5
      · rw [if_neg h5] at hr
        refine mV_aload f10_readUnit_37 rfl ?_
        refine mV_push f10_readUnit_38 ?_
        obtain ⟨z9, hz9, hr⟩ := mBind hr
        refine mV_cV f10_readUnit_39 tg_m10_errs mCls10 (by decide) kk_119 (mC_deep (c10_errs X I s 1 hz9) (by decide)) rfl rfl (Nat.le_of_ble_eq_true rfl) ?_
        have hr := Option.some.inj hr; subst hr
        exact mV_iret rfl rfl f10_readUnit_42 hQ
  clear hr
  have hr := hz0
  clear hz0
  refine mV_icmp_ne f10_readUnit_5 (fun h0 => ?_) (fun h0 => ?_)
  · rw [if_neg h0] at hr
    refine mV_push f10_readUnit_23 ?_
    have hr := Option.some.inj hr; subst hr
    exact keyz0
  · rw [if_pos h0] at hr
    refine mV_aload f10_readUnit_8 rfl ?_
    refine mV_aload f10_readUnit_9 rfl ?_
    refine mV_gI (I 119 19) f10_readUnit_10 (by decide) kk_119 rfl rfl ?_
    refine mV_cV f10_readUnit_13 tg_m10_canAsk mCls10 (by decide) kk_119 (mC_deep (c10_canAsk X I s (I 119 19) rfl) (by decide)) rfl rfl (Nat.le_of_ble_eq_true rfl) ?_
    refine mV_if_eq f10_readUnit_16 (fun h1 => ?_) (fun h1 => ?_)
    · rw [if_pos h1] at hr
      refine mV_push f10_readUnit_23 ?_
      have hr := Option.some.inj hr; subst hr
      exact keyz0
    · rw [if_neg h1] at hr
      refine mV_push f10_readUnit_19 ?_
      refine mV_goto f10_readUnit_20 ?_
      have hr := Option.some.inj hr; subst hr
      exact keyz0
theorem c10_readUnit (X : Nat × (Nat → Int32)) (I : mI) (s : Nat) {res : Int32 × mI} (hr : r10_readUnit I = some res) : mC X m10_readUnit 3 0 0 [.ref 119] NN KK I (PP s) (mRet (some (.int res.1)) NN KK res.2 (PP s)) :=
  mC_of (L0 := [.ref 119, mX0]) rfl (Nat.le_of_ble_eq_true rfl) (w10_readUnit X I s _ hr (mRet_ok _ _ _ _ _))
def l10_readProduct_10 : Nat → mI → Option ((Int32 × mI) ⊕ (mI))
  | 0, _ => none
  | f + 1, I => if ((r10_isSign I 42) : Int32) = (0 : Int32) then if ((r10_isSign I 47) : Int32) = (0 : Int32) then some (.inr I) else (r10_reads I).bind fun z16 => if ((r10_isSign I 42) : Int32) = (0 : Int32) then if (z16 119 18 : Int32) = (3 : Int32) then if ((r10_isSign I 42) : Int32) = (0 : Int32) then if (z16 119 19 : Int32) = (0 : Int32) then (r10_errs z16 2).bind fun z30 => some (.inl (z30.1, z30.2)) else (r10_readUnit z16).bind fun z27 => if (z27.1 : Int32) = ((-1) : Int32) then some (.inl ((-1), z27.2)) else (if ((r10_isSign I 42) : Int32) = (0 : Int32) then some 5 else some 4 : Option (Int32)).bind fun z28 => (r10_emits z27.2 z28 0).bind fun z29 => l10_readProduct_10 f z29 else (r10_readUnit z16).bind fun z24 => if (z24.1 : Int32) = ((-1) : Int32) then some (.inl ((-1), z24.2)) else (if ((r10_isSign I 42) : Int32) = (0 : Int32) then some 5 else some 4 : Option (Int32)).bind fun z25 => (r10_emits z24.2 z25 0).bind fun z26 => l10_readProduct_10 f z26 else (r10_errs z16 1).bind fun z31 => some (.inl (z31.1, z31.2)) else if ((r10_isSign I 42) : Int32) = (0 : Int32) then if (z16 119 19 : Int32) = (0 : Int32) then (r10_errs z16 2).bind fun z23 => some (.inl (z23.1, z23.2)) else (r10_readUnit z16).bind fun z20 => if (z20.1 : Int32) = ((-1) : Int32) then some (.inl ((-1), z20.2)) else (if ((r10_isSign I 42) : Int32) = (0 : Int32) then some 5 else some 4 : Option (Int32)).bind fun z21 => (r10_emits z20.2 z21 0).bind fun z22 => l10_readProduct_10 f z22 else (r10_readUnit z16).bind fun z17 => if (z17.1 : Int32) = ((-1) : Int32) then some (.inl ((-1), z17.2)) else (if ((r10_isSign I 42) : Int32) = (0 : Int32) then some 5 else some 4 : Option (Int32)).bind fun z18 => (r10_emits z17.2 z18 0).bind fun z19 => l10_readProduct_10 f z19 else (r10_reads I).bind fun z0 => if ((r10_isSign I 42) : Int32) = (0 : Int32) then if (z0 119 18 : Int32) = (3 : Int32) then if ((r10_isSign I 42) : Int32) = (0 : Int32) then if (z0 119 19 : Int32) = (0 : Int32) then (r10_errs z0 2).bind fun z14 => some (.inl (z14.1, z14.2)) else (r10_readUnit z0).bind fun z11 => if (z11.1 : Int32) = ((-1) : Int32) then some (.inl ((-1), z11.2)) else (if ((r10_isSign I 42) : Int32) = (0 : Int32) then some 5 else some 4 : Option (Int32)).bind fun z12 => (r10_emits z11.2 z12 0).bind fun z13 => l10_readProduct_10 f z13 else (r10_readUnit z0).bind fun z8 => if (z8.1 : Int32) = ((-1) : Int32) then some (.inl ((-1), z8.2)) else (if ((r10_isSign I 42) : Int32) = (0 : Int32) then some 5 else some 4 : Option (Int32)).bind fun z9 => (r10_emits z8.2 z9 0).bind fun z10 => l10_readProduct_10 f z10 else (r10_errs z0 1).bind fun z15 => some (.inl (z15.1, z15.2)) else if ((r10_isSign I 42) : Int32) = (0 : Int32) then if (z0 119 19 : Int32) = (0 : Int32) then (r10_errs z0 2).bind fun z7 => some (.inl (z7.1, z7.2)) else (r10_readUnit z0).bind fun z4 => if (z4.1 : Int32) = ((-1) : Int32) then some (.inl ((-1), z4.2)) else (if ((r10_isSign I 42) : Int32) = (0 : Int32) then some 5 else some 4 : Option (Int32)).bind fun z5 => (r10_emits z4.2 z5 0).bind fun z6 => l10_readProduct_10 f z6 else (r10_readUnit z0).bind fun z1 => if (z1.1 : Int32) = ((-1) : Int32) then some (.inl ((-1), z1.2)) else (if ((r10_isSign I 42) : Int32) = (0 : Int32) then some 5 else some 4 : Option (Int32)).bind fun z2 => (r10_emits z1.2 z2 0).bind fun z3 => l10_readProduct_10 f z3
def r10_readProduct (I : mI) : Option (Int32 × mI) := (r10_readUnit I).bind fun z0 => if (z0.1 : Int32) = ((-1) : Int32) then some ((-1), z0.2) else (l10_readProduct_10 FU z0.2).bind fun z1 => match z1 with | .inl rz1 => some rz1 | .inr wz1 => some (0, wz1)
set_option maxHeartbeats 4000000 in
set_option maxRecDepth 100000 in
theorem t10_readProduct_10 (X : Nat × (Nat → Int32)) (Q : mQ) (s : Nat) : ∀ (f : Nat) (I : mI) (z : (Int32 × mI) ⊕ (mI)), l10_readProduct_10 f I = some z → (∀ res, z = .inl res → Q (some (.int res.1)) NN KK res.2 (PP s)) → (∀ w, z = .inr w → mV X m10_readProduct 4 0 0 101 [.ref 119, mX0] [] NN KK w (PP s) Q) → mV X m10_readProduct 4 0 0 10 [.ref 119, mX0] [] NN KK I (PP s) Q := by
  intro f
  induction f with
  | zero => intro I z hr hret hk; cases hr
  | succ f ih =>
    intro I z hr hret hk
    unfold l10_readProduct_10 at hr
    refine mV_aload f10_readProduct_10 rfl ?_
    refine mV_push f10_readProduct_11 ?_
    refine mV_cV f10_readProduct_13 tg_m10_isSign mCls10 (by decide) kk_119 (mC_deep (c10_isSign X I s 42 rfl) (by decide)) rfl rfl (Nat.le_of_ble_eq_true rfl) ?_
    refine mV_if_ne f10_readProduct_16 (fun h0 => ?_) (fun h0 => ?_)
    · rw [if_neg h0] at hr
      refine mV_aload f10_readProduct_28 rfl ?_
      refine mV_push f10_readProduct_29 ?_
      refine mV_cV f10_readProduct_31 tg_m10_isSign mCls10 (by decide) kk_119 (mC_deep (c10_isSign X I s 42 rfl) (by decide)) rfl rfl (Nat.le_of_ble_eq_true rfl) ?_
      refine mV_istore (L' := [.ref 119, .int (r10_isSign I 42)]) f10_readProduct_34 (by decide) rfl rfl ?_
      refine mV_aload f10_readProduct_35 rfl ?_
      obtain ⟨z0, hz0, hr⟩ := mBind hr
      refine mV_cV f10_readProduct_36 tg_m10_reads mCls10 (by decide) kk_119 (mC_deep (c10_reads X I s hz0) (by decide)) rfl rfl (Nat.le_of_ble_eq_true rfl) ?_
      refine mV_iload f10_readProduct_39 rfl ?_
      refine mV_if_ne f10_readProduct_40 (fun h1 => ?_) (fun h1 => ?_)
      · rw [if_neg h1] at hr
        refine mV_iload f10_readProduct_57 rfl ?_
        refine mV_if_ne f10_readProduct_58 (fun h2 => ?_) (fun h2 => ?_)
        · rw [if_neg h2] at hr
          refine mV_aload f10_readProduct_74 rfl ?_
          obtain ⟨z1, hz1, hr⟩ := mBind hr
          refine mV_cV f10_readProduct_75 tg_m10_readUnit mCls10 (by decide) kk_119 (mC_deep (c10_readUnit X z0 s hz1) (by decide)) rfl rfl (Nat.le_of_ble_eq_true rfl) ?_
          refine mV_push f10_readProduct_78 ?_
          refine mV_icmp_ne f10_readProduct_79 (fun h3 => ?_) (fun h3 => ?_)
          · rw [if_neg h3] at hr
            refine mV_aload f10_readProduct_84 rfl ?_
            refine mV_iload f10_readProduct_85 rfl ?_
            obtain ⟨z2, hz2, hr⟩ := mBind hr
            have keyz2 : mV X m10_readProduct 4 0 0 94 [.ref 119, mX0] [.int z2, .ref 119] NN KK z1.2 (PP s) Q := by
              refine mV_push f10_readProduct_94 ?_
              obtain ⟨z3, hz3, hr⟩ := mBind hr
              refine mV_cV f10_readProduct_95 tg_m10_emits mCls10 (by decide) kk_119 (mC_deep (c10_emits X z1.2 s z2 0 hz3) (by decide)) rfl rfl (Nat.le_of_ble_eq_true rfl) ?_
              refine mV_goto f10_readProduct_98 ?_
              exact ih z3 _ hr hret hk
            clear hr
            have hr := hz2
            clear hz2
            refine mV_if_eq f10_readProduct_86 (fun h4 => ?_) (fun h4 => ?_)
            · rw [if_pos h4] at hr
              refine mV_push f10_readProduct_93 ?_
              have hr := Option.some.inj hr; subst hr
              refine mV_drop (L' := [.ref 119, mX0]) (mSub_k (mSub_x mSub_n)) ?_
              exact keyz2
            · rw [if_neg h4] at hr
              refine mV_push f10_readProduct_89 ?_
              refine mV_goto f10_readProduct_90 ?_
              have hr := Option.some.inj hr; subst hr
              refine mV_drop (L' := [.ref 119, mX0]) (mSub_k (mSub_x mSub_n)) ?_
              exact keyz2
          · rw [if_pos h3] at hr
            refine mV_push f10_readProduct_82 ?_
            have hr := Option.some.inj hr; subst hr; have hQ := hret _ rfl
            exact mV_iret rfl rfl f10_readProduct_83 hQ
        · rw [if_pos h2] at hr
          refine mV_aload f10_readProduct_61 rfl ?_
          refine mV_gI (z0 119 19) f10_readProduct_62 (by decide) kk_119 rfl rfl ?_
          refine mV_if_ne f10_readProduct_65 (fun h5 => ?_) (fun h5 => ?_)
          · rw [if_neg h5] at hr
            refine mV_aload f10_readProduct_74 rfl ?_
            obtain ⟨z4, hz4, hr⟩ := mBind hr
            refine mV_cV f10_readProduct_75 tg_m10_readUnit mCls10 (by decide) kk_119 (mC_deep (c10_readUnit X z0 s hz4) (by decide)) rfl rfl (Nat.le_of_ble_eq_true rfl) ?_
            refine mV_push f10_readProduct_78 ?_
            refine mV_icmp_ne f10_readProduct_79 (fun h6 => ?_) (fun h6 => ?_)
            · rw [if_neg h6] at hr
              refine mV_aload f10_readProduct_84 rfl ?_
              refine mV_iload f10_readProduct_85 rfl ?_
              obtain ⟨z5, hz5, hr⟩ := mBind hr
              have keyz5 : mV X m10_readProduct 4 0 0 94 [.ref 119, mX0] [.int z5, .ref 119] NN KK z4.2 (PP s) Q := by
                refine mV_push f10_readProduct_94 ?_
                obtain ⟨z6, hz6, hr⟩ := mBind hr
                refine mV_cV f10_readProduct_95 tg_m10_emits mCls10 (by decide) kk_119 (mC_deep (c10_emits X z4.2 s z5 0 hz6) (by decide)) rfl rfl (Nat.le_of_ble_eq_true rfl) ?_
                refine mV_goto f10_readProduct_98 ?_
                exact ih z6 _ hr hret hk
              clear hr
              have hr := hz5
              clear hz5
              refine mV_if_eq f10_readProduct_86 (fun h7 => ?_) (fun h7 => ?_)
              · rw [if_pos h7] at hr
                refine mV_push f10_readProduct_93 ?_
                have hr := Option.some.inj hr; subst hr
                refine mV_drop (L' := [.ref 119, mX0]) (mSub_k (mSub_x mSub_n)) ?_
                exact keyz5
              · rw [if_neg h7] at hr
                refine mV_push f10_readProduct_89 ?_
                refine mV_goto f10_readProduct_90 ?_
                have hr := Option.some.inj hr; subst hr
                refine mV_drop (L' := [.ref 119, mX0]) (mSub_k (mSub_x mSub_n)) ?_
                exact keyz5
            · rw [if_pos h6] at hr
              refine mV_push f10_readProduct_82 ?_
              have hr := Option.some.inj hr; subst hr; have hQ := hret _ rfl
              exact mV_iret rfl rfl f10_readProduct_83 hQ
          · rw [if_pos h5] at hr
            refine mV_aload f10_readProduct_68 rfl ?_
            refine mV_push f10_readProduct_69 ?_
            obtain ⟨z7, hz7, hr⟩ := mBind hr
            refine mV_cV f10_readProduct_70 tg_m10_errs mCls10 (by decide) kk_119 (mC_deep (c10_errs X z0 s 2 hz7) (by decide)) rfl rfl (Nat.le_of_ble_eq_true rfl) ?_
            have hr := Option.some.inj hr; subst hr; have hQ := hret _ rfl
            exact mV_iret rfl rfl f10_readProduct_73 hQ
      · rw [if_pos h1] at hr
        refine mV_aload f10_readProduct_43 rfl ?_
        refine mV_gI (z0 119 18) f10_readProduct_44 (by decide) kk_119 rfl rfl ?_
        refine mV_push f10_readProduct_47 ?_
        refine mV_icmp_eq f10_readProduct_48 (fun h8 => ?_) (fun h8 => ?_)
        · rw [if_pos h8] at hr
          refine mV_iload f10_readProduct_57 rfl ?_
          refine mV_if_ne f10_readProduct_58 (fun h9 => ?_) (fun h9 => ?_)
          · rw [if_neg h9] at hr
            refine mV_aload f10_readProduct_74 rfl ?_
            obtain ⟨z8, hz8, hr⟩ := mBind hr
            refine mV_cV f10_readProduct_75 tg_m10_readUnit mCls10 (by decide) kk_119 (mC_deep (c10_readUnit X z0 s hz8) (by decide)) rfl rfl (Nat.le_of_ble_eq_true rfl) ?_
            refine mV_push f10_readProduct_78 ?_
            refine mV_icmp_ne f10_readProduct_79 (fun h10 => ?_) (fun h10 => ?_)
            · rw [if_neg h10] at hr
              refine mV_aload f10_readProduct_84 rfl ?_
              refine mV_iload f10_readProduct_85 rfl ?_
              obtain ⟨z9, hz9, hr⟩ := mBind hr
              have keyz9 : mV X m10_readProduct 4 0 0 94 [.ref 119, mX0] [.int z9, .ref 119] NN KK z8.2 (PP s) Q := by
                refine mV_push f10_readProduct_94 ?_
                obtain ⟨z10, hz10, hr⟩ := mBind hr
                refine mV_cV f10_readProduct_95 tg_m10_emits mCls10 (by decide) kk_119 (mC_deep (c10_emits X z8.2 s z9 0 hz10) (by decide)) rfl rfl (Nat.le_of_ble_eq_true rfl) ?_
                refine mV_goto f10_readProduct_98 ?_
                exact ih z10 _ hr hret hk
              clear hr
              have hr := hz9
              clear hz9
              refine mV_if_eq f10_readProduct_86 (fun h11 => ?_) (fun h11 => ?_)
              · rw [if_pos h11] at hr
                refine mV_push f10_readProduct_93 ?_
                have hr := Option.some.inj hr; subst hr
                refine mV_drop (L' := [.ref 119, mX0]) (mSub_k (mSub_x mSub_n)) ?_
                exact keyz9
              · rw [if_neg h11] at hr
                refine mV_push f10_readProduct_89 ?_
                refine mV_goto f10_readProduct_90 ?_
                have hr := Option.some.inj hr; subst hr
                refine mV_drop (L' := [.ref 119, mX0]) (mSub_k (mSub_x mSub_n)) ?_
                exact keyz9
            · rw [if_pos h10] at hr
              refine mV_push f10_readProduct_82 ?_
              have hr := Option.some.inj hr; subst hr; have hQ := hret _ rfl
              exact mV_iret rfl rfl f10_readProduct_83 hQ
          · rw [if_pos h9] at hr
            refine mV_aload f10_readProduct_61 rfl ?_
            refine mV_gI (z0 119 19) f10_readProduct_62 (by decide) kk_119 rfl rfl ?_
            refine mV_if_ne f10_readProduct_65 (fun h12 => ?_) (fun h12 => ?_)
            · rw [if_neg h12] at hr
              refine mV_aload f10_readProduct_74 rfl ?_
              obtain ⟨z11, hz11, hr⟩ := mBind hr
              refine mV_cV f10_readProduct_75 tg_m10_readUnit mCls10 (by decide) kk_119 (mC_deep (c10_readUnit X z0 s hz11) (by decide)) rfl rfl (Nat.le_of_ble_eq_true rfl) ?_
              refine mV_push f10_readProduct_78 ?_
              refine mV_icmp_ne f10_readProduct_79 (fun h13 => ?_) (fun h13 => ?_)
              · rw [if_neg h13] at hr
                refine mV_aload f10_readProduct_84 rfl ?_
                refine mV_iload f10_readProduct_85 rfl ?_
                obtain ⟨z12, hz12, hr⟩ := mBind hr
                have keyz12 : mV X m10_readProduct 4 0 0 94 [.ref 119, mX0] [.int z12, .ref 119] NN KK z11.2 (PP s) Q := by
                  refine mV_push f10_readProduct_94 ?_
                  obtain ⟨z13, hz13, hr⟩ := mBind hr
                  refine mV_cV f10_readProduct_95 tg_m10_emits mCls10 (by decide) kk_119 (mC_deep (c10_emits X z11.2 s z12 0 hz13) (by decide)) rfl rfl (Nat.le_of_ble_eq_true rfl) ?_
                  refine mV_goto f10_readProduct_98 ?_
                  exact ih z13 _ hr hret hk
                clear hr
                have hr := hz12
                clear hz12
                refine mV_if_eq f10_readProduct_86 (fun h14 => ?_) (fun h14 => ?_)
                · rw [if_pos h14] at hr
                  refine mV_push f10_readProduct_93 ?_
                  have hr := Option.some.inj hr; subst hr
                  refine mV_drop (L' := [.ref 119, mX0]) (mSub_k (mSub_x mSub_n)) ?_
                  exact keyz12
                · rw [if_neg h14] at hr
                  refine mV_push f10_readProduct_89 ?_
                  refine mV_goto f10_readProduct_90 ?_
                  have hr := Option.some.inj hr; subst hr
                  refine mV_drop (L' := [.ref 119, mX0]) (mSub_k (mSub_x mSub_n)) ?_
                  exact keyz12
              · rw [if_pos h13] at hr
                refine mV_push f10_readProduct_82 ?_
                have hr := Option.some.inj hr; subst hr; have hQ := hret _ rfl
                exact mV_iret rfl rfl f10_readProduct_83 hQ
            · rw [if_pos h12] at hr
              refine mV_aload f10_readProduct_68 rfl ?_
              refine mV_push f10_readProduct_69 ?_
              obtain ⟨z14, hz14, hr⟩ := mBind hr
              refine mV_cV f10_readProduct_70 tg_m10_errs mCls10 (by decide) kk_119 (mC_deep (c10_errs X z0 s 2 hz14) (by decide)) rfl rfl (Nat.le_of_ble_eq_true rfl) ?_
              have hr := Option.some.inj hr; subst hr; have hQ := hret _ rfl
              exact mV_iret rfl rfl f10_readProduct_73 hQ
        · rw [if_neg h8] at hr
          refine mV_aload f10_readProduct_51 rfl ?_
          refine mV_push f10_readProduct_52 ?_
          obtain ⟨z15, hz15, hr⟩ := mBind hr
          refine mV_cV f10_readProduct_53 tg_m10_errs mCls10 (by decide) kk_119 (mC_deep (c10_errs X z0 s 1 hz15) (by decide)) rfl rfl (Nat.le_of_ble_eq_true rfl) ?_
          have hr := Option.some.inj hr; subst hr; have hQ := hret _ rfl
          exact mV_iret rfl rfl f10_readProduct_56 hQ
    · rw [if_pos h0] at hr
      refine mV_aload f10_readProduct_19 rfl ?_
      refine mV_push f10_readProduct_20 ?_
      refine mV_cV f10_readProduct_22 tg_m10_isSign mCls10 (by decide) kk_119 (mC_deep (c10_isSign X I s 47 rfl) (by decide)) rfl rfl (Nat.le_of_ble_eq_true rfl) ?_
      refine mV_if_eq f10_readProduct_25 (fun h15 => ?_) (fun h15 => ?_)
      · rw [if_pos h15] at hr
        have hr := Option.some.inj hr; subst hr
        exact hk _ rfl
      · rw [if_neg h15] at hr
        refine mV_aload f10_readProduct_28 rfl ?_
        refine mV_push f10_readProduct_29 ?_
        refine mV_cV f10_readProduct_31 tg_m10_isSign mCls10 (by decide) kk_119 (mC_deep (c10_isSign X I s 42 rfl) (by decide)) rfl rfl (Nat.le_of_ble_eq_true rfl) ?_
        refine mV_istore (L' := [.ref 119, .int (r10_isSign I 42)]) f10_readProduct_34 (by decide) rfl rfl ?_
        refine mV_aload f10_readProduct_35 rfl ?_
        obtain ⟨z16, hz16, hr⟩ := mBind hr
        refine mV_cV f10_readProduct_36 tg_m10_reads mCls10 (by decide) kk_119 (mC_deep (c10_reads X I s hz16) (by decide)) rfl rfl (Nat.le_of_ble_eq_true rfl) ?_
        refine mV_iload f10_readProduct_39 rfl ?_
        refine mV_if_ne f10_readProduct_40 (fun h16 => ?_) (fun h16 => ?_)
        · rw [if_neg h16] at hr
          refine mV_iload f10_readProduct_57 rfl ?_
          refine mV_if_ne f10_readProduct_58 (fun h17 => ?_) (fun h17 => ?_)
          · rw [if_neg h17] at hr
            refine mV_aload f10_readProduct_74 rfl ?_
            obtain ⟨z17, hz17, hr⟩ := mBind hr
            refine mV_cV f10_readProduct_75 tg_m10_readUnit mCls10 (by decide) kk_119 (mC_deep (c10_readUnit X z16 s hz17) (by decide)) rfl rfl (Nat.le_of_ble_eq_true rfl) ?_
            refine mV_push f10_readProduct_78 ?_
            refine mV_icmp_ne f10_readProduct_79 (fun h18 => ?_) (fun h18 => ?_)
            · rw [if_neg h18] at hr
              refine mV_aload f10_readProduct_84 rfl ?_
              refine mV_iload f10_readProduct_85 rfl ?_
              obtain ⟨z18, hz18, hr⟩ := mBind hr
              have keyz18 : mV X m10_readProduct 4 0 0 94 [.ref 119, mX0] [.int z18, .ref 119] NN KK z17.2 (PP s) Q := by
                refine mV_push f10_readProduct_94 ?_
                obtain ⟨z19, hz19, hr⟩ := mBind hr
                refine mV_cV f10_readProduct_95 tg_m10_emits mCls10 (by decide) kk_119 (mC_deep (c10_emits X z17.2 s z18 0 hz19) (by decide)) rfl rfl (Nat.le_of_ble_eq_true rfl) ?_
                refine mV_goto f10_readProduct_98 ?_
                exact ih z19 _ hr hret hk
              clear hr
              have hr := hz18
              clear hz18
              refine mV_if_eq f10_readProduct_86 (fun h19 => ?_) (fun h19 => ?_)
              · rw [if_pos h19] at hr
                refine mV_push f10_readProduct_93 ?_
                have hr := Option.some.inj hr; subst hr
                refine mV_drop (L' := [.ref 119, mX0]) (mSub_k (mSub_x mSub_n)) ?_
                exact keyz18
              · rw [if_neg h19] at hr
                refine mV_push f10_readProduct_89 ?_
                refine mV_goto f10_readProduct_90 ?_
                have hr := Option.some.inj hr; subst hr
                refine mV_drop (L' := [.ref 119, mX0]) (mSub_k (mSub_x mSub_n)) ?_
                exact keyz18
            · rw [if_pos h18] at hr
              refine mV_push f10_readProduct_82 ?_
              have hr := Option.some.inj hr; subst hr; have hQ := hret _ rfl
              exact mV_iret rfl rfl f10_readProduct_83 hQ
          · rw [if_pos h17] at hr
            refine mV_aload f10_readProduct_61 rfl ?_
            refine mV_gI (z16 119 19) f10_readProduct_62 (by decide) kk_119 rfl rfl ?_
            refine mV_if_ne f10_readProduct_65 (fun h20 => ?_) (fun h20 => ?_)
            · rw [if_neg h20] at hr
              refine mV_aload f10_readProduct_74 rfl ?_
              obtain ⟨z20, hz20, hr⟩ := mBind hr
              refine mV_cV f10_readProduct_75 tg_m10_readUnit mCls10 (by decide) kk_119 (mC_deep (c10_readUnit X z16 s hz20) (by decide)) rfl rfl (Nat.le_of_ble_eq_true rfl) ?_
              refine mV_push f10_readProduct_78 ?_
              refine mV_icmp_ne f10_readProduct_79 (fun h21 => ?_) (fun h21 => ?_)
              · rw [if_neg h21] at hr
                refine mV_aload f10_readProduct_84 rfl ?_
                refine mV_iload f10_readProduct_85 rfl ?_
                obtain ⟨z21, hz21, hr⟩ := mBind hr
                have keyz21 : mV X m10_readProduct 4 0 0 94 [.ref 119, mX0] [.int z21, .ref 119] NN KK z20.2 (PP s) Q := by
                  refine mV_push f10_readProduct_94 ?_
                  obtain ⟨z22, hz22, hr⟩ := mBind hr
                  refine mV_cV f10_readProduct_95 tg_m10_emits mCls10 (by decide) kk_119 (mC_deep (c10_emits X z20.2 s z21 0 hz22) (by decide)) rfl rfl (Nat.le_of_ble_eq_true rfl) ?_
                  refine mV_goto f10_readProduct_98 ?_
                  exact ih z22 _ hr hret hk
                clear hr
                have hr := hz21
                clear hz21
                refine mV_if_eq f10_readProduct_86 (fun h22 => ?_) (fun h22 => ?_)
                · rw [if_pos h22] at hr
                  refine mV_push f10_readProduct_93 ?_
                  have hr := Option.some.inj hr; subst hr
                  refine mV_drop (L' := [.ref 119, mX0]) (mSub_k (mSub_x mSub_n)) ?_
                  exact keyz21
                · rw [if_neg h22] at hr
                  refine mV_push f10_readProduct_89 ?_
                  refine mV_goto f10_readProduct_90 ?_
                  have hr := Option.some.inj hr; subst hr
                  refine mV_drop (L' := [.ref 119, mX0]) (mSub_k (mSub_x mSub_n)) ?_
                  exact keyz21
              · rw [if_pos h21] at hr
                refine mV_push f10_readProduct_82 ?_
                have hr := Option.some.inj hr; subst hr; have hQ := hret _ rfl
                exact mV_iret rfl rfl f10_readProduct_83 hQ
            · rw [if_pos h20] at hr
              refine mV_aload f10_readProduct_68 rfl ?_
              refine mV_push f10_readProduct_69 ?_
              obtain ⟨z23, hz23, hr⟩ := mBind hr
              refine mV_cV f10_readProduct_70 tg_m10_errs mCls10 (by decide) kk_119 (mC_deep (c10_errs X z16 s 2 hz23) (by decide)) rfl rfl (Nat.le_of_ble_eq_true rfl) ?_
              have hr := Option.some.inj hr; subst hr; have hQ := hret _ rfl
              exact mV_iret rfl rfl f10_readProduct_73 hQ
        · rw [if_pos h16] at hr
          refine mV_aload f10_readProduct_43 rfl ?_
          refine mV_gI (z16 119 18) f10_readProduct_44 (by decide) kk_119 rfl rfl ?_
          refine mV_push f10_readProduct_47 ?_
          refine mV_icmp_eq f10_readProduct_48 (fun h23 => ?_) (fun h23 => ?_)
          · rw [if_pos h23] at hr
            refine mV_iload f10_readProduct_57 rfl ?_
            refine mV_if_ne f10_readProduct_58 (fun h24 => ?_) (fun h24 => ?_)
            · rw [if_neg h24] at hr
              refine mV_aload f10_readProduct_74 rfl ?_
              obtain ⟨z24, hz24, hr⟩ := mBind hr
              refine mV_cV f10_readProduct_75 tg_m10_readUnit mCls10 (by decide) kk_119 (mC_deep (c10_readUnit X z16 s hz24) (by decide)) rfl rfl (Nat.le_of_ble_eq_true rfl) ?_
              refine mV_push f10_readProduct_78 ?_
              refine mV_icmp_ne f10_readProduct_79 (fun h25 => ?_) (fun h25 => ?_)
              · rw [if_neg h25] at hr
                refine mV_aload f10_readProduct_84 rfl ?_
                refine mV_iload f10_readProduct_85 rfl ?_
                obtain ⟨z25, hz25, hr⟩ := mBind hr
                have keyz25 : mV X m10_readProduct 4 0 0 94 [.ref 119, mX0] [.int z25, .ref 119] NN KK z24.2 (PP s) Q := by
                  refine mV_push f10_readProduct_94 ?_
                  obtain ⟨z26, hz26, hr⟩ := mBind hr
                  refine mV_cV f10_readProduct_95 tg_m10_emits mCls10 (by decide) kk_119 (mC_deep (c10_emits X z24.2 s z25 0 hz26) (by decide)) rfl rfl (Nat.le_of_ble_eq_true rfl) ?_
                  refine mV_goto f10_readProduct_98 ?_
                  exact ih z26 _ hr hret hk
                clear hr
                have hr := hz25
                clear hz25
                refine mV_if_eq f10_readProduct_86 (fun h26 => ?_) (fun h26 => ?_)
                · rw [if_pos h26] at hr
                  refine mV_push f10_readProduct_93 ?_
                  have hr := Option.some.inj hr; subst hr
                  refine mV_drop (L' := [.ref 119, mX0]) (mSub_k (mSub_x mSub_n)) ?_
                  exact keyz25
                · rw [if_neg h26] at hr
                  refine mV_push f10_readProduct_89 ?_
                  refine mV_goto f10_readProduct_90 ?_
                  have hr := Option.some.inj hr; subst hr
                  refine mV_drop (L' := [.ref 119, mX0]) (mSub_k (mSub_x mSub_n)) ?_
                  exact keyz25
              · rw [if_pos h25] at hr
                refine mV_push f10_readProduct_82 ?_
                have hr := Option.some.inj hr; subst hr; have hQ := hret _ rfl
                exact mV_iret rfl rfl f10_readProduct_83 hQ
            · rw [if_pos h24] at hr
              refine mV_aload f10_readProduct_61 rfl ?_
              refine mV_gI (z16 119 19) f10_readProduct_62 (by decide) kk_119 rfl rfl ?_
              refine mV_if_ne f10_readProduct_65 (fun h27 => ?_) (fun h27 => ?_)
              · rw [if_neg h27] at hr
                refine mV_aload f10_readProduct_74 rfl ?_
                obtain ⟨z27, hz27, hr⟩ := mBind hr
                refine mV_cV f10_readProduct_75 tg_m10_readUnit mCls10 (by decide) kk_119 (mC_deep (c10_readUnit X z16 s hz27) (by decide)) rfl rfl (Nat.le_of_ble_eq_true rfl) ?_
                refine mV_push f10_readProduct_78 ?_
                refine mV_icmp_ne f10_readProduct_79 (fun h28 => ?_) (fun h28 => ?_)
                · rw [if_neg h28] at hr
                  refine mV_aload f10_readProduct_84 rfl ?_
                  refine mV_iload f10_readProduct_85 rfl ?_
                  obtain ⟨z28, hz28, hr⟩ := mBind hr
                  have keyz28 : mV X m10_readProduct 4 0 0 94 [.ref 119, mX0] [.int z28, .ref 119] NN KK z27.2 (PP s) Q := by
                    refine mV_push f10_readProduct_94 ?_
                    obtain ⟨z29, hz29, hr⟩ := mBind hr
                    refine mV_cV f10_readProduct_95 tg_m10_emits mCls10 (by decide) kk_119 (mC_deep (c10_emits X z27.2 s z28 0 hz29) (by decide)) rfl rfl (Nat.le_of_ble_eq_true rfl) ?_
                    refine mV_goto f10_readProduct_98 ?_
                    exact ih z29 _ hr hret hk
                  clear hr
                  have hr := hz28
                  clear hz28
                  refine mV_if_eq f10_readProduct_86 (fun h29 => ?_) (fun h29 => ?_)
                  · rw [if_pos h29] at hr
                    refine mV_push f10_readProduct_93 ?_
                    have hr := Option.some.inj hr; subst hr
                    refine mV_drop (L' := [.ref 119, mX0]) (mSub_k (mSub_x mSub_n)) ?_
                    exact keyz28
                  · rw [if_neg h29] at hr
                    refine mV_push f10_readProduct_89 ?_
                    refine mV_goto f10_readProduct_90 ?_
                    have hr := Option.some.inj hr; subst hr
                    refine mV_drop (L' := [.ref 119, mX0]) (mSub_k (mSub_x mSub_n)) ?_
                    exact keyz28
                · rw [if_pos h28] at hr
                  refine mV_push f10_readProduct_82 ?_
                  have hr := Option.some.inj hr; subst hr; have hQ := hret _ rfl
                  exact mV_iret rfl rfl f10_readProduct_83 hQ
              · rw [if_pos h27] at hr
                refine mV_aload f10_readProduct_68 rfl ?_
                refine mV_push f10_readProduct_69 ?_
                obtain ⟨z30, hz30, hr⟩ := mBind hr
                refine mV_cV f10_readProduct_70 tg_m10_errs mCls10 (by decide) kk_119 (mC_deep (c10_errs X z16 s 2 hz30) (by decide)) rfl rfl (Nat.le_of_ble_eq_true rfl) ?_
                have hr := Option.some.inj hr; subst hr; have hQ := hret _ rfl
                exact mV_iret rfl rfl f10_readProduct_73 hQ
          · rw [if_neg h23] at hr
            refine mV_aload f10_readProduct_51 rfl ?_
            refine mV_push f10_readProduct_52 ?_
            obtain ⟨z31, hz31, hr⟩ := mBind hr
            refine mV_cV f10_readProduct_53 tg_m10_errs mCls10 (by decide) kk_119 (mC_deep (c10_errs X z16 s 1 hz31) (by decide)) rfl rfl (Nat.le_of_ble_eq_true rfl) ?_
            have hr := Option.some.inj hr; subst hr; have hQ := hret _ rfl
            exact mV_iret rfl rfl f10_readProduct_56 hQ
set_option maxHeartbeats 4000000 in
set_option maxRecDepth 100000 in
theorem w10_readProduct (X : Nat × (Nat → Int32)) (I : mI) (s : Nat) (Q : mQ) {res : Int32 × mI} (hr : r10_readProduct I = some res) (hQ : Q (some (.int res.1)) NN KK res.2 (PP s)) : mV X m10_readProduct 4 0 0 0 [.ref 119, mX0] [] NN KK I (PP s) Q := by
  unfold r10_readProduct at hr
  refine mV_aload f10_readProduct_0 rfl ?_
  obtain ⟨z0, hz0, hr⟩ := mBind hr
  refine mV_cV f10_readProduct_1 tg_m10_readUnit mCls10 (by decide) kk_119 (mC_deep (c10_readUnit X I s hz0) (by decide)) rfl rfl (Nat.le_of_ble_eq_true rfl) ?_
  refine mV_push f10_readProduct_4 ?_
  refine mV_icmp_ne f10_readProduct_5 (fun h0 => ?_) (fun h0 => ?_)
  · rw [if_neg h0] at hr
    obtain ⟨z1, hz1, hr⟩ := mBind hr
    refine t10_readProduct_10 X Q s FU z0.2 _ hz1 (fun res ez1 => ?_) (fun wz1 ez1 => ?_)
    · rw [ez1] at hr; have hr := Option.some.inj hr; subst hr; exact hQ
    rw [ez1] at hr
    dsimp only at hr
    refine mV_push f10_readProduct_101 ?_
    have hr := Option.some.inj hr; subst hr
    exact mV_iret rfl rfl f10_readProduct_102 hQ
  · rw [if_pos h0] at hr
    refine mV_push f10_readProduct_8 ?_
    have hr := Option.some.inj hr; subst hr
    exact mV_iret rfl rfl f10_readProduct_9 hQ
theorem c10_readProduct (X : Nat × (Nat → Int32)) (I : mI) (s : Nat) {res : Int32 × mI} (hr : r10_readProduct I = some res) : mC X m10_readProduct 4 0 0 [.ref 119] NN KK I (PP s) (mRet (some (.int res.1)) NN KK res.2 (PP s)) :=
  mC_of (L0 := [.ref 119, mX0]) rfl (Nat.le_of_ble_eq_true rfl) (w10_readProduct X I s _ hr (mRet_ok _ _ _ _ _))
def l10_readSum_10 : Nat → mI → Option ((Int32 × mI) ⊕ (mI))
  | 0, _ => none
  | f + 1, I => if ((r10_isSign I 43) : Int32) = (0 : Int32) then if ((r10_isSign I 45) : Int32) = (0 : Int32) then some (.inr I) else (if (I 119 19 : Int32) = (43 : Int32) then some 2 else some 3 : Option (Int32)).bind fun z4 => (r10_reads I).bind fun z5 => (r10_readProduct z5).bind fun z6 => if (z6.1 : Int32) = ((-1) : Int32) then some (.inl ((-1), z6.2)) else (r10_emits z6.2 z4 0).bind fun z7 => l10_readSum_10 f z7 else (if (I 119 19 : Int32) = (43 : Int32) then some 2 else some 3 : Option (Int32)).bind fun z0 => (r10_reads I).bind fun z1 => (r10_readProduct z1).bind fun z2 => if (z2.1 : Int32) = ((-1) : Int32) then some (.inl ((-1), z2.2)) else (r10_emits z2.2 z0 0).bind fun z3 => l10_readSum_10 f z3
def r10_readSum (I : mI) : Option (Int32 × mI) := (r10_readProduct I).bind fun z0 => if (z0.1 : Int32) = ((-1) : Int32) then some ((-1), z0.2) else (l10_readSum_10 FU z0.2).bind fun z1 => match z1 with | .inl rz1 => some rz1 | .inr wz1 => some (0, wz1)
set_option maxHeartbeats 4000000 in
set_option maxRecDepth 100000 in
theorem t10_readSum_10 (X : Nat × (Nat → Int32)) (Q : mQ) (s : Nat) : ∀ (f : Nat) (I : mI) (z : (Int32 × mI) ⊕ (mI)), l10_readSum_10 f I = some z → (∀ res, z = .inl res → Q (some (.int res.1)) NN KK res.2 (PP s)) → (∀ w, z = .inr w → mV X m10_readSum 5 0 0 66 [.ref 119, mX0] [] NN KK w (PP s) Q) → mV X m10_readSum 5 0 0 10 [.ref 119, mX0] [] NN KK I (PP s) Q := by
  intro f
  induction f with
  | zero => intro I z hr hret hk; cases hr
  | succ f ih =>
    intro I z hr hret hk
    unfold l10_readSum_10 at hr
    refine mV_aload f10_readSum_10 rfl ?_
    refine mV_push f10_readSum_11 ?_
    refine mV_cV f10_readSum_13 tg_m10_isSign mCls10 (by decide) kk_119 (mC_deep (c10_isSign X I s 43 rfl) (by decide)) rfl rfl (Nat.le_of_ble_eq_true rfl) ?_
    refine mV_if_ne f10_readSum_16 (fun h0 => ?_) (fun h0 => ?_)
    · rw [if_neg h0] at hr
      refine mV_aload f10_readSum_28 rfl ?_
      refine mV_gI (I 119 19) f10_readSum_29 (by decide) kk_119 rfl rfl ?_
      refine mV_push f10_readSum_32 ?_
      obtain ⟨z0, hz0, hr⟩ := mBind hr
      have keyz0 : mV X m10_readSum 5 0 0 42 [.ref 119, mX0] [.int z0] NN KK I (PP s) Q := by
        refine mV_istore (L' := [.ref 119, .int z0]) f10_readSum_42 (by decide) rfl rfl ?_
        refine mV_aload f10_readSum_43 rfl ?_
        obtain ⟨z1, hz1, hr⟩ := mBind hr
        refine mV_cV f10_readSum_44 tg_m10_reads mCls10 (by decide) kk_119 (mC_deep (c10_reads X I s hz1) (by decide)) rfl rfl (Nat.le_of_ble_eq_true rfl) ?_
        refine mV_aload f10_readSum_47 rfl ?_
        obtain ⟨z2, hz2, hr⟩ := mBind hr
        refine mV_cV f10_readSum_48 tg_m10_readProduct mCls10 (by decide) kk_119 (mC_deep (c10_readProduct X z1 s hz2) (by decide)) rfl rfl (Nat.le_of_ble_eq_true rfl) ?_
        refine mV_push f10_readSum_51 ?_
        refine mV_icmp_ne f10_readSum_52 (fun h2 => ?_) (fun h2 => ?_)
        · rw [if_neg h2] at hr
          refine mV_aload f10_readSum_57 rfl ?_
          refine mV_iload f10_readSum_58 rfl ?_
          refine mV_push f10_readSum_59 ?_
          obtain ⟨z3, hz3, hr⟩ := mBind hr
          refine mV_cV f10_readSum_60 tg_m10_emits mCls10 (by decide) kk_119 (mC_deep (c10_emits X z2.2 s z0 0 hz3) (by decide)) rfl rfl (Nat.le_of_ble_eq_true rfl) ?_
          refine mV_goto f10_readSum_63 ?_
          refine mV_drop (L' := [.ref 119, mX0]) (mSub_k (mSub_x mSub_n)) ?_
          exact ih z3 _ hr hret hk
        · rw [if_pos h2] at hr
          refine mV_push f10_readSum_55 ?_
          have hr := Option.some.inj hr; subst hr; have hQ := hret _ rfl
          exact mV_iret rfl rfl f10_readSum_56 hQ
      clear hr
      have hr := hz0
      clear hz0
      refine mV_icmp_ne f10_readSum_34 (fun h1 => ?_) (fun h1 => ?_)
      · rw [if_neg h1] at hr
        refine mV_push f10_readSum_41 ?_
        have hr := Option.some.inj hr; subst hr
        exact keyz0
      · rw [if_pos h1] at hr
        refine mV_push f10_readSum_37 ?_
        refine mV_goto f10_readSum_38 ?_
        have hr := Option.some.inj hr; subst hr
        exact keyz0
    · rw [if_pos h0] at hr
      refine mV_aload f10_readSum_19 rfl ?_
      refine mV_push f10_readSum_20 ?_
      refine mV_cV f10_readSum_22 tg_m10_isSign mCls10 (by decide) kk_119 (mC_deep (c10_isSign X I s 45 rfl) (by decide)) rfl rfl (Nat.le_of_ble_eq_true rfl) ?_
      refine mV_if_eq f10_readSum_25 (fun h3 => ?_) (fun h3 => ?_)
      · rw [if_pos h3] at hr
        have hr := Option.some.inj hr; subst hr
        exact hk _ rfl
      · rw [if_neg h3] at hr
        refine mV_aload f10_readSum_28 rfl ?_
        refine mV_gI (I 119 19) f10_readSum_29 (by decide) kk_119 rfl rfl ?_
        refine mV_push f10_readSum_32 ?_
        obtain ⟨z4, hz4, hr⟩ := mBind hr
        have keyz4 : mV X m10_readSum 5 0 0 42 [.ref 119, mX0] [.int z4] NN KK I (PP s) Q := by
          refine mV_istore (L' := [.ref 119, .int z4]) f10_readSum_42 (by decide) rfl rfl ?_
          refine mV_aload f10_readSum_43 rfl ?_
          obtain ⟨z5, hz5, hr⟩ := mBind hr
          refine mV_cV f10_readSum_44 tg_m10_reads mCls10 (by decide) kk_119 (mC_deep (c10_reads X I s hz5) (by decide)) rfl rfl (Nat.le_of_ble_eq_true rfl) ?_
          refine mV_aload f10_readSum_47 rfl ?_
          obtain ⟨z6, hz6, hr⟩ := mBind hr
          refine mV_cV f10_readSum_48 tg_m10_readProduct mCls10 (by decide) kk_119 (mC_deep (c10_readProduct X z5 s hz6) (by decide)) rfl rfl (Nat.le_of_ble_eq_true rfl) ?_
          refine mV_push f10_readSum_51 ?_
          refine mV_icmp_ne f10_readSum_52 (fun h5 => ?_) (fun h5 => ?_)
          · rw [if_neg h5] at hr
            refine mV_aload f10_readSum_57 rfl ?_
            refine mV_iload f10_readSum_58 rfl ?_
            refine mV_push f10_readSum_59 ?_
            obtain ⟨z7, hz7, hr⟩ := mBind hr
            refine mV_cV f10_readSum_60 tg_m10_emits mCls10 (by decide) kk_119 (mC_deep (c10_emits X z6.2 s z4 0 hz7) (by decide)) rfl rfl (Nat.le_of_ble_eq_true rfl) ?_
            refine mV_goto f10_readSum_63 ?_
            refine mV_drop (L' := [.ref 119, mX0]) (mSub_k (mSub_x mSub_n)) ?_
            exact ih z7 _ hr hret hk
          · rw [if_pos h5] at hr
            refine mV_push f10_readSum_55 ?_
            have hr := Option.some.inj hr; subst hr; have hQ := hret _ rfl
            exact mV_iret rfl rfl f10_readSum_56 hQ
        clear hr
        have hr := hz4
        clear hz4
        refine mV_icmp_ne f10_readSum_34 (fun h4 => ?_) (fun h4 => ?_)
        · rw [if_neg h4] at hr
          refine mV_push f10_readSum_41 ?_
          have hr := Option.some.inj hr; subst hr
          exact keyz4
        · rw [if_pos h4] at hr
          refine mV_push f10_readSum_37 ?_
          refine mV_goto f10_readSum_38 ?_
          have hr := Option.some.inj hr; subst hr
          exact keyz4
set_option maxHeartbeats 4000000 in
set_option maxRecDepth 100000 in
theorem w10_readSum (X : Nat × (Nat → Int32)) (I : mI) (s : Nat) (Q : mQ) {res : Int32 × mI} (hr : r10_readSum I = some res) (hQ : Q (some (.int res.1)) NN KK res.2 (PP s)) : mV X m10_readSum 5 0 0 0 [.ref 119, mX0] [] NN KK I (PP s) Q := by
  unfold r10_readSum at hr
  refine mV_aload f10_readSum_0 rfl ?_
  obtain ⟨z0, hz0, hr⟩ := mBind hr
  refine mV_cV f10_readSum_1 tg_m10_readProduct mCls10 (by decide) kk_119 (mC_deep (c10_readProduct X I s hz0) (by decide)) rfl rfl (Nat.le_of_ble_eq_true rfl) ?_
  refine mV_push f10_readSum_4 ?_
  refine mV_icmp_ne f10_readSum_5 (fun h0 => ?_) (fun h0 => ?_)
  · rw [if_neg h0] at hr
    obtain ⟨z1, hz1, hr⟩ := mBind hr
    refine t10_readSum_10 X Q s FU z0.2 _ hz1 (fun res ez1 => ?_) (fun wz1 ez1 => ?_)
    · rw [ez1] at hr; have hr := Option.some.inj hr; subst hr; exact hQ
    rw [ez1] at hr
    dsimp only at hr
    refine mV_push f10_readSum_66 ?_
    have hr := Option.some.inj hr; subst hr
    exact mV_iret rfl rfl f10_readSum_67 hQ
  · rw [if_pos h0] at hr
    refine mV_push f10_readSum_8 ?_
    have hr := Option.some.inj hr; subst hr
    exact mV_iret rfl rfl f10_readSum_9 hQ
theorem c10_readSum (X : Nat × (Nat → Int32)) (I : mI) (s : Nat) {res : Int32 × mI} (hr : r10_readSum I = some res) : mC X m10_readSum 5 0 0 [.ref 119] NN KK I (PP s) (mRet (some (.int res.1)) NN KK res.2 (PP s)) :=
  mC_of (L0 := [.ref 119, mX0]) rfl (Nat.le_of_ble_eq_true rfl) (w10_readSum X I s _ hr (mRet_ok _ _ _ _ _))

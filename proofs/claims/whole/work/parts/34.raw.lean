def l8_groups_4 (I : mI) : Nat → Int32 → Int32 → Option (Int32)
  | 0, _, _ => none
  | f + 1, y1, y2 => if (I 8 6 : Int32) ≤ (y2 : Int32) then some y1 else (r8_groupOf I y2).bind fun z0 => (if ((z0 &&& ((1 <<< (y2 &&& 31)) - 1)) : Int32) = (0 : Int32) then some (y1 + 1) else some y1 : Option (Int32)).bind fun z1 => l8_groups_4 I f z1 (y2 + 1)
def r8_groups (I : mI) : Option (Int32) := (l8_groups_4 I FU 0 0).bind fun z0 => some z0
set_option maxHeartbeats 4000000 in
set_option maxRecDepth 100000 in
theorem t8_groups_4 (X : Nat × (Nat → Int32)) (Q : mQ) (s : Nat) (I : mI) : ∀ (f : Nat) (y1 : Int32) (y2 : Int32) (z : Int32), l8_groups_4 I f y1 y2 = some z → mV X m8_groups 2 0 0 40 [.ref 2, .int z, mX0, mX0] [] NN KK I (PP s) Q → mV X m8_groups 2 0 0 4 [.ref 2, .int y1, .int y2, mX0] [] NN KK I (PP s) Q := by
  intro f
  induction f with
  | zero => intro y1 y2 z hr hk; cases hr
  | succ f ih =>
    intro y1 y2 z hr hk
    unfold l8_groups_4 at hr
    refine mV_iload f8_groups_4 rfl ?_
    refine mV_aload f8_groups_5 rfl ?_
    refine mV_getP f8_groups_6 (by decide) kk_2 rfl (pp_2_1 _) ?_
    refine mV_gI (I 8 6) f8_groups_9 (by decide) kk_8 rfl rfl ?_
    refine mV_icmp_ge f8_groups_12 (fun h0 => ?_) (fun h0 => ?_)
    · rw [if_pos h0] at hr
      have hr := Option.some.inj hr; subst hr
      refine mV_drop (L' := [.ref 2, .int y1, mX0, mX0]) (mSub_k (mSub_k (mSub_x (mSub_x mSub_n)))) ?_
      exact hk
    · rw [if_neg h0] at hr
      refine mV_push f8_groups_15 ?_
      refine mV_iload f8_groups_16 rfl ?_
      refine mV_ishl f8_groups_17 ?_
      refine mV_push f8_groups_18 ?_
      refine mV_isub f8_groups_19 ?_
      refine mV_istore (L' := [.ref 2, .int y1, .int y2, .int ((1 <<< (y2 &&& 31)) - 1)]) f8_groups_20 (by decide) rfl rfl ?_
      refine mV_aload f8_groups_21 rfl ?_
      refine mV_iload f8_groups_22 rfl ?_
      obtain ⟨z0, hz0, hr⟩ := mBind hr
      refine mV_cV f8_groups_23 tg_m8_groupOf mCls8 (by decide) kk_2 (mC_deep (c8_groupOf X I s y2 hz0) (by decide)) rfl rfl (Nat.le_of_ble_eq_true rfl) ?_
      refine mV_iload f8_groups_26 rfl ?_
      refine mV_iand f8_groups_27 ?_
      obtain ⟨z1, hz1, hr⟩ := mBind hr
      have keyz1 : mV X m8_groups 2 0 0 34 [.ref 2, .int z1, .int y2, mX0] [] NN KK I (PP s) Q := by
        refine mV_iinc (y := (y2 + 1)) (L' := [.ref 2, .int z1, .int (y2 + 1), mX0]) f8_groups_34 rfl rfl (by decide) rfl rfl ?_
        refine mV_goto f8_groups_37 ?_
        exact ih z1 (y2 + 1) _ hr hk
      clear hr
      have hr := hz1
      clear hz1
      refine mV_if_ne f8_groups_28 (fun h1 => ?_) (fun h1 => ?_)
      · rw [if_neg h1] at hr
        have hr := Option.some.inj hr; subst hr
        refine mV_drop (L' := [.ref 2, .int y1, .int y2, mX0]) (mSub_k (mSub_k (mSub_k (mSub_x mSub_n)))) ?_
        exact keyz1
      · rw [if_pos h1] at hr
        refine mV_iinc (y := (y1 + 1)) (L' := [.ref 2, .int (y1 + 1), .int y2, .int ((1 <<< (y2 &&& 31)) - 1)]) f8_groups_31 rfl rfl (by decide) rfl rfl ?_
        have hr := Option.some.inj hr; subst hr
        refine mV_drop (L' := [.ref 2, .int (y1 + 1), .int y2, mX0]) (mSub_k (mSub_k (mSub_k (mSub_x mSub_n)))) ?_
        exact keyz1
set_option maxHeartbeats 4000000 in
set_option maxRecDepth 100000 in
theorem w8_groups (X : Nat × (Nat → Int32)) (I : mI) (s : Nat) (Q : mQ) {res : Int32} (hr : r8_groups I = some res) (hQ : Q (some (.int res)) NN KK I (PP s)) : mV X m8_groups 2 0 0 0 [.ref 2, mX0, mX0, mX0] [] NN KK I (PP s) Q := by
  unfold r8_groups at hr
  refine mV_push f8_groups_0 ?_
  refine mV_istore (L' := [.ref 2, .int 0, mX0, mX0]) f8_groups_1 (by decide) rfl rfl ?_
  refine mV_push f8_groups_2 ?_
  refine mV_istore (L' := [.ref 2, .int 0, .int 0, mX0]) f8_groups_3 (by decide) rfl rfl ?_
  obtain ⟨z0, hz0, hr⟩ := mBind hr
  refine t8_groups_4 X Q s I FU 0 0 _ hz0 ?_
  refine mV_iload f8_groups_40 rfl ?_
  have hr := Option.some.inj hr; subst hr
  exact mV_iret rfl rfl f8_groups_41 hQ
theorem c8_groups (X : Nat × (Nat → Int32)) (I : mI) (s : Nat) {res : Int32} (hr : r8_groups I = some res) : mC X m8_groups 2 0 0 [.ref 2] NN KK I (PP s) (mRet (some (.int res)) NN KK I (PP s)) :=
  mC_of (L0 := [.ref 2, mX0, mX0, mX0]) rfl (Nat.le_of_ble_eq_true rfl) (w8_groups X I s _ hr (mRet_ok _ _ _ _ _))
def r9_alike (I : mI) (x0 : Int32) : Option (Int32) := if (x0 : Int32) = ((-1) : Int32) then (r8_groups I).bind fun z2 => some z2 else (if ((r0_hasPiece I x0) : Int32) = (0 : Int32) then some (-1) else (r8_groupOf I x0).bind fun z1 => some z1 : Option (Int32)).bind fun z0 => some z0
set_option maxHeartbeats 4000000 in
set_option maxRecDepth 100000 in
theorem w9_alike (X : Nat × (Nat → Int32)) (I : mI) (s : Nat) (x0 : Int32) (Q : mQ) {res : Int32} (hr : r9_alike I x0 = some res) (hQ : Q (some (.int res)) NN KK I (PP s)) : mV X m9_alike 3 0 0 0 [.ref 0, .int x0] [] NN KK I (PP s) Q := by
  unfold r9_alike at hr
  refine mV_iload f9_alike_0 rfl ?_
  refine mV_push f9_alike_1 ?_
  refine mV_icmp_ne f9_alike_2 (fun h0 => ?_) (fun h0 => ?_)
  · rw [if_neg h0] at hr
    refine mV_aload f9_alike_13 rfl ?_
    refine mV_getP f9_alike_14 (by decide) kk_0 rfl (pp_0_1 _) ?_
    refine mV_getP f9_alike_17 (by decide) kk_2 rfl (pp_2_1 _) ?_
    refine mV_iload f9_alike_20 rfl ?_
    refine mV_cV f9_alike_21 tg_m0_hasPiece mCls0 (by decide) kk_8 (mC_deep (c0_hasPiece X I s x0 rfl) (by decide)) rfl rfl (Nat.le_of_ble_eq_true rfl) ?_
    obtain ⟨z0, hz0, hr⟩ := mBind hr
    have keyz0 : mV X m9_alike 3 0 0 39 [.ref 0, mX0] [.int z0] NN KK I (PP s) Q := by
      have hr := Option.some.inj hr; subst hr
      exact mV_iret rfl rfl f9_alike_39 hQ
    clear hr
    have hr := hz0
    clear hz0
    refine mV_if_eq f9_alike_24 (fun h1 => ?_) (fun h1 => ?_)
    · rw [if_pos h1] at hr
      refine mV_push f9_alike_38 ?_
      have hr := Option.some.inj hr; subst hr
      refine mV_drop (L' := [.ref 0, mX0]) (mSub_k (mSub_x mSub_n)) ?_
      exact keyz0
    · rw [if_neg h1] at hr
      refine mV_aload f9_alike_27 rfl ?_
      refine mV_getP f9_alike_28 (by decide) kk_0 rfl (pp_0_1 _) ?_
      refine mV_iload f9_alike_31 rfl ?_
      obtain ⟨z1, hz1, hr⟩ := mBind hr
      refine mV_cV f9_alike_32 tg_m8_groupOf mCls8 (by decide) kk_2 (mC_deep (c8_groupOf X I s x0 hz1) (by decide)) rfl rfl (Nat.le_of_ble_eq_true rfl) ?_
      refine mV_goto f9_alike_35 ?_
      have hr := Option.some.inj hr; subst hr
      refine mV_drop (L' := [.ref 0, mX0]) (mSub_k (mSub_x mSub_n)) ?_
      exact keyz0
  · rw [if_pos h0] at hr
    refine mV_aload f9_alike_5 rfl ?_
    refine mV_getP f9_alike_6 (by decide) kk_0 rfl (pp_0_1 _) ?_
    obtain ⟨z2, hz2, hr⟩ := mBind hr
    refine mV_cV f9_alike_9 tg_m8_groups mCls8 (by decide) kk_2 (mC_deep (c8_groups X I s hz2) (by decide)) rfl rfl (Nat.le_of_ble_eq_true rfl) ?_
    have hr := Option.some.inj hr; subst hr
    exact mV_iret rfl rfl f9_alike_12 hQ
theorem c9_alike (X : Nat × (Nat → Int32)) (I : mI) (s : Nat) (x0 : Int32) {res : Int32} (hr : r9_alike I x0 = some res) : mC X m9_alike 3 0 0 [.ref 0, .int x0] NN KK I (PP s) (mRet (some (.int res)) NN KK I (PP s)) :=
  mC_of (L0 := [.ref 0, .int x0]) rfl (Nat.le_of_ble_eq_true rfl) (w9_alike X I s x0 _ hr (mRet_ok _ _ _ _ _))
def l2_pagesTurnedBy_18 (k0 : Int32) (k1 : Int32) (k2 : Int32) (k3 : Int32) : Nat → Int32 → Int32 → Option (Int32)
  | 0, _, _ => none
  | f + 1, y4, y5 => if (k0 : Int32) < (y5 : Int32) then some y4 else (mRemO y5 k1).bind fun z0 => (if (z0 : Int32) = (0 : Int32) then some 1 else some 0 : Option (Int32)).bind fun z1 => (mRemO y5 k2).bind fun z2 => (if (z2 : Int32) = (0 : Int32) then some 1 else some 0 : Option (Int32)).bind fun z3 => (if ((z1 + z3) : Int32) = (k3 : Int32) then some (y4 + 1) else some y4 : Option (Int32)).bind fun z4 => l2_pagesTurnedBy_18 k0 k1 k2 k3 f z4 (y5 + 1)
def r2_pagesTurnedBy (x0 : Int32) (x1 : Int32) (x2 : Int32) (x3 : Int32) : Option (Int32) := if (x1 : Int32) < (1 : Int32) then some 0 else if (1 : Int32) ≤ (x2 : Int32) then (l2_pagesTurnedBy_18 x0 x1 x2 x3 FU 0 1).bind fun z0 => some z0 else some 0
set_option maxHeartbeats 4000000 in
set_option maxRecDepth 100000 in
theorem t2_pagesTurnedBy_18 (X : Nat × (Nat → Int32)) (Q : mQ) (s : Nat) (I : mI) (k0 : Int32) (k1 : Int32) (k2 : Int32) (k3 : Int32) : ∀ (f : Nat) (y4 : Int32) (y5 : Int32) (z : Int32), l2_pagesTurnedBy_18 k0 k1 k2 k3 f y4 y5 = some z → mV X m2_pagesTurnedBy 0 0 0 66 [.int k0, .int k1, .int k2, .int k3, .int z, mX0, mX0] [] NN KK I (PP s) Q → mV X m2_pagesTurnedBy 0 0 0 18 [.int k0, .int k1, .int k2, .int k3, .int y4, .int y5, mX0] [] NN KK I (PP s) Q := by
  intro f
  induction f with
  | zero => intro y4 y5 z hr hk; cases hr
  | succ f ih =>
    intro y4 y5 z hr hk
    unfold l2_pagesTurnedBy_18 at hr
    refine mV_iload f2_pagesTurnedBy_18 rfl ?_
    refine mV_iload f2_pagesTurnedBy_20 rfl ?_
    refine mV_icmp_gt f2_pagesTurnedBy_21 (fun h0 => ?_) (fun h0 => ?_)
    · rw [if_pos h0] at hr
      have hr := Option.some.inj hr; subst hr
      refine mV_drop (L' := [.int k0, .int k1, .int k2, .int k3, .int y4, mX0, mX0]) (mSub_k (mSub_k (mSub_k (mSub_k (mSub_k (mSub_x (mSub_x mSub_n))))))) ?_
      exact hk
    · rw [if_neg h0] at hr
      refine mV_iload f2_pagesTurnedBy_24 rfl ?_
      refine mV_iload f2_pagesTurnedBy_26 rfl ?_
      obtain ⟨z0, hz0, hr⟩ := mBind hr
      refine mV_remO f2_pagesTurnedBy_27 hz0 ?_
      obtain ⟨z1, hz1, hr⟩ := mBind hr
      have keyz1 : mV X m2_pagesTurnedBy 0 0 0 36 [.int k0, .int k1, .int k2, .int k3, .int y4, .int y5, mX0] [.int z1] NN KK I (PP s) Q := by
        refine mV_iload f2_pagesTurnedBy_36 rfl ?_
        refine mV_iload f2_pagesTurnedBy_38 rfl ?_
        obtain ⟨z2, hz2, hr⟩ := mBind hr
        refine mV_remO f2_pagesTurnedBy_39 hz2 ?_
        obtain ⟨z3, hz3, hr⟩ := mBind hr
        have keyz3 : mV X m2_pagesTurnedBy 0 0 0 48 [.int k0, .int k1, .int k2, .int k3, .int y4, .int y5, mX0] [.int z3, .int z1] NN KK I (PP s) Q := by
          refine mV_iadd f2_pagesTurnedBy_48 ?_
          refine mV_istore (L' := [.int k0, .int k1, .int k2, .int k3, .int y4, .int y5, .int (z1 + z3)]) f2_pagesTurnedBy_49 (by decide) rfl rfl ?_
          refine mV_iload f2_pagesTurnedBy_51 rfl ?_
          refine mV_iload f2_pagesTurnedBy_53 rfl ?_
          obtain ⟨z4, hz4, hr⟩ := mBind hr
          have keyz4 : mV X m2_pagesTurnedBy 0 0 0 60 [.int k0, .int k1, .int k2, .int k3, .int z4, .int y5, mX0] [] NN KK I (PP s) Q := by
            refine mV_iinc (y := (y5 + 1)) (L' := [.int k0, .int k1, .int k2, .int k3, .int z4, .int (y5 + 1), mX0]) f2_pagesTurnedBy_60 rfl rfl (by decide) rfl rfl ?_
            refine mV_goto f2_pagesTurnedBy_63 ?_
            exact ih z4 (y5 + 1) _ hr hk
          clear hr
          have hr := hz4
          clear hz4
          refine mV_icmp_ne f2_pagesTurnedBy_54 (fun h3 => ?_) (fun h3 => ?_)
          · rw [if_neg h3] at hr
            have hr := Option.some.inj hr; subst hr
            refine mV_drop (L' := [.int k0, .int k1, .int k2, .int k3, .int y4, .int y5, mX0]) (mSub_k (mSub_k (mSub_k (mSub_k (mSub_k (mSub_k (mSub_x mSub_n))))))) ?_
            exact keyz4
          · rw [if_pos h3] at hr
            refine mV_iinc (y := (y4 + 1)) (L' := [.int k0, .int k1, .int k2, .int k3, .int (y4 + 1), .int y5, .int (z1 + z3)]) f2_pagesTurnedBy_57 rfl rfl (by decide) rfl rfl ?_
            have hr := Option.some.inj hr; subst hr
            refine mV_drop (L' := [.int k0, .int k1, .int k2, .int k3, .int (y4 + 1), .int y5, mX0]) (mSub_k (mSub_k (mSub_k (mSub_k (mSub_k (mSub_k (mSub_x mSub_n))))))) ?_
            exact keyz4
        clear hr
        have hr := hz3
        clear hz3
        refine mV_if_ne f2_pagesTurnedBy_40 (fun h2 => ?_) (fun h2 => ?_)
        · rw [if_neg h2] at hr
          refine mV_push f2_pagesTurnedBy_47 ?_
          have hr := Option.some.inj hr; subst hr
          exact keyz3
        · rw [if_pos h2] at hr
          refine mV_push f2_pagesTurnedBy_43 ?_
          refine mV_goto f2_pagesTurnedBy_44 ?_
          have hr := Option.some.inj hr; subst hr
          exact keyz3
      clear hr
      have hr := hz1
      clear hz1
      refine mV_if_ne f2_pagesTurnedBy_28 (fun h1 => ?_) (fun h1 => ?_)
      · rw [if_neg h1] at hr
        refine mV_push f2_pagesTurnedBy_35 ?_
        have hr := Option.some.inj hr; subst hr
        exact keyz1
      · rw [if_pos h1] at hr
        refine mV_push f2_pagesTurnedBy_31 ?_
        refine mV_goto f2_pagesTurnedBy_32 ?_
        have hr := Option.some.inj hr; subst hr
        exact keyz1
set_option maxHeartbeats 4000000 in
set_option maxRecDepth 100000 in
theorem w2_pagesTurnedBy (X : Nat × (Nat → Int32)) (I : mI) (s : Nat) (x0 : Int32) (x1 : Int32) (x2 : Int32) (x3 : Int32) (Q : mQ) {res : Int32} (hr : r2_pagesTurnedBy x0 x1 x2 x3 = some res) (hQ : Q (some (.int res)) NN KK I (PP s)) : mV X m2_pagesTurnedBy 0 0 0 0 [.int x0, .int x1, .int x2, .int x3, mX0, mX0, mX0] [] NN KK I (PP s) Q := by
  unfold r2_pagesTurnedBy at hr
  refine mV_iload f2_pagesTurnedBy_0 rfl ?_
  refine mV_push f2_pagesTurnedBy_1 ?_
  refine mV_icmp_lt f2_pagesTurnedBy_2 (fun h0 => ?_) (fun h0 => ?_)
  · rw [if_pos h0] at hr
    refine mV_push f2_pagesTurnedBy_10 ?_
    have hr := Option.some.inj hr; subst hr
    exact mV_iret rfl rfl f2_pagesTurnedBy_11 hQ
  · rw [if_neg h0] at hr
    refine mV_iload f2_pagesTurnedBy_5 rfl ?_
    refine mV_push f2_pagesTurnedBy_6 ?_
    refine mV_icmp_ge f2_pagesTurnedBy_7 (fun h1 => ?_) (fun h1 => ?_)
    · rw [if_pos h1] at hr
      refine mV_push f2_pagesTurnedBy_12 ?_
      refine mV_istore (L' := [.int x0, .int x1, .int x2, .int x3, .int 0, mX0, mX0]) f2_pagesTurnedBy_13 (by decide) rfl rfl ?_
      refine mV_push f2_pagesTurnedBy_15 ?_
      refine mV_istore (L' := [.int x0, .int x1, .int x2, .int x3, .int 0, .int 1, mX0]) f2_pagesTurnedBy_16 (by decide) rfl rfl ?_
      obtain ⟨z0, hz0, hr⟩ := mBind hr
      refine t2_pagesTurnedBy_18 X Q s I x0 x1 x2 x3 FU 0 1 _ hz0 ?_
      refine mV_iload f2_pagesTurnedBy_66 rfl ?_
      have hr := Option.some.inj hr; subst hr
      exact mV_iret rfl rfl f2_pagesTurnedBy_68 hQ
    · rw [if_neg h1] at hr
      refine mV_push f2_pagesTurnedBy_10 ?_
      have hr := Option.some.inj hr; subst hr
      exact mV_iret rfl rfl f2_pagesTurnedBy_11 hQ
theorem c2_pagesTurnedBy (X : Nat × (Nat → Int32)) (I : mI) (s : Nat) (x0 : Int32) (x1 : Int32) (x2 : Int32) (x3 : Int32) {res : Int32} (hr : r2_pagesTurnedBy x0 x1 x2 x3 = some res) : mC X m2_pagesTurnedBy 0 0 0 [.int x0, .int x1, .int x2, .int x3] NN KK I (PP s) (mRet (some (.int res)) NN KK I (PP s)) :=
  mC_of (L0 := [.int x0, .int x1, .int x2, .int x3, mX0, mX0, mX0]) rfl (Nat.le_of_ble_eq_true rfl) (w2_pagesTurnedBy X I s x0 x1 x2 x3 _ hr (mRet_ok _ _ _ _ _))
def r9_pages (x0 : Int32) (x1 : Int32) (x2 : Int32) (x3 : Int32) : Option (Int32) := if (x0 : Int32) < (1 : Int32) then some (-1) else if (60 : Int32) < (x0 : Int32) then some (-1) else if (x1 : Int32) < (1 : Int32) then some (-1) else if (9 : Int32) < (x1 : Int32) then some (-1) else if (x2 : Int32) < (1 : Int32) then some (-1) else if (9 : Int32) < (x2 : Int32) then some (-1) else if (x3 : Int32) < (0 : Int32) then some (-1) else if (x3 : Int32) ≤ (1 : Int32) then (if (x3 : Int32) = (0 : Int32) then some 1 else some 0 : Option (Int32)).bind fun z0 => (r2_pagesTurnedBy x0 x1 x2 z0).bind fun z1 => some z1 else some (-1)
set_option maxHeartbeats 4000000 in
set_option maxRecDepth 100000 in
theorem w9_pages (X : Nat × (Nat → Int32)) (I : mI) (s : Nat) (x0 : Int32) (x1 : Int32) (x2 : Int32) (x3 : Int32) (Q : mQ) {res : Int32} (hr : r9_pages x0 x1 x2 x3 = some res) (hQ : Q (some (.int res)) NN KK I (PP s)) : mV X m9_pages 1 0 0 0 [.ref 0, .int x0, .int x1, .int x2, .int x3] [] NN KK I (PP s) Q := by
  unfold r9_pages at hr
  refine mV_iload f9_pages_0 rfl ?_
  refine mV_push f9_pages_1 ?_
  refine mV_icmp_lt f9_pages_2 (fun h0 => ?_) (fun h0 => ?_)
  · rw [if_pos h0] at hr
    refine mV_push f9_pages_44 ?_
    have hr := Option.some.inj hr; subst hr
    exact mV_iret rfl rfl f9_pages_45 hQ
  · rw [if_neg h0] at hr
    refine mV_iload f9_pages_5 rfl ?_
    refine mV_push f9_pages_6 ?_
    refine mV_icmp_gt f9_pages_8 (fun h1 => ?_) (fun h1 => ?_)
    · rw [if_pos h1] at hr
      refine mV_push f9_pages_44 ?_
      have hr := Option.some.inj hr; subst hr
      exact mV_iret rfl rfl f9_pages_45 hQ
    · rw [if_neg h1] at hr
      refine mV_iload f9_pages_11 rfl ?_
      refine mV_push f9_pages_12 ?_
      refine mV_icmp_lt f9_pages_13 (fun h2 => ?_) (fun h2 => ?_)
      · rw [if_pos h2] at hr
        refine mV_push f9_pages_44 ?_
        have hr := Option.some.inj hr; subst hr
        exact mV_iret rfl rfl f9_pages_45 hQ
      · rw [if_neg h2] at hr
        refine mV_iload f9_pages_16 rfl ?_
        refine mV_push f9_pages_17 ?_
        refine mV_icmp_gt f9_pages_19 (fun h3 => ?_) (fun h3 => ?_)
        · rw [if_pos h3] at hr
          refine mV_push f9_pages_44 ?_
          have hr := Option.some.inj hr; subst hr
          exact mV_iret rfl rfl f9_pages_45 hQ
        · rw [if_neg h3] at hr
          refine mV_iload f9_pages_22 rfl ?_
          refine mV_push f9_pages_23 ?_
          refine mV_icmp_lt f9_pages_24 (fun h4 => ?_) (fun h4 => ?_)
          · rw [if_pos h4] at hr
            refine mV_push f9_pages_44 ?_
            have hr := Option.some.inj hr; subst hr
            exact mV_iret rfl rfl f9_pages_45 hQ
          · rw [if_neg h4] at hr
            refine mV_iload f9_pages_27 rfl ?_
            refine mV_push f9_pages_28 ?_
            refine mV_icmp_gt f9_pages_30 (fun h5 => ?_) (fun h5 => ?_)
            · rw [if_pos h5] at hr
              refine mV_push f9_pages_44 ?_
              have hr := Option.some.inj hr; subst hr
              exact mV_iret rfl rfl f9_pages_45 hQ
            · rw [if_neg h5] at hr
              refine mV_iload f9_pages_33 rfl ?_
              refine mV_if_lt f9_pages_35 (fun h6 => ?_) (fun h6 => ?_)
              · rw [if_pos h6] at hr
                refine mV_push f9_pages_44 ?_
                have hr := Option.some.inj hr; subst hr
                exact mV_iret rfl rfl f9_pages_45 hQ
              · rw [if_neg h6] at hr
                refine mV_iload f9_pages_38 rfl ?_
                refine mV_push f9_pages_40 ?_
                refine mV_icmp_le f9_pages_41 (fun h7 => ?_) (fun h7 => ?_)
                · rw [if_pos h7] at hr
                  refine mV_iload f9_pages_46 rfl ?_
                  refine mV_iload f9_pages_47 rfl ?_
                  refine mV_iload f9_pages_48 rfl ?_
                  refine mV_iload f9_pages_49 rfl ?_
                  obtain ⟨z0, hz0, hr⟩ := mBind hr
                  have keyz0 : mV X m9_pages 1 0 0 59 [.ref 0, mX0, mX0, mX0, mX0] [.int z0, .int x2, .int x1, .int x0] NN KK I (PP s) Q := by
                    obtain ⟨z1, hz1, hr⟩ := mBind hr
                    refine mV_cS f9_pages_59 tg_m2_pagesTurnedBy (mC_deep (c2_pagesTurnedBy X I s x0 x1 x2 z0 hz1) (by decide)) rfl rfl (Nat.le_of_ble_eq_true rfl) ?_
                    have hr := Option.some.inj hr; subst hr
                    exact mV_iret rfl rfl f9_pages_62 hQ
                  clear hr
                  have hr := hz0
                  clear hz0
                  refine mV_if_ne f9_pages_51 (fun h8 => ?_) (fun h8 => ?_)
                  · rw [if_neg h8] at hr
                    refine mV_push f9_pages_58 ?_
                    have hr := Option.some.inj hr; subst hr
                    refine mV_drop (L' := [.ref 0, mX0, mX0, mX0, mX0]) (mSub_k (mSub_x (mSub_x (mSub_x (mSub_x mSub_n))))) ?_
                    exact keyz0
                  · rw [if_pos h8] at hr
                    refine mV_push f9_pages_54 ?_
                    refine mV_goto f9_pages_55 ?_
                    have hr := Option.some.inj hr; subst hr
                    refine mV_drop (L' := [.ref 0, mX0, mX0, mX0, mX0]) (mSub_k (mSub_x (mSub_x (mSub_x (mSub_x mSub_n))))) ?_
                    exact keyz0
                · rw [if_neg h7] at hr
                  refine mV_push f9_pages_44 ?_
                  have hr := Option.some.inj hr; subst hr
                  exact mV_iret rfl rfl f9_pages_45 hQ
theorem c9_pages (X : Nat × (Nat → Int32)) (I : mI) (s : Nat) (x0 : Int32) (x1 : Int32) (x2 : Int32) (x3 : Int32) {res : Int32} (hr : r9_pages x0 x1 x2 x3 = some res) : mC X m9_pages 1 0 0 [.ref 0, .int x0, .int x1, .int x2, .int x3] NN KK I (PP s) (mRet (some (.int res)) NN KK I (PP s)) :=
  mC_of (L0 := [.ref 0, .int x0, .int x1, .int x2, .int x3]) rfl (Nat.le_of_ble_eq_true rfl) (w9_pages X I s x0 x1 x2 x3 _ hr (mRet_ok _ _ _ _ _))
def l7_worthOfAll_4 (I : mI) (a : Nat) : Nat → Int32 → Int32 → Option (Int32)
  | 0, _, _ => none
  | f + 1, y1, y2 => if (8 : Int32) ≤ (y2 : Int32) then some y1 else (mLd I (a + 4) 8 y2).bind fun z0 => l7_worthOfAll_4 I a f (y1 ^^^ (mRm z0 3)) (y2 + 1)
def r7_worthOfAll (I : mI) (a : Nat) : Option (Int32) := (l7_worthOfAll_4 I a FU 0 0).bind fun z0 => some z0
set_option maxHeartbeats 4000000 in
set_option maxRecDepth 100000 in
theorem t7_worthOfAll_4 (X : Nat × (Nat → Int32)) (Q : mQ) (s : Nat) (I : mI) (a : Nat) (ha : mStg a) : ∀ (f : Nat) (y1 : Int32) (y2 : Int32) (z : Int32), l7_worthOfAll_4 I a f y1 y2 = some z → mV X m7_worthOfAll 0 0 0 27 [.ref a, .int z, mX0] [] NN KK I (PP s) Q → mV X m7_worthOfAll 0 0 0 4 [.ref a, .int y1, .int y2] [] NN KK I (PP s) Q := by
  intro f
  induction f with
  | zero => intro y1 y2 z hr hk; cases hr
  | succ f ih =>
    intro y1 y2 z hr hk
    unfold l7_worthOfAll_4 at hr
    refine mV_iload f7_worthOfAll_4 rfl ?_
    refine mV_push f7_worthOfAll_5 ?_
    refine mV_icmp_ge f7_worthOfAll_7 (fun h0 => ?_) (fun h0 => ?_)
    · rw [if_pos h0] at hr
      have hr := Option.some.inj hr; subst hr
      refine mV_drop (L' := [.ref a, .int y1, mX0]) (mSub_k (mSub_k (mSub_x mSub_n))) ?_
      exact hk
    · rw [if_neg h0] at hr
      refine mV_iload f7_worthOfAll_10 rfl ?_
      refine mV_aload f7_worthOfAll_11 rfl ?_
      refine mV_getP f7_worthOfAll_12 ha.l0 ha.1.2.1 rfl (ha.p3 _) ?_
      refine mV_iload f7_worthOfAll_15 rfl ?_
      obtain ⟨z0, hz0, hr⟩ := mBind hr
      refine mV_ldO f7_worthOfAll_16 (ha.l (by decide)) ha.1.2.2.2.2.2 hz0 ?_
      refine mV_push f7_worthOfAll_17 ?_
      refine mV_remC f7_worthOfAll_18 (by decide) ?_
      refine mV_ixor f7_worthOfAll_19 ?_
      refine mV_istore (L' := [.ref a, .int (y1 ^^^ (mRm z0 3)), .int y2]) f7_worthOfAll_20 (by decide) rfl rfl ?_
      refine mV_iinc (y := (y2 + 1)) (L' := [.ref a, .int (y1 ^^^ (mRm z0 3)), .int (y2 + 1)]) f7_worthOfAll_21 rfl rfl (by decide) rfl rfl ?_
      refine mV_goto f7_worthOfAll_24 ?_
      exact ih (y1 ^^^ (mRm z0 3)) (y2 + 1) _ hr hk
set_option maxHeartbeats 4000000 in
set_option maxRecDepth 100000 in
theorem w7_worthOfAll (X : Nat × (Nat → Int32)) (I : mI) (s : Nat) (a : Nat) (ha : mStg a) (Q : mQ) {res : Int32} (hr : r7_worthOfAll I a = some res) (hQ : Q (some (.int res)) NN KK I (PP s)) : mV X m7_worthOfAll 0 0 0 0 [.ref a, mX0, mX0] [] NN KK I (PP s) Q := by
  unfold r7_worthOfAll at hr
  refine mV_push f7_worthOfAll_0 ?_
  refine mV_istore (L' := [.ref a, .int 0, mX0]) f7_worthOfAll_1 (by decide) rfl rfl ?_
  refine mV_push f7_worthOfAll_2 ?_
  refine mV_istore (L' := [.ref a, .int 0, .int 0]) f7_worthOfAll_3 (by decide) rfl rfl ?_
  obtain ⟨z0, hz0, hr⟩ := mBind hr
  refine t7_worthOfAll_4 X Q s I a ha FU 0 0 _ hz0 ?_
  refine mV_iload f7_worthOfAll_27 rfl ?_
  have hr := Option.some.inj hr; subst hr
  exact mV_iret rfl rfl f7_worthOfAll_28 hQ
theorem c7_worthOfAll (X : Nat × (Nat → Int32)) (I : mI) (s : Nat) (a : Nat) (ha : mStg a) {res : Int32} (hr : r7_worthOfAll I a = some res) : mC X m7_worthOfAll 0 0 0 [.ref a] NN KK I (PP s) (mRet (some (.int res)) NN KK I (PP s)) :=
  mC_of (L0 := [.ref a, mX0, mX0]) rfl (Nat.le_of_ble_eq_true rfl) (w7_worthOfAll X I s a ha _ hr (mRet_ok _ _ _ _ _))
def l7_goodTake_28 (I : mI) (a : Nat) (k1 : Int32) (k2 : Int32) : Nat → Int32 → Option ((Int32) ⊕ (Unit))
  | 0, _ => none
  | f + 1, y3 => if (4 : Int32) < (y3 : Int32) then some (.inr ()) else (mLd I (a + 4) 8 k1).bind fun z0 => if (z0 : Int32) < (y3 : Int32) then l7_goodTake_28 I a k1 k2 f (y3 * 2) else (mLd I (a + 4) 8 k1).bind fun z1 => if ((mRm (z1 - y3) 3) : Int32) = (k2 : Int32) then some (.inl y3) else l7_goodTake_28 I a k1 k2 f (y3 * 2)
def r7_goodTake (I : mI) (a : Nat) (x0 : Int32) : Option (Int32) := if (x0 : Int32) < (0 : Int32) then some (-1) else if (x0 : Int32) < (8 : Int32) then (r7_worthOfAll I a).bind fun z0 => (mLd I (a + 4) 8 x0).bind fun z1 => (l7_goodTake_28 I a x0 (z0 ^^^ (mRm z1 3)) FU 1).bind fun z2 => match z2 with | .inl rz2 => some rz2 | .inr wz2 => some (-1) else some (-1)
set_option maxHeartbeats 4000000 in
set_option maxRecDepth 100000 in
theorem t7_goodTake_28 (X : Nat × (Nat → Int32)) (Q : mQ) (s : Nat) (I : mI) (a : Nat) (ha : mStg a) (k1 : Int32) (k2 : Int32) : ∀ (f : Nat) (y3 : Int32) (z : (Int32) ⊕ (Unit)), l7_goodTake_28 I a k1 k2 f y3 = some z → (∀ res, z = .inl res → Q (some (.int res)) NN KK I (PP s)) → (∀ w, z = .inr w → mV X m7_goodTake 1 0 0 66 [.ref a, .int k1, .int k2, mX0] [] NN KK I (PP s) Q) → mV X m7_goodTake 1 0 0 28 [.ref a, .int k1, .int k2, .int y3] [] NN KK I (PP s) Q := by
  intro f
  induction f with
  | zero => intro y3 z hr hret hk; cases hr
  | succ f ih =>
    intro y3 z hr hret hk
    unfold l7_goodTake_28 at hr
    refine mV_iload f7_goodTake_28 rfl ?_
    refine mV_push f7_goodTake_29 ?_
    refine mV_icmp_gt f7_goodTake_30 (fun h0 => ?_) (fun h0 => ?_)
    · rw [if_pos h0] at hr
      have hr := Option.some.inj hr; subst hr
      refine mV_drop (L' := [.ref a, .int k1, .int k2, mX0]) (mSub_k (mSub_k (mSub_k (mSub_x mSub_n)))) ?_
      exact hk _ rfl
    · rw [if_neg h0] at hr
      refine mV_iload f7_goodTake_33 rfl ?_
      refine mV_aload f7_goodTake_34 rfl ?_
      refine mV_getP f7_goodTake_35 ha.l0 ha.1.2.1 rfl (ha.p3 _) ?_
      refine mV_iload f7_goodTake_38 rfl ?_
      obtain ⟨z0, hz0, hr⟩ := mBind hr
      refine mV_ldO f7_goodTake_39 (ha.l (by decide)) ha.1.2.2.2.2.2 hz0 ?_
      refine mV_icmp_gt f7_goodTake_40 (fun h1 => ?_) (fun h1 => ?_)
      · rw [if_pos h1] at hr
        refine mV_iload f7_goodTake_59 rfl ?_
        refine mV_push f7_goodTake_60 ?_
        refine mV_imul f7_goodTake_61 ?_
        refine mV_istore (L' := [.ref a, .int k1, .int k2, .int (y3 * 2)]) f7_goodTake_62 (by decide) rfl rfl ?_
        refine mV_goto f7_goodTake_63 ?_
        exact ih (y3 * 2) _ hr hret hk
      · rw [if_neg h1] at hr
        refine mV_aload f7_goodTake_43 rfl ?_
        refine mV_getP f7_goodTake_44 ha.l0 ha.1.2.1 rfl (ha.p3 _) ?_
        refine mV_iload f7_goodTake_47 rfl ?_
        obtain ⟨z1, hz1, hr⟩ := mBind hr
        refine mV_ldO f7_goodTake_48 (ha.l (by decide)) ha.1.2.2.2.2.2 hz1 ?_
        refine mV_iload f7_goodTake_49 rfl ?_
        refine mV_isub f7_goodTake_50 ?_
        refine mV_push f7_goodTake_51 ?_
        refine mV_remC f7_goodTake_52 (by decide) ?_
        refine mV_iload f7_goodTake_53 rfl ?_
        refine mV_icmp_ne f7_goodTake_54 (fun h2 => ?_) (fun h2 => ?_)
        · rw [if_neg h2] at hr
          refine mV_iload f7_goodTake_59 rfl ?_
          refine mV_push f7_goodTake_60 ?_
          refine mV_imul f7_goodTake_61 ?_
          refine mV_istore (L' := [.ref a, .int k1, .int k2, .int (y3 * 2)]) f7_goodTake_62 (by decide) rfl rfl ?_
          refine mV_goto f7_goodTake_63 ?_
          exact ih (y3 * 2) _ hr hret hk
        · rw [if_pos h2] at hr
          refine mV_iload f7_goodTake_57 rfl ?_
          have hr := Option.some.inj hr; subst hr; have hQ := hret _ rfl
          exact mV_iret rfl rfl f7_goodTake_58 hQ
set_option maxHeartbeats 4000000 in
set_option maxRecDepth 100000 in
theorem w7_goodTake (X : Nat × (Nat → Int32)) (I : mI) (s : Nat) (a : Nat) (ha : mStg a) (x0 : Int32) (Q : mQ) {res : Int32} (hr : r7_goodTake I a x0 = some res) (hQ : Q (some (.int res)) NN KK I (PP s)) : mV X m7_goodTake 1 0 0 0 [.ref a, .int x0, mX0, mX0] [] NN KK I (PP s) Q := by
  unfold r7_goodTake at hr
  refine mV_iload f7_goodTake_0 rfl ?_
  refine mV_if_lt f7_goodTake_1 (fun h0 => ?_) (fun h0 => ?_)
  · rw [if_pos h0] at hr
    refine mV_push f7_goodTake_10 ?_
    have hr := Option.some.inj hr; subst hr
    exact mV_iret rfl rfl f7_goodTake_11 hQ
  · rw [if_neg h0] at hr
    refine mV_iload f7_goodTake_4 rfl ?_
    refine mV_push f7_goodTake_5 ?_
    refine mV_icmp_lt f7_goodTake_7 (fun h1 => ?_) (fun h1 => ?_)
    · rw [if_pos h1] at hr
      refine mV_aload f7_goodTake_12 rfl ?_
      obtain ⟨z0, hz0, hr⟩ := mBind hr
      refine mV_cV f7_goodTake_13 tg_m7_worthOfAll mCls7 ha.l0 ha.1.2.1 (mC_deep (c7_worthOfAll X I s a ha hz0) (by decide)) rfl rfl (Nat.le_of_ble_eq_true rfl) ?_
      refine mV_aload f7_goodTake_16 rfl ?_
      refine mV_getP f7_goodTake_17 ha.l0 ha.1.2.1 rfl (ha.p3 _) ?_
      refine mV_iload f7_goodTake_20 rfl ?_
      obtain ⟨z1, hz1, hr⟩ := mBind hr
      refine mV_ldO f7_goodTake_21 (ha.l (by decide)) ha.1.2.2.2.2.2 hz1 ?_
      refine mV_push f7_goodTake_22 ?_
      refine mV_remC f7_goodTake_23 (by decide) ?_
      refine mV_ixor f7_goodTake_24 ?_
      refine mV_istore (L' := [.ref a, .int x0, .int (z0 ^^^ (mRm z1 3)), mX0]) f7_goodTake_25 (by decide) rfl rfl ?_
      refine mV_push f7_goodTake_26 ?_
      refine mV_istore (L' := [.ref a, .int x0, .int (z0 ^^^ (mRm z1 3)), .int 1]) f7_goodTake_27 (by decide) rfl rfl ?_
      obtain ⟨z2, hz2, hr⟩ := mBind hr
      refine t7_goodTake_28 X Q s I a ha x0 (z0 ^^^ (mRm z1 3)) FU 1 _ hz2 (fun res ez2 => ?_) (fun wz2 ez2 => ?_)
      · rw [ez2] at hr; have hr := Option.some.inj hr; subst hr; exact hQ
      rw [ez2] at hr
      dsimp only at hr
      refine mV_push f7_goodTake_66 ?_
      have hr := Option.some.inj hr; subst hr
      exact mV_iret rfl rfl f7_goodTake_67 hQ
    · rw [if_neg h1] at hr
      refine mV_push f7_goodTake_10 ?_
      have hr := Option.some.inj hr; subst hr
      exact mV_iret rfl rfl f7_goodTake_11 hQ
theorem c7_goodTake (X : Nat × (Nat → Int32)) (I : mI) (s : Nat) (a : Nat) (ha : mStg a) (x0 : Int32) {res : Int32} (hr : r7_goodTake I a x0 = some res) : mC X m7_goodTake 1 0 0 [.ref a, .int x0] NN KK I (PP s) (mRet (some (.int res)) NN KK I (PP s)) :=
  mC_of (L0 := [.ref a, .int x0, mX0, mX0]) rfl (Nat.le_of_ble_eq_true rfl) (w7_goodTake X I s a ha x0 _ hr (mRet_ok _ _ _ _ _))
def l7_goodString_11 (I : mI) (a : Nat) : Nat → Int32 → Option ((Int32) ⊕ (Unit))
  | 0, _ => none
  | f + 1, y1 => if (8 : Int32) ≤ (y1 : Int32) then some (.inr ()) else (r7_goodTake I a y1).bind fun z0 => if (z0 : Int32) = ((-1) : Int32) then l7_goodString_11 I a f (y1 + 1) else some (.inl y1)
def r7_goodString (I : mI) (a : Nat) : Option (Int32) := (r7_worthOfAll I a).bind fun z0 => if (z0 : Int32) = (0 : Int32) then some (-1) else (l7_goodString_11 I a FU 0).bind fun z1 => match z1 with | .inl rz1 => some rz1 | .inr wz1 => some (-1)
set_option maxHeartbeats 4000000 in
set_option maxRecDepth 100000 in
theorem t7_goodString_11 (X : Nat × (Nat → Int32)) (Q : mQ) (s : Nat) (I : mI) (a : Nat) (ha : mStg a) : ∀ (f : Nat) (y1 : Int32) (z : (Int32) ⊕ (Unit)), l7_goodString_11 I a f y1 = some z → (∀ res, z = .inl res → Q (some (.int res)) NN KK I (PP s)) → (∀ w, z = .inr w → mV X m7_goodString 2 0 0 34 [.ref a, mX0] [] NN KK I (PP s) Q) → mV X m7_goodString 2 0 0 11 [.ref a, .int y1] [] NN KK I (PP s) Q := by
  intro f
  induction f with
  | zero => intro y1 z hr hret hk; cases hr
  | succ f ih =>
    intro y1 z hr hret hk
    unfold l7_goodString_11 at hr
    refine mV_iload f7_goodString_11 rfl ?_
    refine mV_push f7_goodString_12 ?_
    refine mV_icmp_ge f7_goodString_14 (fun h0 => ?_) (fun h0 => ?_)
    · rw [if_pos h0] at hr
      have hr := Option.some.inj hr; subst hr
      refine mV_drop (L' := [.ref a, mX0]) (mSub_k (mSub_x mSub_n)) ?_
      exact hk _ rfl
    · rw [if_neg h0] at hr
      refine mV_aload f7_goodString_17 rfl ?_
      refine mV_iload f7_goodString_18 rfl ?_
      obtain ⟨z0, hz0, hr⟩ := mBind hr
      refine mV_cV f7_goodString_19 tg_m7_goodTake mCls7 ha.l0 ha.1.2.1 (mC_deep (c7_goodTake X I s a ha y1 hz0) (by decide)) rfl rfl (Nat.le_of_ble_eq_true rfl) ?_
      refine mV_push f7_goodString_22 ?_
      refine mV_icmp_eq f7_goodString_23 (fun h1 => ?_) (fun h1 => ?_)
      · rw [if_pos h1] at hr
        refine mV_iinc (y := (y1 + 1)) (L' := [.ref a, .int (y1 + 1)]) f7_goodString_28 rfl rfl (by decide) rfl rfl ?_
        refine mV_goto f7_goodString_31 ?_
        exact ih (y1 + 1) _ hr hret hk
      · rw [if_neg h1] at hr
        refine mV_iload f7_goodString_26 rfl ?_
        have hr := Option.some.inj hr; subst hr; have hQ := hret _ rfl
        exact mV_iret rfl rfl f7_goodString_27 hQ
set_option maxHeartbeats 4000000 in
set_option maxRecDepth 100000 in
theorem w7_goodString (X : Nat × (Nat → Int32)) (I : mI) (s : Nat) (a : Nat) (ha : mStg a) (Q : mQ) {res : Int32} (hr : r7_goodString I a = some res) (hQ : Q (some (.int res)) NN KK I (PP s)) : mV X m7_goodString 2 0 0 0 [.ref a, mX0] [] NN KK I (PP s) Q := by
  unfold r7_goodString at hr
  refine mV_aload f7_goodString_0 rfl ?_
  obtain ⟨z0, hz0, hr⟩ := mBind hr
  refine mV_cV f7_goodString_1 tg_m7_worthOfAll mCls7 ha.l0 ha.1.2.1 (mC_deep (c7_worthOfAll X I s a ha hz0) (by decide)) rfl rfl (Nat.le_of_ble_eq_true rfl) ?_
  refine mV_if_ne f7_goodString_4 (fun h0 => ?_) (fun h0 => ?_)
  · rw [if_neg h0] at hr
    refine mV_push f7_goodString_9 ?_
    refine mV_istore (L' := [.ref a, .int 0]) f7_goodString_10 (by decide) rfl rfl ?_
    obtain ⟨z1, hz1, hr⟩ := mBind hr
    refine t7_goodString_11 X Q s I a ha FU 0 _ hz1 (fun res ez1 => ?_) (fun wz1 ez1 => ?_)
    · rw [ez1] at hr; have hr := Option.some.inj hr; subst hr; exact hQ
    rw [ez1] at hr
    dsimp only at hr
    refine mV_push f7_goodString_34 ?_
    have hr := Option.some.inj hr; subst hr
    exact mV_iret rfl rfl f7_goodString_35 hQ
  · rw [if_pos h0] at hr
    refine mV_push f7_goodString_7 ?_
    have hr := Option.some.inj hr; subst hr
    exact mV_iret rfl rfl f7_goodString_8 hQ
theorem c7_goodString (X : Nat × (Nat → Int32)) (I : mI) (s : Nat) (a : Nat) (ha : mStg a) {res : Int32} (hr : r7_goodString I a = some res) : mC X m7_goodString 2 0 0 [.ref a] NN KK I (PP s) (mRet (some (.int res)) NN KK I (PP s)) :=
  mC_of (L0 := [.ref a, mX0]) rfl (Nat.le_of_ble_eq_true rfl) (w7_goodString X I s a ha _ hr (mRet_ok _ _ _ _ _))
def r9_game (I : mI) (x0 : Int32) : Option (Int32) := (r7_goodString I 3).bind fun z0 => if (z0 : Int32) = ((-1) : Int32) then some (-1) else if (x0 : Int32) < (0 : Int32) then some (-1) else if (x0 : Int32) ≤ (1 : Int32) then (if (x0 : Int32) = (0 : Int32) then some z0 else (r7_goodTake I 3 z0).bind fun z2 => some z2 : Option (Int32)).bind fun z1 => some z1 else some (-1)
set_option maxHeartbeats 4000000 in
set_option maxRecDepth 100000 in
theorem w9_game (X : Nat × (Nat → Int32)) (I : mI) (s : Nat) (x0 : Int32) (Q : mQ) {res : Int32} (hr : r9_game I x0 = some res) (hQ : Q (some (.int res)) NN KK I (PP s)) : mV X m9_game 3 0 0 0 [.ref 0, .int x0, mX0] [] NN KK I (PP s) Q := by
  unfold r9_game at hr
  refine mV_aload f9_game_0 rfl ?_
  refine mV_getP f9_game_1 (by decide) kk_0 rfl (pp_0_1 _) ?_
  refine mV_getP f9_game_4 (by decide) kk_2 rfl (pp_2_0 _) ?_
  obtain ⟨z0, hz0, hr⟩ := mBind hr
  refine mV_cV f9_game_7 tg_m7_goodString mCls7 (by decide) kk_3 (mC_deep (c7_goodString X I s 3 mStg_3 hz0) (by decide)) rfl rfl (Nat.le_of_ble_eq_true rfl) ?_
  refine mV_istore (L' := [.ref 0, .int x0, .int z0]) f9_game_10 (by decide) rfl rfl ?_
  refine mV_iload f9_game_11 rfl ?_
  refine mV_push f9_game_12 ?_
  refine mV_icmp_eq f9_game_13 (fun h0 => ?_) (fun h0 => ?_)
  · rw [if_pos h0] at hr
    refine mV_push f9_game_25 ?_
    have hr := Option.some.inj hr; subst hr
    exact mV_iret rfl rfl f9_game_26 hQ
  · rw [if_neg h0] at hr
    refine mV_iload f9_game_16 rfl ?_
    refine mV_if_lt f9_game_17 (fun h1 => ?_) (fun h1 => ?_)
    · rw [if_pos h1] at hr
      refine mV_push f9_game_25 ?_
      have hr := Option.some.inj hr; subst hr
      exact mV_iret rfl rfl f9_game_26 hQ
    · rw [if_neg h1] at hr
      refine mV_iload f9_game_20 rfl ?_
      refine mV_push f9_game_21 ?_
      refine mV_icmp_le f9_game_22 (fun h2 => ?_) (fun h2 => ?_)
      · rw [if_pos h2] at hr
        refine mV_iload f9_game_27 rfl ?_
        obtain ⟨z1, hz1, hr⟩ := mBind hr
        have keyz1 : mV X m9_game 3 0 0 46 [.ref 0, mX0, mX0] [.int z1] NN KK I (PP s) Q := by
          have hr := Option.some.inj hr; subst hr
          exact mV_iret rfl rfl f9_game_46 hQ
        clear hr
        have hr := hz1
        clear hz1
        refine mV_if_ne f9_game_28 (fun h3 => ?_) (fun h3 => ?_)
        · rw [if_neg h3] at hr
          refine mV_aload f9_game_35 rfl ?_
          refine mV_getP f9_game_36 (by decide) kk_0 rfl (pp_0_1 _) ?_
          refine mV_getP f9_game_39 (by decide) kk_2 rfl (pp_2_0 _) ?_
          refine mV_iload f9_game_42 rfl ?_
          obtain ⟨z2, hz2, hr⟩ := mBind hr
          refine mV_cV f9_game_43 tg_m7_goodTake mCls7 (by decide) kk_3 (mC_deep (c7_goodTake X I s 3 mStg_3 z0 hz2) (by decide)) rfl rfl (Nat.le_of_ble_eq_true rfl) ?_
          have hr := Option.some.inj hr; subst hr
          refine mV_drop (L' := [.ref 0, mX0, mX0]) (mSub_k (mSub_x (mSub_x mSub_n))) ?_
          exact keyz1
        · rw [if_pos h3] at hr
          refine mV_iload f9_game_31 rfl ?_
          refine mV_goto f9_game_32 ?_
          have hr := Option.some.inj hr; subst hr
          refine mV_drop (L' := [.ref 0, mX0, mX0]) (mSub_k (mSub_x (mSub_x mSub_n))) ?_
          exact keyz1
      · rw [if_neg h2] at hr
        refine mV_push f9_game_25 ?_
        have hr := Option.some.inj hr; subst hr
        exact mV_iret rfl rfl f9_game_26 hQ
theorem c9_game (X : Nat × (Nat → Int32)) (I : mI) (s : Nat) (x0 : Int32) {res : Int32} (hr : r9_game I x0 = some res) : mC X m9_game 3 0 0 [.ref 0, .int x0] NN KK I (PP s) (mRet (some (.int res)) NN KK I (PP s)) :=
  mC_of (L0 := [.ref 0, .int x0, mX0]) rfl (Nat.le_of_ble_eq_true rfl) (w9_game X I s x0 _ hr (mRet_ok _ _ _ _ _))
def r0_copyFrom_50_8 (I : mI) : Option (mI) := (mCpO I 9 12 51 12 0 0 12).bind fun z0 => (mCpO z0 10 12 52 12 0 0 12).bind fun z1 => (mCpO z1 11 12 53 12 0 0 12).bind fun z2 => (mCpO z2 12 6 54 6 0 0 6).bind fun z3 => (mCpO z3 13 6 55 6 0 0 6).bind fun z4 => some (mW (mW z4 50 6 (z4 8 6)) 50 7 (z4 8 7))
set_option maxHeartbeats 4000000 in
set_option maxRecDepth 100000 in
theorem w0_copyFrom_50_8 (X : Nat × (Nat → Int32)) (I : mI) (s : Nat) (Q : mQ) {res : mI} (hr : r0_copyFrom_50_8 I = some res) (hQ : Q none NN KK res (PP s)) : mV X m0_copyFrom 1 0 0 0 [.ref 50, .ref 8] [] NN KK I (PP s) Q := by
  unfold r0_copyFrom_50_8 at hr
  refine mV_aload f0_copyFrom_0 rfl ?_
  refine mV_getP f0_copyFrom_1 (by decide) kk_8 rfl (pp_8_0 _) ?_
  refine mV_push f0_copyFrom_4 ?_
  refine mV_aload f0_copyFrom_5 rfl ?_
  refine mV_getP f0_copyFrom_6 (by decide) kk_50 rfl (pp_50_0 _) ?_
  refine mV_push f0_copyFrom_9 ?_
  refine mV_push f0_copyFrom_10 ?_
  obtain ⟨z0, hz0, hr⟩ := mBind hr
  refine mV_cpO f0_copyFrom_12 (by decide) (by decide) kk_9 kk_51 hz0 (Nat.le_of_ble_eq_true rfl) ?_
  refine mV_aload f0_copyFrom_15 rfl ?_
  refine mV_getP f0_copyFrom_16 (by decide) kk_8 rfl (pp_8_1 _) ?_
  refine mV_push f0_copyFrom_19 ?_
  refine mV_aload f0_copyFrom_20 rfl ?_
  refine mV_getP f0_copyFrom_21 (by decide) kk_50 rfl (pp_50_1 _) ?_
  refine mV_push f0_copyFrom_24 ?_
  refine mV_push f0_copyFrom_25 ?_
  obtain ⟨z1, hz1, hr⟩ := mBind hr
  refine mV_cpO f0_copyFrom_27 (by decide) (by decide) kk_10 kk_52 hz1 (Nat.le_of_ble_eq_true rfl) ?_
  refine mV_aload f0_copyFrom_30 rfl ?_
  refine mV_getP f0_copyFrom_31 (by decide) kk_8 rfl (pp_8_2 _) ?_
  refine mV_push f0_copyFrom_34 ?_
  refine mV_aload f0_copyFrom_35 rfl ?_
  refine mV_getP f0_copyFrom_36 (by decide) kk_50 rfl (pp_50_2 _) ?_
  refine mV_push f0_copyFrom_39 ?_
  refine mV_push f0_copyFrom_40 ?_
  obtain ⟨z2, hz2, hr⟩ := mBind hr
  refine mV_cpO f0_copyFrom_42 (by decide) (by decide) kk_11 kk_53 hz2 (Nat.le_of_ble_eq_true rfl) ?_
  refine mV_aload f0_copyFrom_45 rfl ?_
  refine mV_getP f0_copyFrom_46 (by decide) kk_8 rfl (pp_8_3 _) ?_
  refine mV_push f0_copyFrom_49 ?_
  refine mV_aload f0_copyFrom_50 rfl ?_
  refine mV_getP f0_copyFrom_51 (by decide) kk_50 rfl (pp_50_3 _) ?_
  refine mV_push f0_copyFrom_54 ?_
  refine mV_push f0_copyFrom_55 ?_
  obtain ⟨z3, hz3, hr⟩ := mBind hr
  refine mV_cpO f0_copyFrom_57 (by decide) (by decide) kk_12 kk_54 hz3 (Nat.le_of_ble_eq_true rfl) ?_
  refine mV_aload f0_copyFrom_60 rfl ?_
  refine mV_getP f0_copyFrom_61 (by decide) kk_8 rfl (pp_8_4 _) ?_
  refine mV_push f0_copyFrom_64 ?_
  refine mV_aload f0_copyFrom_65 rfl ?_
  refine mV_getP f0_copyFrom_66 (by decide) kk_50 rfl (pp_50_4 _) ?_
  refine mV_push f0_copyFrom_69 ?_
  refine mV_push f0_copyFrom_70 ?_
  obtain ⟨z4, hz4, hr⟩ := mBind hr
  refine mV_cpO f0_copyFrom_72 (by decide) (by decide) kk_13 kk_55 hz4 (Nat.le_of_ble_eq_true rfl) ?_
  refine mV_aload f0_copyFrom_75 rfl ?_
  refine mV_aload f0_copyFrom_76 rfl ?_
  refine mV_gI (z4 8 6) f0_copyFrom_77 (by decide) kk_8 rfl rfl ?_
  refine mV_putI f0_copyFrom_80 (by decide) kk_50 rfl rfl ?_
  refine mV_aload f0_copyFrom_83 rfl ?_
  refine mV_aload f0_copyFrom_84 rfl ?_
  refine mV_gI (z4 8 7) f0_copyFrom_85 (by decide) kk_8 rfl rfl ?_
  refine mV_putI f0_copyFrom_88 (by decide) kk_50 rfl rfl ?_
  have hr := Option.some.inj hr; subst hr
  exact mV_vret rfl f0_copyFrom_91 hQ
theorem c0_copyFrom_50_8 (X : Nat × (Nat → Int32)) (I : mI) (s : Nat) {res : mI} (hr : r0_copyFrom_50_8 I = some res) : mC X m0_copyFrom 1 0 0 [.ref 50, .ref 8] NN KK I (PP s) (mRet none NN KK res (PP s)) :=
  mC_of (L0 := [.ref 50, .ref 8]) rfl (Nat.le_of_ble_eq_true rfl) (w0_copyFrom_50_8 X I s _ hr (mRet_ok _ _ _ _ _))
def r6_copyFrom_57_15 (I : mI) : Option (mI) := (mCpO I 16 144 58 144 0 0 144).bind fun z0 => (mCpO (mW z0 57 3 (mMin (mMin (z0 15 3) 400) 400)) 17 400 59 400 0 0 (mMin (mMin (z0 15 3) 400) 400)).bind fun z1 => some (mW z1 57 2 (z1 15 2))
set_option maxHeartbeats 4000000 in
set_option maxRecDepth 100000 in
theorem w6_copyFrom_57_15 (X : Nat × (Nat → Int32)) (I : mI) (s : Nat) (Q : mQ) {res : mI} (hr : r6_copyFrom_57_15 I = some res) (hQ : Q none NN KK res (PP s)) : mV X m6_copyFrom 1 0 0 0 [.ref 57, .ref 15] [] NN KK I (PP s) Q := by
  unfold r6_copyFrom_57_15 at hr
  refine mV_aload f6_copyFrom_0 rfl ?_
  refine mV_getP f6_copyFrom_1 (by decide) kk_15 rfl (pp_15_0 _) ?_
  refine mV_push f6_copyFrom_4 ?_
  refine mV_aload f6_copyFrom_5 rfl ?_
  refine mV_getP f6_copyFrom_6 (by decide) kk_57 rfl (pp_57_0 _) ?_
  refine mV_push f6_copyFrom_9 ?_
  refine mV_aload f6_copyFrom_10 rfl ?_
  refine mV_getP f6_copyFrom_11 (by decide) kk_57 rfl (pp_57_0 _) ?_
  refine mV_alen f6_copyFrom_14 (by decide) kk_58 ?_
  refine mV_as 144 (by decide) ?_
  obtain ⟨z0, hz0, hr⟩ := mBind hr
  refine mV_cpO f6_copyFrom_15 (by decide) (by decide) kk_16 kk_58 hz0 (Nat.le_of_ble_eq_true rfl) ?_
  refine mV_aload f6_copyFrom_18 rfl ?_
  refine mV_aload f6_copyFrom_19 rfl ?_
  refine mV_gI (z0 15 3) f6_copyFrom_20 (by decide) kk_15 rfl rfl ?_
  refine mV_aload f6_copyFrom_23 rfl ?_
  refine mV_getP f6_copyFrom_24 (by decide) kk_15 rfl (pp_15_1 _) ?_
  refine mV_alen f6_copyFrom_27 (by decide) kk_17 ?_
  refine mV_as 400 (by decide) ?_
  refine mV_minC fm6_copyFrom_28 (Nat.le_of_ble_eq_true rfl) ?_
  refine mV_aload f6_copyFrom_31 rfl ?_
  refine mV_getP f6_copyFrom_32 (by decide) kk_57 rfl (pp_57_1 _) ?_
  refine mV_alen f6_copyFrom_35 (by decide) kk_59 ?_
  refine mV_as 400 (by decide) ?_
  refine mV_minC fm6_copyFrom_36 (Nat.le_of_ble_eq_true rfl) ?_
  refine mV_putI f6_copyFrom_39 (by decide) kk_57 rfl rfl ?_
  refine mV_aload f6_copyFrom_42 rfl ?_
  refine mV_getP f6_copyFrom_43 (by decide) kk_15 rfl (pp_15_1 _) ?_
  refine mV_push f6_copyFrom_46 ?_
  refine mV_aload f6_copyFrom_47 rfl ?_
  refine mV_getP f6_copyFrom_48 (by decide) kk_57 rfl (pp_57_1 _) ?_
  refine mV_push f6_copyFrom_51 ?_
  refine mV_aload f6_copyFrom_52 rfl ?_
  refine mV_gI (mMin (mMin (z0 15 3) 400) 400) f6_copyFrom_53 (by decide) kk_57 rfl rfl ?_
  obtain ⟨z1, hz1, hr⟩ := mBind hr
  refine mV_cpO f6_copyFrom_56 (by decide) (by decide) kk_17 kk_59 hz1 (Nat.le_of_ble_eq_true rfl) ?_
  refine mV_aload f6_copyFrom_59 rfl ?_
  refine mV_aload f6_copyFrom_60 rfl ?_
  refine mV_gI (z1 15 2) f6_copyFrom_61 (by decide) kk_15 rfl rfl ?_
  refine mV_putI f6_copyFrom_64 (by decide) kk_57 rfl rfl ?_
  have hr := Option.some.inj hr; subst hr
  exact mV_vret rfl f6_copyFrom_67 hQ
theorem c6_copyFrom_57_15 (X : Nat × (Nat → Int32)) (I : mI) (s : Nat) {res : mI} (hr : r6_copyFrom_57_15 I = some res) : mC X m6_copyFrom 1 0 0 [.ref 57, .ref 15] NN KK I (PP s) (mRet none NN KK res (PP s)) :=
  mC_of (L0 := [.ref 57, .ref 15]) rfl (Nat.le_of_ble_eq_true rfl) (w6_copyFrom_57_15 X I s _ hr (mRet_ok _ _ _ _ _))
def r6_copyFrom_60_18 (I : mI) : Option (mI) := (mCpO I 19 144 61 144 0 0 144).bind fun z0 => (mCpO (mW z0 60 3 (mMin (mMin (z0 18 3) 0) 0)) 20 0 62 0 0 0 (mMin (mMin (z0 18 3) 0) 0)).bind fun z1 => some (mW z1 60 2 (z1 18 2))
set_option maxHeartbeats 4000000 in
set_option maxRecDepth 100000 in
theorem w6_copyFrom_60_18 (X : Nat × (Nat → Int32)) (I : mI) (s : Nat) (Q : mQ) {res : mI} (hr : r6_copyFrom_60_18 I = some res) (hQ : Q none NN KK res (PP s)) : mV X m6_copyFrom 1 0 0 0 [.ref 60, .ref 18] [] NN KK I (PP s) Q := by
  unfold r6_copyFrom_60_18 at hr
  refine mV_aload f6_copyFrom_0 rfl ?_
  refine mV_getP f6_copyFrom_1 (by decide) kk_18 rfl (pp_18_0 _) ?_
  refine mV_push f6_copyFrom_4 ?_
  refine mV_aload f6_copyFrom_5 rfl ?_
  refine mV_getP f6_copyFrom_6 (by decide) kk_60 rfl (pp_60_0 _) ?_
  refine mV_push f6_copyFrom_9 ?_
  refine mV_aload f6_copyFrom_10 rfl ?_
  refine mV_getP f6_copyFrom_11 (by decide) kk_60 rfl (pp_60_0 _) ?_
  refine mV_alen f6_copyFrom_14 (by decide) kk_61 ?_
  refine mV_as 144 (by decide) ?_
  obtain ⟨z0, hz0, hr⟩ := mBind hr
  refine mV_cpO f6_copyFrom_15 (by decide) (by decide) kk_19 kk_61 hz0 (Nat.le_of_ble_eq_true rfl) ?_
  refine mV_aload f6_copyFrom_18 rfl ?_
  refine mV_aload f6_copyFrom_19 rfl ?_
  refine mV_gI (z0 18 3) f6_copyFrom_20 (by decide) kk_18 rfl rfl ?_
  refine mV_aload f6_copyFrom_23 rfl ?_
  refine mV_getP f6_copyFrom_24 (by decide) kk_18 rfl (pp_18_1 _) ?_
  refine mV_alen f6_copyFrom_27 (by decide) kk_20 ?_
  refine mV_as 0 (by decide) ?_
  refine mV_minC fm6_copyFrom_28 (Nat.le_of_ble_eq_true rfl) ?_
  refine mV_aload f6_copyFrom_31 rfl ?_
  refine mV_getP f6_copyFrom_32 (by decide) kk_60 rfl (pp_60_1 _) ?_
  refine mV_alen f6_copyFrom_35 (by decide) kk_62 ?_
  refine mV_as 0 (by decide) ?_
  refine mV_minC fm6_copyFrom_36 (Nat.le_of_ble_eq_true rfl) ?_
  refine mV_putI f6_copyFrom_39 (by decide) kk_60 rfl rfl ?_
  refine mV_aload f6_copyFrom_42 rfl ?_
  refine mV_getP f6_copyFrom_43 (by decide) kk_18 rfl (pp_18_1 _) ?_
  refine mV_push f6_copyFrom_46 ?_
  refine mV_aload f6_copyFrom_47 rfl ?_
  refine mV_getP f6_copyFrom_48 (by decide) kk_60 rfl (pp_60_1 _) ?_
  refine mV_push f6_copyFrom_51 ?_
  refine mV_aload f6_copyFrom_52 rfl ?_
  refine mV_gI (mMin (mMin (z0 18 3) 0) 0) f6_copyFrom_53 (by decide) kk_60 rfl rfl ?_
  obtain ⟨z1, hz1, hr⟩ := mBind hr
  refine mV_cpO f6_copyFrom_56 (by decide) (by decide) kk_20 kk_62 hz1 (Nat.le_of_ble_eq_true rfl) ?_
  refine mV_aload f6_copyFrom_59 rfl ?_
  refine mV_aload f6_copyFrom_60 rfl ?_
  refine mV_gI (z1 18 2) f6_copyFrom_61 (by decide) kk_18 rfl rfl ?_
  refine mV_putI f6_copyFrom_64 (by decide) kk_60 rfl rfl ?_
  have hr := Option.some.inj hr; subst hr
  exact mV_vret rfl f6_copyFrom_67 hQ
theorem c6_copyFrom_60_18 (X : Nat × (Nat → Int32)) (I : mI) (s : Nat) {res : mI} (hr : r6_copyFrom_60_18 I = some res) : mC X m6_copyFrom 1 0 0 [.ref 60, .ref 18] NN KK I (PP s) (mRet none NN KK res (PP s)) :=
  mC_of (L0 := [.ref 60, .ref 18]) rfl (Nat.le_of_ble_eq_true rfl) (w6_copyFrom_60_18 X I s _ hr (mRet_ok _ _ _ _ _))
def r6_copyFrom_63_21 (I : mI) : Option (mI) := (mCpO I 22 144 64 144 0 0 144).bind fun z0 => (mCpO (mW z0 63 3 (mMin (mMin (z0 21 3) 0) 0)) 23 0 65 0 0 0 (mMin (mMin (z0 21 3) 0) 0)).bind fun z1 => some (mW z1 63 2 (z1 21 2))
set_option maxHeartbeats 4000000 in
set_option maxRecDepth 100000 in
theorem w6_copyFrom_63_21 (X : Nat × (Nat → Int32)) (I : mI) (s : Nat) (Q : mQ) {res : mI} (hr : r6_copyFrom_63_21 I = some res) (hQ : Q none NN KK res (PP s)) : mV X m6_copyFrom 1 0 0 0 [.ref 63, .ref 21] [] NN KK I (PP s) Q := by
  unfold r6_copyFrom_63_21 at hr
  refine mV_aload f6_copyFrom_0 rfl ?_
  refine mV_getP f6_copyFrom_1 (by decide) kk_21 rfl (pp_21_0 _) ?_
  refine mV_push f6_copyFrom_4 ?_
  refine mV_aload f6_copyFrom_5 rfl ?_
  refine mV_getP f6_copyFrom_6 (by decide) kk_63 rfl (pp_63_0 _) ?_
  refine mV_push f6_copyFrom_9 ?_
  refine mV_aload f6_copyFrom_10 rfl ?_
  refine mV_getP f6_copyFrom_11 (by decide) kk_63 rfl (pp_63_0 _) ?_
  refine mV_alen f6_copyFrom_14 (by decide) kk_64 ?_
  refine mV_as 144 (by decide) ?_
  obtain ⟨z0, hz0, hr⟩ := mBind hr
  refine mV_cpO f6_copyFrom_15 (by decide) (by decide) kk_22 kk_64 hz0 (Nat.le_of_ble_eq_true rfl) ?_
  refine mV_aload f6_copyFrom_18 rfl ?_
  refine mV_aload f6_copyFrom_19 rfl ?_
  refine mV_gI (z0 21 3) f6_copyFrom_20 (by decide) kk_21 rfl rfl ?_
  refine mV_aload f6_copyFrom_23 rfl ?_
  refine mV_getP f6_copyFrom_24 (by decide) kk_21 rfl (pp_21_1 _) ?_
  refine mV_alen f6_copyFrom_27 (by decide) kk_23 ?_
  refine mV_as 0 (by decide) ?_
  refine mV_minC fm6_copyFrom_28 (Nat.le_of_ble_eq_true rfl) ?_
  refine mV_aload f6_copyFrom_31 rfl ?_
  refine mV_getP f6_copyFrom_32 (by decide) kk_63 rfl (pp_63_1 _) ?_
  refine mV_alen f6_copyFrom_35 (by decide) kk_65 ?_
  refine mV_as 0 (by decide) ?_
  refine mV_minC fm6_copyFrom_36 (Nat.le_of_ble_eq_true rfl) ?_
  refine mV_putI f6_copyFrom_39 (by decide) kk_63 rfl rfl ?_
  refine mV_aload f6_copyFrom_42 rfl ?_
  refine mV_getP f6_copyFrom_43 (by decide) kk_21 rfl (pp_21_1 _) ?_
  refine mV_push f6_copyFrom_46 ?_
  refine mV_aload f6_copyFrom_47 rfl ?_
  refine mV_getP f6_copyFrom_48 (by decide) kk_63 rfl (pp_63_1 _) ?_
  refine mV_push f6_copyFrom_51 ?_
  refine mV_aload f6_copyFrom_52 rfl ?_
  refine mV_gI (mMin (mMin (z0 21 3) 0) 0) f6_copyFrom_53 (by decide) kk_63 rfl rfl ?_
  obtain ⟨z1, hz1, hr⟩ := mBind hr
  refine mV_cpO f6_copyFrom_56 (by decide) (by decide) kk_23 kk_65 hz1 (Nat.le_of_ble_eq_true rfl) ?_
  refine mV_aload f6_copyFrom_59 rfl ?_
  refine mV_aload f6_copyFrom_60 rfl ?_
  refine mV_gI (z1 21 2) f6_copyFrom_61 (by decide) kk_21 rfl rfl ?_
  refine mV_putI f6_copyFrom_64 (by decide) kk_63 rfl rfl ?_
  have hr := Option.some.inj hr; subst hr
  exact mV_vret rfl f6_copyFrom_67 hQ
theorem c6_copyFrom_63_21 (X : Nat × (Nat → Int32)) (I : mI) (s : Nat) {res : mI} (hr : r6_copyFrom_63_21 I = some res) : mC X m6_copyFrom 1 0 0 [.ref 63, .ref 21] NN KK I (PP s) (mRet none NN KK res (PP s)) :=
  mC_of (L0 := [.ref 63, .ref 21]) rfl (Nat.le_of_ble_eq_true rfl) (w6_copyFrom_63_21 X I s _ hr (mRet_ok _ _ _ _ _))
def r6_copyFrom_66_24 (I : mI) : Option (mI) := (mCpO I 25 144 67 144 0 0 144).bind fun z0 => (mCpO (mW z0 66 3 (mMin (mMin (z0 24 3) 0) 0)) 26 0 68 0 0 0 (mMin (mMin (z0 24 3) 0) 0)).bind fun z1 => some (mW z1 66 2 (z1 24 2))
set_option maxHeartbeats 4000000 in
set_option maxRecDepth 100000 in
theorem w6_copyFrom_66_24 (X : Nat × (Nat → Int32)) (I : mI) (s : Nat) (Q : mQ) {res : mI} (hr : r6_copyFrom_66_24 I = some res) (hQ : Q none NN KK res (PP s)) : mV X m6_copyFrom 1 0 0 0 [.ref 66, .ref 24] [] NN KK I (PP s) Q := by
  unfold r6_copyFrom_66_24 at hr
  refine mV_aload f6_copyFrom_0 rfl ?_
  refine mV_getP f6_copyFrom_1 (by decide) kk_24 rfl (pp_24_0 _) ?_
  refine mV_push f6_copyFrom_4 ?_
  refine mV_aload f6_copyFrom_5 rfl ?_
  refine mV_getP f6_copyFrom_6 (by decide) kk_66 rfl (pp_66_0 _) ?_
  refine mV_push f6_copyFrom_9 ?_
  refine mV_aload f6_copyFrom_10 rfl ?_
  refine mV_getP f6_copyFrom_11 (by decide) kk_66 rfl (pp_66_0 _) ?_
  refine mV_alen f6_copyFrom_14 (by decide) kk_67 ?_
  refine mV_as 144 (by decide) ?_
  obtain ⟨z0, hz0, hr⟩ := mBind hr
  refine mV_cpO f6_copyFrom_15 (by decide) (by decide) kk_25 kk_67 hz0 (Nat.le_of_ble_eq_true rfl) ?_
  refine mV_aload f6_copyFrom_18 rfl ?_
  refine mV_aload f6_copyFrom_19 rfl ?_
  refine mV_gI (z0 24 3) f6_copyFrom_20 (by decide) kk_24 rfl rfl ?_
  refine mV_aload f6_copyFrom_23 rfl ?_
  refine mV_getP f6_copyFrom_24 (by decide) kk_24 rfl (pp_24_1 _) ?_
  refine mV_alen f6_copyFrom_27 (by decide) kk_26 ?_
  refine mV_as 0 (by decide) ?_
  refine mV_minC fm6_copyFrom_28 (Nat.le_of_ble_eq_true rfl) ?_
  refine mV_aload f6_copyFrom_31 rfl ?_
  refine mV_getP f6_copyFrom_32 (by decide) kk_66 rfl (pp_66_1 _) ?_
  refine mV_alen f6_copyFrom_35 (by decide) kk_68 ?_
  refine mV_as 0 (by decide) ?_
  refine mV_minC fm6_copyFrom_36 (Nat.le_of_ble_eq_true rfl) ?_
  refine mV_putI f6_copyFrom_39 (by decide) kk_66 rfl rfl ?_
  refine mV_aload f6_copyFrom_42 rfl ?_
  refine mV_getP f6_copyFrom_43 (by decide) kk_24 rfl (pp_24_1 _) ?_
  refine mV_push f6_copyFrom_46 ?_
  refine mV_aload f6_copyFrom_47 rfl ?_
  refine mV_getP f6_copyFrom_48 (by decide) kk_66 rfl (pp_66_1 _) ?_
  refine mV_push f6_copyFrom_51 ?_
  refine mV_aload f6_copyFrom_52 rfl ?_
  refine mV_gI (mMin (mMin (z0 24 3) 0) 0) f6_copyFrom_53 (by decide) kk_66 rfl rfl ?_
  obtain ⟨z1, hz1, hr⟩ := mBind hr
  refine mV_cpO f6_copyFrom_56 (by decide) (by decide) kk_26 kk_68 hz1 (Nat.le_of_ble_eq_true rfl) ?_
  refine mV_aload f6_copyFrom_59 rfl ?_
  refine mV_aload f6_copyFrom_60 rfl ?_
  refine mV_gI (z1 24 2) f6_copyFrom_61 (by decide) kk_24 rfl rfl ?_
  refine mV_putI f6_copyFrom_64 (by decide) kk_66 rfl rfl ?_
  have hr := Option.some.inj hr; subst hr
  exact mV_vret rfl f6_copyFrom_67 hQ
theorem c6_copyFrom_66_24 (X : Nat × (Nat → Int32)) (I : mI) (s : Nat) {res : mI} (hr : r6_copyFrom_66_24 I = some res) : mC X m6_copyFrom 1 0 0 [.ref 66, .ref 24] NN KK I (PP s) (mRet none NN KK res (PP s)) :=
  mC_of (L0 := [.ref 66, .ref 24]) rfl (Nat.le_of_ble_eq_true rfl) (w6_copyFrom_66_24 X I s _ hr (mRet_ok _ _ _ _ _))
def r1_copyFrom_69_27 (I : mI) : Option (mI) := (mCpO I 28 16 70 16 0 0 16).bind fun z0 => (mCpO z0 29 8 71 8 0 0 8).bind fun z1 => (mCpO z1 30 9 72 9 0 0 9).bind fun z2 => (mCpO z2 31 9 73 9 0 0 9).bind fun z3 => (mCpO z3 32 9 74 9 0 0 9).bind fun z4 => some (mW (mW z4 69 5 (z4 27 5)) 69 6 (z4 27 6))
set_option maxHeartbeats 4000000 in
set_option maxRecDepth 100000 in
theorem w1_copyFrom_69_27 (X : Nat × (Nat → Int32)) (I : mI) (s : Nat) (Q : mQ) {res : mI} (hr : r1_copyFrom_69_27 I = some res) (hQ : Q none NN KK res (PP s)) : mV X m1_copyFrom 1 0 0 0 [.ref 69, .ref 27] [] NN KK I (PP s) Q := by
  unfold r1_copyFrom_69_27 at hr
  refine mV_aload f1_copyFrom_0 rfl ?_
  refine mV_getP f1_copyFrom_1 (by decide) kk_27 rfl (pp_27_0 _) ?_
  refine mV_push f1_copyFrom_4 ?_
  refine mV_aload f1_copyFrom_5 rfl ?_
  refine mV_getP f1_copyFrom_6 (by decide) kk_69 rfl (pp_69_0 _) ?_
  refine mV_push f1_copyFrom_9 ?_
  refine mV_push f1_copyFrom_10 ?_
  obtain ⟨z0, hz0, hr⟩ := mBind hr
  refine mV_cpO f1_copyFrom_12 (by decide) (by decide) kk_28 kk_70 hz0 (Nat.le_of_ble_eq_true rfl) ?_
  refine mV_aload f1_copyFrom_15 rfl ?_
  refine mV_getP f1_copyFrom_16 (by decide) kk_27 rfl (pp_27_1 _) ?_
  refine mV_push f1_copyFrom_19 ?_
  refine mV_aload f1_copyFrom_20 rfl ?_
  refine mV_getP f1_copyFrom_21 (by decide) kk_69 rfl (pp_69_1 _) ?_
  refine mV_push f1_copyFrom_24 ?_
  refine mV_push f1_copyFrom_25 ?_
  obtain ⟨z1, hz1, hr⟩ := mBind hr
  refine mV_cpO f1_copyFrom_27 (by decide) (by decide) kk_29 kk_71 hz1 (Nat.le_of_ble_eq_true rfl) ?_
  refine mV_aload f1_copyFrom_30 rfl ?_
  refine mV_getP f1_copyFrom_31 (by decide) kk_27 rfl (pp_27_2 _) ?_
  refine mV_push f1_copyFrom_34 ?_
  refine mV_aload f1_copyFrom_35 rfl ?_
  refine mV_getP f1_copyFrom_36 (by decide) kk_69 rfl (pp_69_2 _) ?_
  refine mV_push f1_copyFrom_39 ?_
  refine mV_push f1_copyFrom_40 ?_
  obtain ⟨z2, hz2, hr⟩ := mBind hr
  refine mV_cpO f1_copyFrom_42 (by decide) (by decide) kk_30 kk_72 hz2 (Nat.le_of_ble_eq_true rfl) ?_
  refine mV_aload f1_copyFrom_45 rfl ?_
  refine mV_getP f1_copyFrom_46 (by decide) kk_27 rfl (pp_27_3 _) ?_
  refine mV_push f1_copyFrom_49 ?_
  refine mV_aload f1_copyFrom_50 rfl ?_
  refine mV_getP f1_copyFrom_51 (by decide) kk_69 rfl (pp_69_3 _) ?_
  refine mV_push f1_copyFrom_54 ?_
  refine mV_push f1_copyFrom_55 ?_
  obtain ⟨z3, hz3, hr⟩ := mBind hr
  refine mV_cpO f1_copyFrom_57 (by decide) (by decide) kk_31 kk_73 hz3 (Nat.le_of_ble_eq_true rfl) ?_
  refine mV_aload f1_copyFrom_60 rfl ?_
  refine mV_getP f1_copyFrom_61 (by decide) kk_27 rfl (pp_27_4 _) ?_
  refine mV_push f1_copyFrom_64 ?_
  refine mV_aload f1_copyFrom_65 rfl ?_
  refine mV_getP f1_copyFrom_66 (by decide) kk_69 rfl (pp_69_4 _) ?_
  refine mV_push f1_copyFrom_69 ?_
  refine mV_push f1_copyFrom_70 ?_
  obtain ⟨z4, hz4, hr⟩ := mBind hr
  refine mV_cpO f1_copyFrom_72 (by decide) (by decide) kk_32 kk_74 hz4 (Nat.le_of_ble_eq_true rfl) ?_
  refine mV_aload f1_copyFrom_75 rfl ?_
  refine mV_aload f1_copyFrom_76 rfl ?_
  refine mV_gI (z4 27 5) f1_copyFrom_77 (by decide) kk_27 rfl rfl ?_
  refine mV_putI f1_copyFrom_80 (by decide) kk_69 rfl rfl ?_
  refine mV_aload f1_copyFrom_83 rfl ?_
  refine mV_aload f1_copyFrom_84 rfl ?_
  refine mV_gI (z4 27 6) f1_copyFrom_85 (by decide) kk_27 rfl rfl ?_
  refine mV_putI f1_copyFrom_88 (by decide) kk_69 rfl rfl ?_
  have hr := Option.some.inj hr; subst hr
  exact mV_vret rfl f1_copyFrom_91 hQ
theorem c1_copyFrom_69_27 (X : Nat × (Nat → Int32)) (I : mI) (s : Nat) {res : mI} (hr : r1_copyFrom_69_27 I = some res) : mC X m1_copyFrom 1 0 0 [.ref 69, .ref 27] NN KK I (PP s) (mRet none NN KK res (PP s)) :=
  mC_of (L0 := [.ref 69, .ref 27]) rfl (Nat.le_of_ble_eq_true rfl) (w1_copyFrom_69_27 X I s _ hr (mRet_ok _ _ _ _ _))
def r8_copyFrom_44_2 (I : mI) : Option (mI) := (r7_copyFrom I 45 3).bind fun z0 => (r0_copyFrom_50_8 z0).bind fun z1 => (r6_copyFrom_57_15 z1).bind fun z2 => (r6_copyFrom_60_18 z2).bind fun z3 => (r6_copyFrom_63_21 z3).bind fun z4 => (r6_copyFrom_66_24 z4).bind fun z5 => (r1_copyFrom_69_27 z5).bind fun z6 => (mCpO z6 34 600 76 600 0 0 600).bind fun z7 => some z7
set_option maxHeartbeats 4000000 in
set_option maxRecDepth 100000 in
theorem w8_copyFrom_44_2 (X : Nat × (Nat → Int32)) (I : mI) (s : Nat) (Q : mQ) {res : mI} (hr : r8_copyFrom_44_2 I = some res) (hQ : Q none NN KK res (PP s)) : mV X m8_copyFrom 2 0 0 0 [.ref 44, .ref 2] [] NN KK I (PP s) Q := by
  unfold r8_copyFrom_44_2 at hr
  refine mV_aload f8_copyFrom_0 rfl ?_
  refine mV_getP f8_copyFrom_1 (by decide) kk_44 rfl (pp_44_0 _) ?_
  refine mV_aload f8_copyFrom_4 rfl ?_
  refine mV_getP f8_copyFrom_5 (by decide) kk_2 rfl (pp_2_0 _) ?_
  obtain ⟨z0, hz0, hr⟩ := mBind hr
  refine mV_cV f8_copyFrom_8 tg_m7_copyFrom mCls7 (by decide) kk_45 (mC_deep (c7_copyFrom X I s 45 3 mStg_45 mStg_3 hz0) (by decide)) rfl rfl (Nat.le_of_ble_eq_true rfl) ?_
  refine mV_aload f8_copyFrom_11 rfl ?_
  refine mV_getP f8_copyFrom_12 (by decide) kk_44 rfl (pp_44_1 _) ?_
  refine mV_aload f8_copyFrom_15 rfl ?_
  refine mV_getP f8_copyFrom_16 (by decide) kk_2 rfl (pp_2_1 _) ?_
  obtain ⟨z1, hz1, hr⟩ := mBind hr
  refine mV_cV f8_copyFrom_19 tg_m0_copyFrom mCls0 (by decide) kk_50 (mC_deep (c0_copyFrom_50_8 X z0 s hz1) (by decide)) rfl rfl (Nat.le_of_ble_eq_true rfl) ?_
  refine mV_aload f8_copyFrom_22 rfl ?_
  refine mV_getP f8_copyFrom_23 (by decide) kk_44 rfl (pp_44_2 _) ?_
  refine mV_aload f8_copyFrom_26 rfl ?_
  refine mV_getP f8_copyFrom_27 (by decide) kk_2 rfl (pp_2_2 _) ?_
  obtain ⟨z2, hz2, hr⟩ := mBind hr
  refine mV_cV f8_copyFrom_30 tg_m6_copyFrom mCls6 (by decide) kk_57 (mC_deep (c6_copyFrom_57_15 X z1 s hz2) (by decide)) rfl rfl (Nat.le_of_ble_eq_true rfl) ?_
  refine mV_aload f8_copyFrom_33 rfl ?_
  refine mV_getP f8_copyFrom_34 (by decide) kk_44 rfl (pp_44_3 _) ?_
  refine mV_aload f8_copyFrom_37 rfl ?_
  refine mV_getP f8_copyFrom_38 (by decide) kk_2 rfl (pp_2_3 _) ?_
  obtain ⟨z3, hz3, hr⟩ := mBind hr
  refine mV_cV f8_copyFrom_41 tg_m6_copyFrom mCls6 (by decide) kk_60 (mC_deep (c6_copyFrom_60_18 X z2 s hz3) (by decide)) rfl rfl (Nat.le_of_ble_eq_true rfl) ?_
  refine mV_aload f8_copyFrom_44 rfl ?_
  refine mV_getP f8_copyFrom_45 (by decide) kk_44 rfl (pp_44_4 _) ?_
  refine mV_aload f8_copyFrom_48 rfl ?_
  refine mV_getP f8_copyFrom_49 (by decide) kk_2 rfl (pp_2_4 _) ?_
  obtain ⟨z4, hz4, hr⟩ := mBind hr
  refine mV_cV f8_copyFrom_52 tg_m6_copyFrom mCls6 (by decide) kk_63 (mC_deep (c6_copyFrom_63_21 X z3 s hz4) (by decide)) rfl rfl (Nat.le_of_ble_eq_true rfl) ?_
  refine mV_aload f8_copyFrom_55 rfl ?_
  refine mV_getP f8_copyFrom_56 (by decide) kk_44 rfl (pp_44_5 _) ?_
  refine mV_aload f8_copyFrom_59 rfl ?_
  refine mV_getP f8_copyFrom_60 (by decide) kk_2 rfl (pp_2_5 _) ?_
  obtain ⟨z5, hz5, hr⟩ := mBind hr
  refine mV_cV f8_copyFrom_63 tg_m6_copyFrom mCls6 (by decide) kk_66 (mC_deep (c6_copyFrom_66_24 X z4 s hz5) (by decide)) rfl rfl (Nat.le_of_ble_eq_true rfl) ?_
  refine mV_aload f8_copyFrom_66 rfl ?_
  refine mV_getP f8_copyFrom_67 (by decide) kk_44 rfl (pp_44_6 _) ?_
  refine mV_aload f8_copyFrom_70 rfl ?_
  refine mV_getP f8_copyFrom_71 (by decide) kk_2 rfl (pp_2_6 _) ?_
  obtain ⟨z6, hz6, hr⟩ := mBind hr
  refine mV_cV f8_copyFrom_74 tg_m1_copyFrom mCls1 (by decide) kk_69 (mC_deep (c1_copyFrom_69_27 X z5 s hz6) (by decide)) rfl rfl (Nat.le_of_ble_eq_true rfl) ?_
  refine mV_aload f8_copyFrom_77 rfl ?_
  refine mV_getP f8_copyFrom_78 (by decide) kk_2 rfl (pp_2_7 _) ?_
  refine mV_push f8_copyFrom_81 ?_
  refine mV_aload f8_copyFrom_82 rfl ?_
  refine mV_getP f8_copyFrom_83 (by decide) kk_44 rfl (pp_44_7 _) ?_
  refine mV_push f8_copyFrom_86 ?_
  refine mV_aload f8_copyFrom_87 rfl ?_
  refine mV_getP f8_copyFrom_88 (by decide) kk_44 rfl (pp_44_7 _) ?_
  refine mV_alen f8_copyFrom_91 (by decide) kk_76 ?_
  refine mV_as 600 (by decide) ?_
  obtain ⟨z7, hz7, hr⟩ := mBind hr
  refine mV_cpO f8_copyFrom_92 (by decide) (by decide) kk_34 kk_76 hz7 (Nat.le_of_ble_eq_true rfl) ?_
  have hr := Option.some.inj hr; subst hr
  exact mV_vret rfl f8_copyFrom_95 hQ
theorem c8_copyFrom_44_2 (X : Nat × (Nat → Int32)) (I : mI) (s : Nat) {res : mI} (hr : r8_copyFrom_44_2 I = some res) : mC X m8_copyFrom 2 0 0 [.ref 44, .ref 2] NN KK I (PP s) (mRet none NN KK res (PP s)) :=
  mC_of (L0 := [.ref 44, .ref 2]) rfl (Nat.le_of_ble_eq_true rfl) (w8_copyFrom_44_2 X I s _ hr (mRet_ok _ _ _ _ _))
def r0_copyFrom_8_50 (I : mI) : Option (mI) := (mCpO I 51 12 9 12 0 0 12).bind fun z0 => (mCpO z0 52 12 10 12 0 0 12).bind fun z1 => (mCpO z1 53 12 11 12 0 0 12).bind fun z2 => (mCpO z2 54 6 12 6 0 0 6).bind fun z3 => (mCpO z3 55 6 13 6 0 0 6).bind fun z4 => some (mW (mW z4 8 6 (z4 50 6)) 8 7 (z4 50 7))
set_option maxHeartbeats 4000000 in
set_option maxRecDepth 100000 in
theorem w0_copyFrom_8_50 (X : Nat × (Nat → Int32)) (I : mI) (s : Nat) (Q : mQ) {res : mI} (hr : r0_copyFrom_8_50 I = some res) (hQ : Q none NN KK res (PP s)) : mV X m0_copyFrom 1 0 0 0 [.ref 8, .ref 50] [] NN KK I (PP s) Q := by
  unfold r0_copyFrom_8_50 at hr
  refine mV_aload f0_copyFrom_0 rfl ?_
  refine mV_getP f0_copyFrom_1 (by decide) kk_50 rfl (pp_50_0 _) ?_
  refine mV_push f0_copyFrom_4 ?_
  refine mV_aload f0_copyFrom_5 rfl ?_
  refine mV_getP f0_copyFrom_6 (by decide) kk_8 rfl (pp_8_0 _) ?_
  refine mV_push f0_copyFrom_9 ?_
  refine mV_push f0_copyFrom_10 ?_
  obtain ⟨z0, hz0, hr⟩ := mBind hr
  refine mV_cpO f0_copyFrom_12 (by decide) (by decide) kk_51 kk_9 hz0 (Nat.le_of_ble_eq_true rfl) ?_
  refine mV_aload f0_copyFrom_15 rfl ?_
  refine mV_getP f0_copyFrom_16 (by decide) kk_50 rfl (pp_50_1 _) ?_
  refine mV_push f0_copyFrom_19 ?_
  refine mV_aload f0_copyFrom_20 rfl ?_
  refine mV_getP f0_copyFrom_21 (by decide) kk_8 rfl (pp_8_1 _) ?_
  refine mV_push f0_copyFrom_24 ?_
  refine mV_push f0_copyFrom_25 ?_
  obtain ⟨z1, hz1, hr⟩ := mBind hr
  refine mV_cpO f0_copyFrom_27 (by decide) (by decide) kk_52 kk_10 hz1 (Nat.le_of_ble_eq_true rfl) ?_
  refine mV_aload f0_copyFrom_30 rfl ?_
  refine mV_getP f0_copyFrom_31 (by decide) kk_50 rfl (pp_50_2 _) ?_
  refine mV_push f0_copyFrom_34 ?_
  refine mV_aload f0_copyFrom_35 rfl ?_
  refine mV_getP f0_copyFrom_36 (by decide) kk_8 rfl (pp_8_2 _) ?_
  refine mV_push f0_copyFrom_39 ?_
  refine mV_push f0_copyFrom_40 ?_
  obtain ⟨z2, hz2, hr⟩ := mBind hr
  refine mV_cpO f0_copyFrom_42 (by decide) (by decide) kk_53 kk_11 hz2 (Nat.le_of_ble_eq_true rfl) ?_
  refine mV_aload f0_copyFrom_45 rfl ?_
  refine mV_getP f0_copyFrom_46 (by decide) kk_50 rfl (pp_50_3 _) ?_
  refine mV_push f0_copyFrom_49 ?_
  refine mV_aload f0_copyFrom_50 rfl ?_
  refine mV_getP f0_copyFrom_51 (by decide) kk_8 rfl (pp_8_3 _) ?_
  refine mV_push f0_copyFrom_54 ?_
  refine mV_push f0_copyFrom_55 ?_
  obtain ⟨z3, hz3, hr⟩ := mBind hr
  refine mV_cpO f0_copyFrom_57 (by decide) (by decide) kk_54 kk_12 hz3 (Nat.le_of_ble_eq_true rfl) ?_
  refine mV_aload f0_copyFrom_60 rfl ?_
  refine mV_getP f0_copyFrom_61 (by decide) kk_50 rfl (pp_50_4 _) ?_
  refine mV_push f0_copyFrom_64 ?_
  refine mV_aload f0_copyFrom_65 rfl ?_
  refine mV_getP f0_copyFrom_66 (by decide) kk_8 rfl (pp_8_4 _) ?_
  refine mV_push f0_copyFrom_69 ?_
  refine mV_push f0_copyFrom_70 ?_
  obtain ⟨z4, hz4, hr⟩ := mBind hr
  refine mV_cpO f0_copyFrom_72 (by decide) (by decide) kk_55 kk_13 hz4 (Nat.le_of_ble_eq_true rfl) ?_
  refine mV_aload f0_copyFrom_75 rfl ?_
  refine mV_aload f0_copyFrom_76 rfl ?_
  refine mV_gI (z4 50 6) f0_copyFrom_77 (by decide) kk_50 rfl rfl ?_
  refine mV_putI f0_copyFrom_80 (by decide) kk_8 rfl rfl ?_
  refine mV_aload f0_copyFrom_83 rfl ?_
  refine mV_aload f0_copyFrom_84 rfl ?_
  refine mV_gI (z4 50 7) f0_copyFrom_85 (by decide) kk_50 rfl rfl ?_
  refine mV_putI f0_copyFrom_88 (by decide) kk_8 rfl rfl ?_
  have hr := Option.some.inj hr; subst hr
  exact mV_vret rfl f0_copyFrom_91 hQ
theorem c0_copyFrom_8_50 (X : Nat × (Nat → Int32)) (I : mI) (s : Nat) {res : mI} (hr : r0_copyFrom_8_50 I = some res) : mC X m0_copyFrom 1 0 0 [.ref 8, .ref 50] NN KK I (PP s) (mRet none NN KK res (PP s)) :=
  mC_of (L0 := [.ref 8, .ref 50]) rfl (Nat.le_of_ble_eq_true rfl) (w0_copyFrom_8_50 X I s _ hr (mRet_ok _ _ _ _ _))
def r6_copyFrom_15_57 (I : mI) : Option (mI) := (mCpO I 58 144 16 144 0 0 144).bind fun z0 => (mCpO (mW z0 15 3 (mMin (mMin (z0 57 3) 400) 400)) 59 400 17 400 0 0 (mMin (mMin (z0 57 3) 400) 400)).bind fun z1 => some (mW z1 15 2 (z1 57 2))
set_option maxHeartbeats 4000000 in
set_option maxRecDepth 100000 in
theorem w6_copyFrom_15_57 (X : Nat × (Nat → Int32)) (I : mI) (s : Nat) (Q : mQ) {res : mI} (hr : r6_copyFrom_15_57 I = some res) (hQ : Q none NN KK res (PP s)) : mV X m6_copyFrom 1 0 0 0 [.ref 15, .ref 57] [] NN KK I (PP s) Q := by
  unfold r6_copyFrom_15_57 at hr
  refine mV_aload f6_copyFrom_0 rfl ?_
  refine mV_getP f6_copyFrom_1 (by decide) kk_57 rfl (pp_57_0 _) ?_
  refine mV_push f6_copyFrom_4 ?_
  refine mV_aload f6_copyFrom_5 rfl ?_
  refine mV_getP f6_copyFrom_6 (by decide) kk_15 rfl (pp_15_0 _) ?_
  refine mV_push f6_copyFrom_9 ?_
  refine mV_aload f6_copyFrom_10 rfl ?_
  refine mV_getP f6_copyFrom_11 (by decide) kk_15 rfl (pp_15_0 _) ?_
  refine mV_alen f6_copyFrom_14 (by decide) kk_16 ?_
  refine mV_as 144 (by decide) ?_
  obtain ⟨z0, hz0, hr⟩ := mBind hr
  refine mV_cpO f6_copyFrom_15 (by decide) (by decide) kk_58 kk_16 hz0 (Nat.le_of_ble_eq_true rfl) ?_
  refine mV_aload f6_copyFrom_18 rfl ?_
  refine mV_aload f6_copyFrom_19 rfl ?_
  refine mV_gI (z0 57 3) f6_copyFrom_20 (by decide) kk_57 rfl rfl ?_
  refine mV_aload f6_copyFrom_23 rfl ?_
  refine mV_getP f6_copyFrom_24 (by decide) kk_57 rfl (pp_57_1 _) ?_
  refine mV_alen f6_copyFrom_27 (by decide) kk_59 ?_
  refine mV_as 400 (by decide) ?_
  refine mV_minC fm6_copyFrom_28 (Nat.le_of_ble_eq_true rfl) ?_
  refine mV_aload f6_copyFrom_31 rfl ?_
  refine mV_getP f6_copyFrom_32 (by decide) kk_15 rfl (pp_15_1 _) ?_
  refine mV_alen f6_copyFrom_35 (by decide) kk_17 ?_
  refine mV_as 400 (by decide) ?_
  refine mV_minC fm6_copyFrom_36 (Nat.le_of_ble_eq_true rfl) ?_
  refine mV_putI f6_copyFrom_39 (by decide) kk_15 rfl rfl ?_
  refine mV_aload f6_copyFrom_42 rfl ?_
  refine mV_getP f6_copyFrom_43 (by decide) kk_57 rfl (pp_57_1 _) ?_
  refine mV_push f6_copyFrom_46 ?_
  refine mV_aload f6_copyFrom_47 rfl ?_
  refine mV_getP f6_copyFrom_48 (by decide) kk_15 rfl (pp_15_1 _) ?_
  refine mV_push f6_copyFrom_51 ?_
  refine mV_aload f6_copyFrom_52 rfl ?_
  refine mV_gI (mMin (mMin (z0 57 3) 400) 400) f6_copyFrom_53 (by decide) kk_15 rfl rfl ?_
  obtain ⟨z1, hz1, hr⟩ := mBind hr
  refine mV_cpO f6_copyFrom_56 (by decide) (by decide) kk_59 kk_17 hz1 (Nat.le_of_ble_eq_true rfl) ?_
  refine mV_aload f6_copyFrom_59 rfl ?_
  refine mV_aload f6_copyFrom_60 rfl ?_
  refine mV_gI (z1 57 2) f6_copyFrom_61 (by decide) kk_57 rfl rfl ?_
  refine mV_putI f6_copyFrom_64 (by decide) kk_15 rfl rfl ?_
  have hr := Option.some.inj hr; subst hr
  exact mV_vret rfl f6_copyFrom_67 hQ
theorem c6_copyFrom_15_57 (X : Nat × (Nat → Int32)) (I : mI) (s : Nat) {res : mI} (hr : r6_copyFrom_15_57 I = some res) : mC X m6_copyFrom 1 0 0 [.ref 15, .ref 57] NN KK I (PP s) (mRet none NN KK res (PP s)) :=
  mC_of (L0 := [.ref 15, .ref 57]) rfl (Nat.le_of_ble_eq_true rfl) (w6_copyFrom_15_57 X I s _ hr (mRet_ok _ _ _ _ _))
def r6_copyFrom_18_60 (I : mI) : Option (mI) := (mCpO I 61 144 19 144 0 0 144).bind fun z0 => (mCpO (mW z0 18 3 (mMin (mMin (z0 60 3) 0) 0)) 62 0 20 0 0 0 (mMin (mMin (z0 60 3) 0) 0)).bind fun z1 => some (mW z1 18 2 (z1 60 2))
set_option maxHeartbeats 4000000 in
set_option maxRecDepth 100000 in
theorem w6_copyFrom_18_60 (X : Nat × (Nat → Int32)) (I : mI) (s : Nat) (Q : mQ) {res : mI} (hr : r6_copyFrom_18_60 I = some res) (hQ : Q none NN KK res (PP s)) : mV X m6_copyFrom 1 0 0 0 [.ref 18, .ref 60] [] NN KK I (PP s) Q := by
  unfold r6_copyFrom_18_60 at hr
  refine mV_aload f6_copyFrom_0 rfl ?_
  refine mV_getP f6_copyFrom_1 (by decide) kk_60 rfl (pp_60_0 _) ?_
  refine mV_push f6_copyFrom_4 ?_
  refine mV_aload f6_copyFrom_5 rfl ?_
  refine mV_getP f6_copyFrom_6 (by decide) kk_18 rfl (pp_18_0 _) ?_
  refine mV_push f6_copyFrom_9 ?_
  refine mV_aload f6_copyFrom_10 rfl ?_
  refine mV_getP f6_copyFrom_11 (by decide) kk_18 rfl (pp_18_0 _) ?_
  refine mV_alen f6_copyFrom_14 (by decide) kk_19 ?_
  refine mV_as 144 (by decide) ?_
  obtain ⟨z0, hz0, hr⟩ := mBind hr
  refine mV_cpO f6_copyFrom_15 (by decide) (by decide) kk_61 kk_19 hz0 (Nat.le_of_ble_eq_true rfl) ?_
  refine mV_aload f6_copyFrom_18 rfl ?_
  refine mV_aload f6_copyFrom_19 rfl ?_
  refine mV_gI (z0 60 3) f6_copyFrom_20 (by decide) kk_60 rfl rfl ?_
  refine mV_aload f6_copyFrom_23 rfl ?_
  refine mV_getP f6_copyFrom_24 (by decide) kk_60 rfl (pp_60_1 _) ?_
  refine mV_alen f6_copyFrom_27 (by decide) kk_62 ?_
  refine mV_as 0 (by decide) ?_
  refine mV_minC fm6_copyFrom_28 (Nat.le_of_ble_eq_true rfl) ?_
  refine mV_aload f6_copyFrom_31 rfl ?_
  refine mV_getP f6_copyFrom_32 (by decide) kk_18 rfl (pp_18_1 _) ?_
  refine mV_alen f6_copyFrom_35 (by decide) kk_20 ?_
  refine mV_as 0 (by decide) ?_
  refine mV_minC fm6_copyFrom_36 (Nat.le_of_ble_eq_true rfl) ?_
  refine mV_putI f6_copyFrom_39 (by decide) kk_18 rfl rfl ?_
  refine mV_aload f6_copyFrom_42 rfl ?_
  refine mV_getP f6_copyFrom_43 (by decide) kk_60 rfl (pp_60_1 _) ?_
  refine mV_push f6_copyFrom_46 ?_
  refine mV_aload f6_copyFrom_47 rfl ?_
  refine mV_getP f6_copyFrom_48 (by decide) kk_18 rfl (pp_18_1 _) ?_
  refine mV_push f6_copyFrom_51 ?_
  refine mV_aload f6_copyFrom_52 rfl ?_
  refine mV_gI (mMin (mMin (z0 60 3) 0) 0) f6_copyFrom_53 (by decide) kk_18 rfl rfl ?_
  obtain ⟨z1, hz1, hr⟩ := mBind hr
  refine mV_cpO f6_copyFrom_56 (by decide) (by decide) kk_62 kk_20 hz1 (Nat.le_of_ble_eq_true rfl) ?_
  refine mV_aload f6_copyFrom_59 rfl ?_
  refine mV_aload f6_copyFrom_60 rfl ?_
  refine mV_gI (z1 60 2) f6_copyFrom_61 (by decide) kk_60 rfl rfl ?_
  refine mV_putI f6_copyFrom_64 (by decide) kk_18 rfl rfl ?_
  have hr := Option.some.inj hr; subst hr
  exact mV_vret rfl f6_copyFrom_67 hQ
theorem c6_copyFrom_18_60 (X : Nat × (Nat → Int32)) (I : mI) (s : Nat) {res : mI} (hr : r6_copyFrom_18_60 I = some res) : mC X m6_copyFrom 1 0 0 [.ref 18, .ref 60] NN KK I (PP s) (mRet none NN KK res (PP s)) :=
  mC_of (L0 := [.ref 18, .ref 60]) rfl (Nat.le_of_ble_eq_true rfl) (w6_copyFrom_18_60 X I s _ hr (mRet_ok _ _ _ _ _))
def r6_copyFrom_21_63 (I : mI) : Option (mI) := (mCpO I 64 144 22 144 0 0 144).bind fun z0 => (mCpO (mW z0 21 3 (mMin (mMin (z0 63 3) 0) 0)) 65 0 23 0 0 0 (mMin (mMin (z0 63 3) 0) 0)).bind fun z1 => some (mW z1 21 2 (z1 63 2))
set_option maxHeartbeats 4000000 in
set_option maxRecDepth 100000 in
theorem w6_copyFrom_21_63 (X : Nat × (Nat → Int32)) (I : mI) (s : Nat) (Q : mQ) {res : mI} (hr : r6_copyFrom_21_63 I = some res) (hQ : Q none NN KK res (PP s)) : mV X m6_copyFrom 1 0 0 0 [.ref 21, .ref 63] [] NN KK I (PP s) Q := by
  unfold r6_copyFrom_21_63 at hr
  refine mV_aload f6_copyFrom_0 rfl ?_
  refine mV_getP f6_copyFrom_1 (by decide) kk_63 rfl (pp_63_0 _) ?_
  refine mV_push f6_copyFrom_4 ?_
  refine mV_aload f6_copyFrom_5 rfl ?_
  refine mV_getP f6_copyFrom_6 (by decide) kk_21 rfl (pp_21_0 _) ?_
  refine mV_push f6_copyFrom_9 ?_
  refine mV_aload f6_copyFrom_10 rfl ?_
  refine mV_getP f6_copyFrom_11 (by decide) kk_21 rfl (pp_21_0 _) ?_
  refine mV_alen f6_copyFrom_14 (by decide) kk_22 ?_
  refine mV_as 144 (by decide) ?_
  obtain ⟨z0, hz0, hr⟩ := mBind hr
  refine mV_cpO f6_copyFrom_15 (by decide) (by decide) kk_64 kk_22 hz0 (Nat.le_of_ble_eq_true rfl) ?_
  refine mV_aload f6_copyFrom_18 rfl ?_
  refine mV_aload f6_copyFrom_19 rfl ?_
  refine mV_gI (z0 63 3) f6_copyFrom_20 (by decide) kk_63 rfl rfl ?_
  refine mV_aload f6_copyFrom_23 rfl ?_
  refine mV_getP f6_copyFrom_24 (by decide) kk_63 rfl (pp_63_1 _) ?_
  refine mV_alen f6_copyFrom_27 (by decide) kk_65 ?_
  refine mV_as 0 (by decide) ?_
  refine mV_minC fm6_copyFrom_28 (Nat.le_of_ble_eq_true rfl) ?_
  refine mV_aload f6_copyFrom_31 rfl ?_
  refine mV_getP f6_copyFrom_32 (by decide) kk_21 rfl (pp_21_1 _) ?_
  refine mV_alen f6_copyFrom_35 (by decide) kk_23 ?_
  refine mV_as 0 (by decide) ?_
  refine mV_minC fm6_copyFrom_36 (Nat.le_of_ble_eq_true rfl) ?_
  refine mV_putI f6_copyFrom_39 (by decide) kk_21 rfl rfl ?_
  refine mV_aload f6_copyFrom_42 rfl ?_
  refine mV_getP f6_copyFrom_43 (by decide) kk_63 rfl (pp_63_1 _) ?_
  refine mV_push f6_copyFrom_46 ?_
  refine mV_aload f6_copyFrom_47 rfl ?_
  refine mV_getP f6_copyFrom_48 (by decide) kk_21 rfl (pp_21_1 _) ?_
  refine mV_push f6_copyFrom_51 ?_
  refine mV_aload f6_copyFrom_52 rfl ?_
  refine mV_gI (mMin (mMin (z0 63 3) 0) 0) f6_copyFrom_53 (by decide) kk_21 rfl rfl ?_
  obtain ⟨z1, hz1, hr⟩ := mBind hr
  refine mV_cpO f6_copyFrom_56 (by decide) (by decide) kk_65 kk_23 hz1 (Nat.le_of_ble_eq_true rfl) ?_
  refine mV_aload f6_copyFrom_59 rfl ?_
  refine mV_aload f6_copyFrom_60 rfl ?_
  refine mV_gI (z1 63 2) f6_copyFrom_61 (by decide) kk_63 rfl rfl ?_
  refine mV_putI f6_copyFrom_64 (by decide) kk_21 rfl rfl ?_
  have hr := Option.some.inj hr; subst hr
  exact mV_vret rfl f6_copyFrom_67 hQ
theorem c6_copyFrom_21_63 (X : Nat × (Nat → Int32)) (I : mI) (s : Nat) {res : mI} (hr : r6_copyFrom_21_63 I = some res) : mC X m6_copyFrom 1 0 0 [.ref 21, .ref 63] NN KK I (PP s) (mRet none NN KK res (PP s)) :=
  mC_of (L0 := [.ref 21, .ref 63]) rfl (Nat.le_of_ble_eq_true rfl) (w6_copyFrom_21_63 X I s _ hr (mRet_ok _ _ _ _ _))
def r6_copyFrom_24_66 (I : mI) : Option (mI) := (mCpO I 67 144 25 144 0 0 144).bind fun z0 => (mCpO (mW z0 24 3 (mMin (mMin (z0 66 3) 0) 0)) 68 0 26 0 0 0 (mMin (mMin (z0 66 3) 0) 0)).bind fun z1 => some (mW z1 24 2 (z1 66 2))
set_option maxHeartbeats 4000000 in
set_option maxRecDepth 100000 in
theorem w6_copyFrom_24_66 (X : Nat × (Nat → Int32)) (I : mI) (s : Nat) (Q : mQ) {res : mI} (hr : r6_copyFrom_24_66 I = some res) (hQ : Q none NN KK res (PP s)) : mV X m6_copyFrom 1 0 0 0 [.ref 24, .ref 66] [] NN KK I (PP s) Q := by
  unfold r6_copyFrom_24_66 at hr
  refine mV_aload f6_copyFrom_0 rfl ?_
  refine mV_getP f6_copyFrom_1 (by decide) kk_66 rfl (pp_66_0 _) ?_
  refine mV_push f6_copyFrom_4 ?_
  refine mV_aload f6_copyFrom_5 rfl ?_
  refine mV_getP f6_copyFrom_6 (by decide) kk_24 rfl (pp_24_0 _) ?_
  refine mV_push f6_copyFrom_9 ?_
  refine mV_aload f6_copyFrom_10 rfl ?_
  refine mV_getP f6_copyFrom_11 (by decide) kk_24 rfl (pp_24_0 _) ?_
  refine mV_alen f6_copyFrom_14 (by decide) kk_25 ?_
  refine mV_as 144 (by decide) ?_
  obtain ⟨z0, hz0, hr⟩ := mBind hr
  refine mV_cpO f6_copyFrom_15 (by decide) (by decide) kk_67 kk_25 hz0 (Nat.le_of_ble_eq_true rfl) ?_
  refine mV_aload f6_copyFrom_18 rfl ?_
  refine mV_aload f6_copyFrom_19 rfl ?_
  refine mV_gI (z0 66 3) f6_copyFrom_20 (by decide) kk_66 rfl rfl ?_
  refine mV_aload f6_copyFrom_23 rfl ?_
  refine mV_getP f6_copyFrom_24 (by decide) kk_66 rfl (pp_66_1 _) ?_
  refine mV_alen f6_copyFrom_27 (by decide) kk_68 ?_
  refine mV_as 0 (by decide) ?_
  refine mV_minC fm6_copyFrom_28 (Nat.le_of_ble_eq_true rfl) ?_
  refine mV_aload f6_copyFrom_31 rfl ?_
  refine mV_getP f6_copyFrom_32 (by decide) kk_24 rfl (pp_24_1 _) ?_
  refine mV_alen f6_copyFrom_35 (by decide) kk_26 ?_
  refine mV_as 0 (by decide) ?_
  refine mV_minC fm6_copyFrom_36 (Nat.le_of_ble_eq_true rfl) ?_
  refine mV_putI f6_copyFrom_39 (by decide) kk_24 rfl rfl ?_
  refine mV_aload f6_copyFrom_42 rfl ?_
  refine mV_getP f6_copyFrom_43 (by decide) kk_66 rfl (pp_66_1 _) ?_
  refine mV_push f6_copyFrom_46 ?_
  refine mV_aload f6_copyFrom_47 rfl ?_
  refine mV_getP f6_copyFrom_48 (by decide) kk_24 rfl (pp_24_1 _) ?_
  refine mV_push f6_copyFrom_51 ?_
  refine mV_aload f6_copyFrom_52 rfl ?_
  refine mV_gI (mMin (mMin (z0 66 3) 0) 0) f6_copyFrom_53 (by decide) kk_24 rfl rfl ?_
  obtain ⟨z1, hz1, hr⟩ := mBind hr
  refine mV_cpO f6_copyFrom_56 (by decide) (by decide) kk_68 kk_26 hz1 (Nat.le_of_ble_eq_true rfl) ?_
  refine mV_aload f6_copyFrom_59 rfl ?_
  refine mV_aload f6_copyFrom_60 rfl ?_
  refine mV_gI (z1 66 2) f6_copyFrom_61 (by decide) kk_66 rfl rfl ?_
  refine mV_putI f6_copyFrom_64 (by decide) kk_24 rfl rfl ?_
  have hr := Option.some.inj hr; subst hr
  exact mV_vret rfl f6_copyFrom_67 hQ
theorem c6_copyFrom_24_66 (X : Nat × (Nat → Int32)) (I : mI) (s : Nat) {res : mI} (hr : r6_copyFrom_24_66 I = some res) : mC X m6_copyFrom 1 0 0 [.ref 24, .ref 66] NN KK I (PP s) (mRet none NN KK res (PP s)) :=
  mC_of (L0 := [.ref 24, .ref 66]) rfl (Nat.le_of_ble_eq_true rfl) (w6_copyFrom_24_66 X I s _ hr (mRet_ok _ _ _ _ _))
def r1_copyFrom_27_69 (I : mI) : Option (mI) := (mCpO I 70 16 28 16 0 0 16).bind fun z0 => (mCpO z0 71 8 29 8 0 0 8).bind fun z1 => (mCpO z1 72 9 30 9 0 0 9).bind fun z2 => (mCpO z2 73 9 31 9 0 0 9).bind fun z3 => (mCpO z3 74 9 32 9 0 0 9).bind fun z4 => some (mW (mW z4 27 5 (z4 69 5)) 27 6 (z4 69 6))
set_option maxHeartbeats 4000000 in
set_option maxRecDepth 100000 in
theorem w1_copyFrom_27_69 (X : Nat × (Nat → Int32)) (I : mI) (s : Nat) (Q : mQ) {res : mI} (hr : r1_copyFrom_27_69 I = some res) (hQ : Q none NN KK res (PP s)) : mV X m1_copyFrom 1 0 0 0 [.ref 27, .ref 69] [] NN KK I (PP s) Q := by
  unfold r1_copyFrom_27_69 at hr
  refine mV_aload f1_copyFrom_0 rfl ?_
  refine mV_getP f1_copyFrom_1 (by decide) kk_69 rfl (pp_69_0 _) ?_
  refine mV_push f1_copyFrom_4 ?_
  refine mV_aload f1_copyFrom_5 rfl ?_
  refine mV_getP f1_copyFrom_6 (by decide) kk_27 rfl (pp_27_0 _) ?_
  refine mV_push f1_copyFrom_9 ?_
  refine mV_push f1_copyFrom_10 ?_
  obtain ⟨z0, hz0, hr⟩ := mBind hr
  refine mV_cpO f1_copyFrom_12 (by decide) (by decide) kk_70 kk_28 hz0 (Nat.le_of_ble_eq_true rfl) ?_
  refine mV_aload f1_copyFrom_15 rfl ?_
  refine mV_getP f1_copyFrom_16 (by decide) kk_69 rfl (pp_69_1 _) ?_
  refine mV_push f1_copyFrom_19 ?_
  refine mV_aload f1_copyFrom_20 rfl ?_
  refine mV_getP f1_copyFrom_21 (by decide) kk_27 rfl (pp_27_1 _) ?_
  refine mV_push f1_copyFrom_24 ?_
  refine mV_push f1_copyFrom_25 ?_
  obtain ⟨z1, hz1, hr⟩ := mBind hr
  refine mV_cpO f1_copyFrom_27 (by decide) (by decide) kk_71 kk_29 hz1 (Nat.le_of_ble_eq_true rfl) ?_
  refine mV_aload f1_copyFrom_30 rfl ?_
  refine mV_getP f1_copyFrom_31 (by decide) kk_69 rfl (pp_69_2 _) ?_
  refine mV_push f1_copyFrom_34 ?_
  refine mV_aload f1_copyFrom_35 rfl ?_
  refine mV_getP f1_copyFrom_36 (by decide) kk_27 rfl (pp_27_2 _) ?_
  refine mV_push f1_copyFrom_39 ?_
  refine mV_push f1_copyFrom_40 ?_
  obtain ⟨z2, hz2, hr⟩ := mBind hr
  refine mV_cpO f1_copyFrom_42 (by decide) (by decide) kk_72 kk_30 hz2 (Nat.le_of_ble_eq_true rfl) ?_
  refine mV_aload f1_copyFrom_45 rfl ?_
  refine mV_getP f1_copyFrom_46 (by decide) kk_69 rfl (pp_69_3 _) ?_
  refine mV_push f1_copyFrom_49 ?_
  refine mV_aload f1_copyFrom_50 rfl ?_
  refine mV_getP f1_copyFrom_51 (by decide) kk_27 rfl (pp_27_3 _) ?_
  refine mV_push f1_copyFrom_54 ?_
  refine mV_push f1_copyFrom_55 ?_
  obtain ⟨z3, hz3, hr⟩ := mBind hr
  refine mV_cpO f1_copyFrom_57 (by decide) (by decide) kk_73 kk_31 hz3 (Nat.le_of_ble_eq_true rfl) ?_
  refine mV_aload f1_copyFrom_60 rfl ?_
  refine mV_getP f1_copyFrom_61 (by decide) kk_69 rfl (pp_69_4 _) ?_
  refine mV_push f1_copyFrom_64 ?_
  refine mV_aload f1_copyFrom_65 rfl ?_
  refine mV_getP f1_copyFrom_66 (by decide) kk_27 rfl (pp_27_4 _) ?_
  refine mV_push f1_copyFrom_69 ?_
  refine mV_push f1_copyFrom_70 ?_
  obtain ⟨z4, hz4, hr⟩ := mBind hr
  refine mV_cpO f1_copyFrom_72 (by decide) (by decide) kk_74 kk_32 hz4 (Nat.le_of_ble_eq_true rfl) ?_
  refine mV_aload f1_copyFrom_75 rfl ?_
  refine mV_aload f1_copyFrom_76 rfl ?_
  refine mV_gI (z4 69 5) f1_copyFrom_77 (by decide) kk_69 rfl rfl ?_
  refine mV_putI f1_copyFrom_80 (by decide) kk_27 rfl rfl ?_
  refine mV_aload f1_copyFrom_83 rfl ?_
  refine mV_aload f1_copyFrom_84 rfl ?_
  refine mV_gI (z4 69 6) f1_copyFrom_85 (by decide) kk_69 rfl rfl ?_
  refine mV_putI f1_copyFrom_88 (by decide) kk_27 rfl rfl ?_
  have hr := Option.some.inj hr; subst hr
  exact mV_vret rfl f1_copyFrom_91 hQ
theorem c1_copyFrom_27_69 (X : Nat × (Nat → Int32)) (I : mI) (s : Nat) {res : mI} (hr : r1_copyFrom_27_69 I = some res) : mC X m1_copyFrom 1 0 0 [.ref 27, .ref 69] NN KK I (PP s) (mRet none NN KK res (PP s)) :=
  mC_of (L0 := [.ref 27, .ref 69]) rfl (Nat.le_of_ble_eq_true rfl) (w1_copyFrom_27_69 X I s _ hr (mRet_ok _ _ _ _ _))
def r8_copyFrom_2_44 (I : mI) : Option (mI) := (r7_copyFrom I 3 45).bind fun z0 => (r0_copyFrom_8_50 z0).bind fun z1 => (r6_copyFrom_15_57 z1).bind fun z2 => (r6_copyFrom_18_60 z2).bind fun z3 => (r6_copyFrom_21_63 z3).bind fun z4 => (r6_copyFrom_24_66 z4).bind fun z5 => (r1_copyFrom_27_69 z5).bind fun z6 => (mCpO z6 76 600 34 600 0 0 600).bind fun z7 => some z7
set_option maxHeartbeats 4000000 in
set_option maxRecDepth 100000 in
theorem w8_copyFrom_2_44 (X : Nat × (Nat → Int32)) (I : mI) (s : Nat) (Q : mQ) {res : mI} (hr : r8_copyFrom_2_44 I = some res) (hQ : Q none NN KK res (PP s)) : mV X m8_copyFrom 2 0 0 0 [.ref 2, .ref 44] [] NN KK I (PP s) Q := by
  unfold r8_copyFrom_2_44 at hr
  refine mV_aload f8_copyFrom_0 rfl ?_
  refine mV_getP f8_copyFrom_1 (by decide) kk_2 rfl (pp_2_0 _) ?_
  refine mV_aload f8_copyFrom_4 rfl ?_
  refine mV_getP f8_copyFrom_5 (by decide) kk_44 rfl (pp_44_0 _) ?_
  obtain ⟨z0, hz0, hr⟩ := mBind hr
  refine mV_cV f8_copyFrom_8 tg_m7_copyFrom mCls7 (by decide) kk_3 (mC_deep (c7_copyFrom X I s 3 45 mStg_3 mStg_45 hz0) (by decide)) rfl rfl (Nat.le_of_ble_eq_true rfl) ?_
  refine mV_aload f8_copyFrom_11 rfl ?_
  refine mV_getP f8_copyFrom_12 (by decide) kk_2 rfl (pp_2_1 _) ?_
  refine mV_aload f8_copyFrom_15 rfl ?_
  refine mV_getP f8_copyFrom_16 (by decide) kk_44 rfl (pp_44_1 _) ?_
  obtain ⟨z1, hz1, hr⟩ := mBind hr
  refine mV_cV f8_copyFrom_19 tg_m0_copyFrom mCls0 (by decide) kk_8 (mC_deep (c0_copyFrom_8_50 X z0 s hz1) (by decide)) rfl rfl (Nat.le_of_ble_eq_true rfl) ?_
  refine mV_aload f8_copyFrom_22 rfl ?_
  refine mV_getP f8_copyFrom_23 (by decide) kk_2 rfl (pp_2_2 _) ?_
  refine mV_aload f8_copyFrom_26 rfl ?_
  refine mV_getP f8_copyFrom_27 (by decide) kk_44 rfl (pp_44_2 _) ?_
  obtain ⟨z2, hz2, hr⟩ := mBind hr
  refine mV_cV f8_copyFrom_30 tg_m6_copyFrom mCls6 (by decide) kk_15 (mC_deep (c6_copyFrom_15_57 X z1 s hz2) (by decide)) rfl rfl (Nat.le_of_ble_eq_true rfl) ?_
  refine mV_aload f8_copyFrom_33 rfl ?_
  refine mV_getP f8_copyFrom_34 (by decide) kk_2 rfl (pp_2_3 _) ?_
  refine mV_aload f8_copyFrom_37 rfl ?_
  refine mV_getP f8_copyFrom_38 (by decide) kk_44 rfl (pp_44_3 _) ?_
  obtain ⟨z3, hz3, hr⟩ := mBind hr
  refine mV_cV f8_copyFrom_41 tg_m6_copyFrom mCls6 (by decide) kk_18 (mC_deep (c6_copyFrom_18_60 X z2 s hz3) (by decide)) rfl rfl (Nat.le_of_ble_eq_true rfl) ?_
  refine mV_aload f8_copyFrom_44 rfl ?_
  refine mV_getP f8_copyFrom_45 (by decide) kk_2 rfl (pp_2_4 _) ?_
  refine mV_aload f8_copyFrom_48 rfl ?_
  refine mV_getP f8_copyFrom_49 (by decide) kk_44 rfl (pp_44_4 _) ?_
  obtain ⟨z4, hz4, hr⟩ := mBind hr
  refine mV_cV f8_copyFrom_52 tg_m6_copyFrom mCls6 (by decide) kk_21 (mC_deep (c6_copyFrom_21_63 X z3 s hz4) (by decide)) rfl rfl (Nat.le_of_ble_eq_true rfl) ?_
  refine mV_aload f8_copyFrom_55 rfl ?_
  refine mV_getP f8_copyFrom_56 (by decide) kk_2 rfl (pp_2_5 _) ?_
  refine mV_aload f8_copyFrom_59 rfl ?_
  refine mV_getP f8_copyFrom_60 (by decide) kk_44 rfl (pp_44_5 _) ?_
  obtain ⟨z5, hz5, hr⟩ := mBind hr
  refine mV_cV f8_copyFrom_63 tg_m6_copyFrom mCls6 (by decide) kk_24 (mC_deep (c6_copyFrom_24_66 X z4 s hz5) (by decide)) rfl rfl (Nat.le_of_ble_eq_true rfl) ?_
  refine mV_aload f8_copyFrom_66 rfl ?_
  refine mV_getP f8_copyFrom_67 (by decide) kk_2 rfl (pp_2_6 _) ?_
  refine mV_aload f8_copyFrom_70 rfl ?_
  refine mV_getP f8_copyFrom_71 (by decide) kk_44 rfl (pp_44_6 _) ?_
  obtain ⟨z6, hz6, hr⟩ := mBind hr
  refine mV_cV f8_copyFrom_74 tg_m1_copyFrom mCls1 (by decide) kk_27 (mC_deep (c1_copyFrom_27_69 X z5 s hz6) (by decide)) rfl rfl (Nat.le_of_ble_eq_true rfl) ?_
  refine mV_aload f8_copyFrom_77 rfl ?_
  refine mV_getP f8_copyFrom_78 (by decide) kk_44 rfl (pp_44_7 _) ?_
  refine mV_push f8_copyFrom_81 ?_
  refine mV_aload f8_copyFrom_82 rfl ?_
  refine mV_getP f8_copyFrom_83 (by decide) kk_2 rfl (pp_2_7 _) ?_
  refine mV_push f8_copyFrom_86 ?_
  refine mV_aload f8_copyFrom_87 rfl ?_
  refine mV_getP f8_copyFrom_88 (by decide) kk_2 rfl (pp_2_7 _) ?_
  refine mV_alen f8_copyFrom_91 (by decide) kk_34 ?_
  refine mV_as 600 (by decide) ?_
  obtain ⟨z7, hz7, hr⟩ := mBind hr
  refine mV_cpO f8_copyFrom_92 (by decide) (by decide) kk_76 kk_34 hz7 (Nat.le_of_ble_eq_true rfl) ?_
  have hr := Option.some.inj hr; subst hr
  exact mV_vret rfl f8_copyFrom_95 hQ
theorem c8_copyFrom_2_44 (X : Nat × (Nat → Int32)) (I : mI) (s : Nat) {res : mI} (hr : r8_copyFrom_2_44 I = some res) : mC X m8_copyFrom 2 0 0 [.ref 2, .ref 44] NN KK I (PP s) (mRet none NN KK res (PP s)) :=
  mC_of (L0 := [.ref 2, .ref 44]) rfl (Nat.le_of_ble_eq_true rfl) (w8_copyFrom_2_44 X I s _ hr (mRet_ok _ _ _ _ _))
def r9_image (I : mI) (x0 : Int32) : Option (Int32 × mI) := if (x0 : Int32) = (0 : Int32) then if (I 0 3 : Int32) = (0 : Int32) then some (0, I) else (r8_copyFrom_2_44 I).bind fun z0 => (r3_forget z0).bind fun z1 => some (1, z1) else (r8_copyFrom_44_2 I).bind fun z2 => some (1, (mW z2 0 3 1))
set_option maxHeartbeats 4000000 in
set_option maxRecDepth 100000 in
theorem w9_image (X : Nat × (Nat → Int32)) (I : mI) (s : Nat) (x0 : Int32) (Q : mQ) {res : Int32 × mI} (hr : r9_image I x0 = some res) (hQ : Q (some (.int res.1)) NN KK res.2 (PP s)) : mV X m9_image 3 0 0 0 [.ref 0, .int x0] [] NN KK I (PP s) Q := by
  unfold r9_image at hr
  refine mV_iload f9_image_0 rfl ?_
  refine mV_if_eq f9_image_1 (fun h0 => ?_) (fun h0 => ?_)
  · rw [if_pos h0] at hr
    refine mV_aload f9_image_22 rfl ?_
    refine mV_gI (I 0 3) f9_image_23 (by decide) kk_0 rfl rfl ?_
    refine mV_if_ne f9_image_26 (fun h1 => ?_) (fun h1 => ?_)
    · rw [if_neg h1] at hr
      refine mV_aload f9_image_31 rfl ?_
      refine mV_getP f9_image_32 (by decide) kk_0 rfl (pp_0_1 _) ?_
      refine mV_aload f9_image_35 rfl ?_
      refine mV_getP f9_image_36 (by decide) kk_0 rfl (pp_0_2 _) ?_
      obtain ⟨z0, hz0, hr⟩ := mBind hr
      refine mV_cV f9_image_39 tg_m8_copyFrom mCls8 (by decide) kk_2 (mC_deep (c8_copyFrom_2_44 X I s hz0) (by decide)) rfl rfl (Nat.le_of_ble_eq_true rfl) ?_
      refine mV_aload f9_image_42 rfl ?_
      refine mV_getP f9_image_43 (by decide) kk_0 rfl (pp_0_4 _) ?_
      obtain ⟨z1, hz1, hr⟩ := mBind hr
      refine mV_cV f9_image_46 tg_m3_forget mCls3 (by decide) kk_77 (mC_deep (c3_forget X z0 s hz1) (by decide)) rfl rfl (Nat.le_of_ble_eq_true rfl) ?_
      refine mV_push f9_image_49 ?_
      have hr := Option.some.inj hr; subst hr
      exact mV_iret rfl rfl f9_image_50 hQ
    · rw [if_pos h1] at hr
      refine mV_push f9_image_29 ?_
      have hr := Option.some.inj hr; subst hr
      exact mV_iret rfl rfl f9_image_30 hQ
  · rw [if_neg h0] at hr
    refine mV_aload f9_image_4 rfl ?_
    refine mV_getP f9_image_5 (by decide) kk_0 rfl (pp_0_2 _) ?_
    refine mV_aload f9_image_8 rfl ?_
    refine mV_getP f9_image_9 (by decide) kk_0 rfl (pp_0_1 _) ?_
    obtain ⟨z2, hz2, hr⟩ := mBind hr
    refine mV_cV f9_image_12 tg_m8_copyFrom mCls8 (by decide) kk_44 (mC_deep (c8_copyFrom_44_2 X I s hz2) (by decide)) rfl rfl (Nat.le_of_ble_eq_true rfl) ?_
    refine mV_aload f9_image_15 rfl ?_
    refine mV_push f9_image_16 ?_
    refine mV_putI f9_image_17 (by decide) kk_0 rfl rfl ?_
    refine mV_push f9_image_20 ?_
    have hr := Option.some.inj hr; subst hr
    exact mV_iret rfl rfl f9_image_21 hQ
theorem c9_image (X : Nat × (Nat → Int32)) (I : mI) (s : Nat) (x0 : Int32) {res : Int32 × mI} (hr : r9_image I x0 = some res) : mC X m9_image 3 0 0 [.ref 0, .int x0] NN KK I (PP s) (mRet (some (.int res.1)) NN KK res.2 (PP s)) :=
  mC_of (L0 := [.ref 0, .int x0]) rfl (Nat.le_of_ble_eq_true rfl) (w9_image X I s x0 _ hr (mRet_ok _ _ _ _ _))

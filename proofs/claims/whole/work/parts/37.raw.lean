def l1_goAlike_2 (I : mI) (k1 : Int32) (k2 : Int32) : Nat → Int32 → Option (Int32)
  | 0, _ => none
  | f + 1, y3 => if (I 27 5 : Int32) ≤ ((k2 + y3) : Int32) then some y3 else (mLd I 28 16 (k1 + y3)).bind fun z0 => (mLd I 28 16 k1).bind fun z1 => (mLd I 28 16 (k2 + y3)).bind fun z2 => (mLd I 28 16 k2).bind fun z3 => if ((z0 - z1) : Int32) = ((z2 - z3) : Int32) then l1_goAlike_2 I k1 k2 f (y3 + 1) else some y3
def r1_goAlike (I : mI) (x0 : Int32) (x1 : Int32) : Option (Int32) := (l1_goAlike_2 I x0 x1 FU 0).bind fun z0 => some z0
set_option maxHeartbeats 4000000 in
set_option maxRecDepth 100000 in
theorem t1_goAlike_2 (X : Nat × (Nat → Int32)) (Q : mQ) (s : Nat) (I : mI) (k1 : Int32) (k2 : Int32) : ∀ (f : Nat) (y3 : Int32) (z : Int32), l1_goAlike_2 I k1 k2 f y3 = some z → mV X m1_goAlike 0 0 0 51 [.ref 27, .int k1, .int k2, .int z] [] NN KK I (PP s) Q → mV X m1_goAlike 0 0 0 2 [.ref 27, .int k1, .int k2, .int y3] [] NN KK I (PP s) Q := by
  intro f
  induction f with
  | zero => intro y3 z hr hk; cases hr
  | succ f ih =>
    intro y3 z hr hk
    unfold l1_goAlike_2 at hr
    refine mV_iload f1_goAlike_2 rfl ?_
    refine mV_iload f1_goAlike_3 rfl ?_
    refine mV_iadd f1_goAlike_4 ?_
    refine mV_aload f1_goAlike_5 rfl ?_
    refine mV_gI (I 27 5) f1_goAlike_6 (by decide) kk_27 rfl rfl ?_
    refine mV_icmp_ge f1_goAlike_9 (fun h0 => ?_) (fun h0 => ?_)
    · rw [if_pos h0] at hr
      have hr := Option.some.inj hr; subst hr
      exact hk
    · rw [if_neg h0] at hr
      refine mV_aload f1_goAlike_12 rfl ?_
      refine mV_getP f1_goAlike_13 (by decide) kk_27 rfl (pp_27_0 _) ?_
      refine mV_iload f1_goAlike_16 rfl ?_
      refine mV_iload f1_goAlike_17 rfl ?_
      refine mV_iadd f1_goAlike_18 ?_
      obtain ⟨z0, hz0, hr⟩ := mBind hr
      refine mV_ldO f1_goAlike_19 (by decide) kk_28 hz0 ?_
      refine mV_aload f1_goAlike_20 rfl ?_
      refine mV_getP f1_goAlike_21 (by decide) kk_27 rfl (pp_27_0 _) ?_
      refine mV_iload f1_goAlike_24 rfl ?_
      obtain ⟨z1, hz1, hr⟩ := mBind hr
      refine mV_ldO f1_goAlike_25 (by decide) kk_28 hz1 ?_
      refine mV_isub f1_goAlike_26 ?_
      refine mV_aload f1_goAlike_27 rfl ?_
      refine mV_getP f1_goAlike_28 (by decide) kk_27 rfl (pp_27_0 _) ?_
      refine mV_iload f1_goAlike_31 rfl ?_
      refine mV_iload f1_goAlike_32 rfl ?_
      refine mV_iadd f1_goAlike_33 ?_
      obtain ⟨z2, hz2, hr⟩ := mBind hr
      refine mV_ldO f1_goAlike_34 (by decide) kk_28 hz2 ?_
      refine mV_aload f1_goAlike_35 rfl ?_
      refine mV_getP f1_goAlike_36 (by decide) kk_27 rfl (pp_27_0 _) ?_
      refine mV_iload f1_goAlike_39 rfl ?_
      obtain ⟨z3, hz3, hr⟩ := mBind hr
      refine mV_ldO f1_goAlike_40 (by decide) kk_28 hz3 ?_
      refine mV_isub f1_goAlike_41 ?_
      refine mV_icmp_ne f1_goAlike_42 (fun h1 => ?_) (fun h1 => ?_)
      · rw [if_neg h1] at hr
        have hr := Option.some.inj hr; subst hr
        exact hk
      · rw [if_pos h1] at hr
        refine mV_iinc (y := (y3 + 1)) (L' := [.ref 27, .int k1, .int k2, .int (y3 + 1)]) f1_goAlike_45 rfl rfl (by decide) rfl rfl ?_
        refine mV_goto f1_goAlike_48 ?_
        exact ih (y3 + 1) _ hr hk
set_option maxHeartbeats 4000000 in
set_option maxRecDepth 100000 in
theorem w1_goAlike (X : Nat × (Nat → Int32)) (I : mI) (s : Nat) (x0 : Int32) (x1 : Int32) (Q : mQ) {res : Int32} (hr : r1_goAlike I x0 x1 = some res) (hQ : Q (some (.int res)) NN KK I (PP s)) : mV X m1_goAlike 0 0 0 0 [.ref 27, .int x0, .int x1, mX0] [] NN KK I (PP s) Q := by
  unfold r1_goAlike at hr
  refine mV_push f1_goAlike_0 ?_
  refine mV_istore (L' := [.ref 27, .int x0, .int x1, .int 0]) f1_goAlike_1 (by decide) rfl rfl ?_
  obtain ⟨z0, hz0, hr⟩ := mBind hr
  refine t1_goAlike_2 X Q s I x0 x1 FU 0 _ hz0 ?_
  refine mV_iload f1_goAlike_51 rfl ?_
  have hr := Option.some.inj hr; subst hr
  exact mV_iret rfl rfl f1_goAlike_52 hQ
theorem c1_goAlike (X : Nat × (Nat → Int32)) (I : mI) (s : Nat) (x0 : Int32) (x1 : Int32) {res : Int32} (hr : r1_goAlike I x0 x1 = some res) : mC X m1_goAlike 0 0 0 [.ref 27, .int x0, .int x1] NN KK I (PP s) (mRet (some (.int res)) NN KK I (PP s)) :=
  mC_of (L0 := [.ref 27, .int x0, .int x1, mX0]) rfl (Nat.le_of_ble_eq_true rfl) (w1_goAlike X I s x0 x1 _ hr (mRet_ok _ _ _ _ _))
def l1_twicePlace_19 (I : mI) (k3 : Int32) : Nat → Int32 → Int32 → Int32 → Option (Int32 × Int32)
  | 0, _, _, _ => none
  | f + 1, y1, y2, y4 => if (I 27 5 : Int32) ≤ (y4 : Int32) then some (y1, y2) else (r1_goAlike I k3 y4).bind fun z0 => (if (z0 : Int32) ≤ (y1 : Int32) then some (y1, y2) else some (z0, k3) : Option (Int32 × Int32)).bind fun z1 => l1_twicePlace_19 I k3 f z1.1 z1.2 (y4 + 1)
def l1_twicePlace_6 (I : mI) : Nat → Int32 → Int32 → Int32 → Option (Int32)
  | 0, _, _, _ => none
  | f + 1, y1, y2, y3 => if (I 27 5 : Int32) ≤ (y3 : Int32) then some y2 else (l1_twicePlace_19 I y3 FU y1 y2 (y3 + 1)).bind fun z0 => l1_twicePlace_6 I f z0.1 z0.2 (y3 + 1)
def r1_twicePlace (I : mI) : Option (Int32) := (l1_twicePlace_6 I FU 1 (-1) 0).bind fun z0 => some z0
set_option maxHeartbeats 4000000 in
set_option maxRecDepth 100000 in
theorem t1_twicePlace_19 (X : Nat × (Nat → Int32)) (Q : mQ) (s : Nat) (I : mI) (k3 : Int32) : ∀ (f : Nat) (y1 : Int32) (y2 : Int32) (y4 : Int32) (z : Int32 × Int32), l1_twicePlace_19 I k3 f y1 y2 y4 = some z → mV X m1_twicePlace 1 0 0 54 [.ref 27, .int z.1, .int z.2, .int k3, mX0, mX0] [] NN KK I (PP s) Q → mV X m1_twicePlace 1 0 0 19 [.ref 27, .int y1, .int y2, .int k3, .int y4, mX0] [] NN KK I (PP s) Q := by
  intro f
  induction f with
  | zero => intro y1 y2 y4 z hr hk; cases hr
  | succ f ih =>
    intro y1 y2 y4 z hr hk
    unfold l1_twicePlace_19 at hr
    refine mV_iload f1_twicePlace_19 rfl ?_
    refine mV_aload f1_twicePlace_21 rfl ?_
    refine mV_gI (I 27 5) f1_twicePlace_22 (by decide) kk_27 rfl rfl ?_
    refine mV_icmp_ge f1_twicePlace_25 (fun h0 => ?_) (fun h0 => ?_)
    · rw [if_pos h0] at hr
      have hr := Option.some.inj hr; subst hr
      refine mV_drop (L' := [.ref 27, .int y1, .int y2, .int k3, mX0, mX0]) (mSub_k (mSub_k (mSub_k (mSub_k (mSub_x (mSub_x mSub_n)))))) ?_
      exact hk
    · rw [if_neg h0] at hr
      refine mV_aload f1_twicePlace_28 rfl ?_
      refine mV_iload f1_twicePlace_29 rfl ?_
      refine mV_iload f1_twicePlace_30 rfl ?_
      obtain ⟨z0, hz0, hr⟩ := mBind hr
      refine mV_cV f1_twicePlace_32 tg_m1_goAlike mCls1 (by decide) kk_27 (mC_deep (c1_goAlike X I s k3 y4 hz0) (by decide)) rfl rfl (Nat.le_of_ble_eq_true rfl) ?_
      refine mV_istore (L' := [.ref 27, .int y1, .int y2, .int k3, .int y4, .int z0]) f1_twicePlace_35 (by decide) rfl rfl ?_
      refine mV_iload f1_twicePlace_37 rfl ?_
      refine mV_iload f1_twicePlace_39 rfl ?_
      obtain ⟨z1, hz1, hr⟩ := mBind hr
      have keyz1 : mV X m1_twicePlace 1 0 0 48 [.ref 27, .int z1.1, .int z1.2, .int k3, .int y4, mX0] [] NN KK I (PP s) Q := by
        refine mV_iinc (y := (y4 + 1)) (L' := [.ref 27, .int z1.1, .int z1.2, .int k3, .int (y4 + 1), mX0]) f1_twicePlace_48 rfl rfl (by decide) rfl rfl ?_
        refine mV_goto f1_twicePlace_51 ?_
        exact ih z1.1 z1.2 (y4 + 1) _ hr hk
      clear hr
      have hr := hz1
      clear hz1
      refine mV_icmp_le f1_twicePlace_40 (fun h1 => ?_) (fun h1 => ?_)
      · rw [if_pos h1] at hr
        have hr := Option.some.inj hr; subst hr
        refine mV_drop (L' := [.ref 27, .int y1, .int y2, .int k3, .int y4, mX0]) (mSub_k (mSub_k (mSub_k (mSub_k (mSub_k (mSub_x mSub_n)))))) ?_
        exact keyz1
      · rw [if_neg h1] at hr
        refine mV_iload f1_twicePlace_43 rfl ?_
        refine mV_istore (L' := [.ref 27, .int z0, .int y2, .int k3, .int y4, .int z0]) f1_twicePlace_45 (by decide) rfl rfl ?_
        refine mV_iload f1_twicePlace_46 rfl ?_
        refine mV_istore (L' := [.ref 27, .int z0, .int k3, .int k3, .int y4, .int z0]) f1_twicePlace_47 (by decide) rfl rfl ?_
        have hr := Option.some.inj hr; subst hr
        refine mV_drop (L' := [.ref 27, .int z0, .int k3, .int k3, .int y4, mX0]) (mSub_k (mSub_k (mSub_k (mSub_k (mSub_k (mSub_x mSub_n)))))) ?_
        exact keyz1
set_option maxHeartbeats 4000000 in
set_option maxRecDepth 100000 in
theorem t1_twicePlace_6 (X : Nat × (Nat → Int32)) (Q : mQ) (s : Nat) (I : mI) : ∀ (f : Nat) (y1 : Int32) (y2 : Int32) (y3 : Int32) (z : Int32), l1_twicePlace_6 I f y1 y2 y3 = some z → mV X m1_twicePlace 1 0 0 60 [.ref 27, mX0, .int z, mX0, mX0, mX0] [] NN KK I (PP s) Q → mV X m1_twicePlace 1 0 0 6 [.ref 27, .int y1, .int y2, .int y3, mX0, mX0] [] NN KK I (PP s) Q := by
  intro f
  induction f with
  | zero => intro y1 y2 y3 z hr hk; cases hr
  | succ f ih =>
    intro y1 y2 y3 z hr hk
    unfold l1_twicePlace_6 at hr
    refine mV_iload f1_twicePlace_6 rfl ?_
    refine mV_aload f1_twicePlace_7 rfl ?_
    refine mV_gI (I 27 5) f1_twicePlace_8 (by decide) kk_27 rfl rfl ?_
    refine mV_icmp_ge f1_twicePlace_11 (fun h0 => ?_) (fun h0 => ?_)
    · rw [if_pos h0] at hr
      have hr := Option.some.inj hr; subst hr
      refine mV_drop (L' := [.ref 27, mX0, .int y2, mX0, mX0, mX0]) (mSub_k (mSub_x (mSub_k (mSub_x (mSub_x (mSub_x mSub_n)))))) ?_
      exact hk
    · rw [if_neg h0] at hr
      refine mV_iload f1_twicePlace_14 rfl ?_
      refine mV_push f1_twicePlace_15 ?_
      refine mV_iadd f1_twicePlace_16 ?_
      refine mV_istore (L' := [.ref 27, .int y1, .int y2, .int y3, .int (y3 + 1), mX0]) f1_twicePlace_17 (by decide) rfl rfl ?_
      obtain ⟨z0, hz0, hr⟩ := mBind hr
      refine t1_twicePlace_19 X Q s I y3 FU y1 y2 (y3 + 1) _ hz0 ?_
      refine mV_iinc (y := (y3 + 1)) (L' := [.ref 27, .int z0.1, .int z0.2, .int (y3 + 1), mX0, mX0]) f1_twicePlace_54 rfl rfl (by decide) rfl rfl ?_
      refine mV_goto f1_twicePlace_57 ?_
      exact ih z0.1 z0.2 (y3 + 1) _ hr hk
set_option maxHeartbeats 4000000 in
set_option maxRecDepth 100000 in
theorem w1_twicePlace (X : Nat × (Nat → Int32)) (I : mI) (s : Nat) (Q : mQ) {res : Int32} (hr : r1_twicePlace I = some res) (hQ : Q (some (.int res)) NN KK I (PP s)) : mV X m1_twicePlace 1 0 0 0 [.ref 27, mX0, mX0, mX0, mX0, mX0] [] NN KK I (PP s) Q := by
  unfold r1_twicePlace at hr
  refine mV_push f1_twicePlace_0 ?_
  refine mV_istore (L' := [.ref 27, .int 1, mX0, mX0, mX0, mX0]) f1_twicePlace_1 (by decide) rfl rfl ?_
  refine mV_push f1_twicePlace_2 ?_
  refine mV_istore (L' := [.ref 27, .int 1, .int (-1), mX0, mX0, mX0]) f1_twicePlace_3 (by decide) rfl rfl ?_
  refine mV_push f1_twicePlace_4 ?_
  refine mV_istore (L' := [.ref 27, .int 1, .int (-1), .int 0, mX0, mX0]) f1_twicePlace_5 (by decide) rfl rfl ?_
  obtain ⟨z0, hz0, hr⟩ := mBind hr
  refine t1_twicePlace_6 X Q s I FU 1 (-1) 0 _ hz0 ?_
  refine mV_iload f1_twicePlace_60 rfl ?_
  have hr := Option.some.inj hr; subst hr
  exact mV_iret rfl rfl f1_twicePlace_61 hQ
theorem c1_twicePlace (X : Nat × (Nat → Int32)) (I : mI) (s : Nat) {res : Int32} (hr : r1_twicePlace I = some res) : mC X m1_twicePlace 1 0 0 [.ref 27] NN KK I (PP s) (mRet (some (.int res)) NN KK I (PP s)) :=
  mC_of (L0 := [.ref 27, mX0, mX0, mX0, mX0, mX0]) rfl (Nat.le_of_ble_eq_true rfl) (w1_twicePlace X I s _ hr (mRet_ok _ _ _ _ _))
def l1_twiceLength_16 (I : mI) (k2 : Int32) : Nat → Int32 → Int32 → Option (Int32)
  | 0, _, _ => none
  | f + 1, y1, y3 => if (I 27 5 : Int32) ≤ (y3 : Int32) then some y1 else (r1_goAlike I k2 y3).bind fun z0 => l1_twiceLength_16 I k2 f (mMax y1 z0) (y3 + 1)
def l1_twiceLength_4 (I : mI) : Nat → Int32 → Int32 → Option (Int32)
  | 0, _, _ => none
  | f + 1, y1, y2 => if (I 27 5 : Int32) ≤ (y2 : Int32) then some y1 else (l1_twiceLength_16 I y2 FU y1 (y2 + 1)).bind fun z0 => l1_twiceLength_4 I f z0 (y2 + 1)
def r1_twiceLength (I : mI) : Option (Int32) := (l1_twiceLength_4 I FU 1 0).bind fun z0 => (if (z0 : Int32) ≤ (1 : Int32) then some 0 else some z0 : Option (Int32)).bind fun z1 => some z1
set_option maxHeartbeats 4000000 in
set_option maxRecDepth 100000 in
theorem t1_twiceLength_16 (X : Nat × (Nat → Int32)) (Q : mQ) (s : Nat) (I : mI) (k2 : Int32) : ∀ (f : Nat) (y1 : Int32) (y3 : Int32) (z : Int32), l1_twiceLength_16 I k2 f y1 y3 = some z → mV X m1_twiceLength 1 0 0 41 [.ref 27, .int z, .int k2, mX0] [] NN KK I (PP s) Q → mV X m1_twiceLength 1 0 0 16 [.ref 27, .int y1, .int k2, .int y3] [] NN KK I (PP s) Q := by
  intro f
  induction f with
  | zero => intro y1 y3 z hr hk; cases hr
  | succ f ih =>
    intro y1 y3 z hr hk
    unfold l1_twiceLength_16 at hr
    refine mV_iload f1_twiceLength_16 rfl ?_
    refine mV_aload f1_twiceLength_17 rfl ?_
    refine mV_gI (I 27 5) f1_twiceLength_18 (by decide) kk_27 rfl rfl ?_
    refine mV_icmp_ge f1_twiceLength_21 (fun h0 => ?_) (fun h0 => ?_)
    · rw [if_pos h0] at hr
      have hr := Option.some.inj hr; subst hr
      refine mV_drop (L' := [.ref 27, .int y1, .int k2, mX0]) (mSub_k (mSub_k (mSub_k (mSub_x mSub_n)))) ?_
      exact hk
    · rw [if_neg h0] at hr
      refine mV_iload f1_twiceLength_24 rfl ?_
      refine mV_aload f1_twiceLength_25 rfl ?_
      refine mV_iload f1_twiceLength_26 rfl ?_
      refine mV_iload f1_twiceLength_27 rfl ?_
      obtain ⟨z0, hz0, hr⟩ := mBind hr
      refine mV_cV f1_twiceLength_28 tg_m1_goAlike mCls1 (by decide) kk_27 (mC_deep (c1_goAlike X I s k2 y3 hz0) (by decide)) rfl rfl (Nat.le_of_ble_eq_true rfl) ?_
      refine mV_maxC fm1_twiceLength_31 (Nat.le_of_ble_eq_true rfl) ?_
      refine mV_istore (L' := [.ref 27, .int (mMax y1 z0), .int k2, .int y3]) f1_twiceLength_34 (by decide) rfl rfl ?_
      refine mV_iinc (y := (y3 + 1)) (L' := [.ref 27, .int (mMax y1 z0), .int k2, .int (y3 + 1)]) f1_twiceLength_35 rfl rfl (by decide) rfl rfl ?_
      refine mV_goto f1_twiceLength_38 ?_
      exact ih (mMax y1 z0) (y3 + 1) _ hr hk
set_option maxHeartbeats 4000000 in
set_option maxRecDepth 100000 in
theorem t1_twiceLength_4 (X : Nat × (Nat → Int32)) (Q : mQ) (s : Nat) (I : mI) : ∀ (f : Nat) (y1 : Int32) (y2 : Int32) (z : Int32), l1_twiceLength_4 I f y1 y2 = some z → mV X m1_twiceLength 1 0 0 47 [.ref 27, .int z, mX0, mX0] [] NN KK I (PP s) Q → mV X m1_twiceLength 1 0 0 4 [.ref 27, .int y1, .int y2, mX0] [] NN KK I (PP s) Q := by
  intro f
  induction f with
  | zero => intro y1 y2 z hr hk; cases hr
  | succ f ih =>
    intro y1 y2 z hr hk
    unfold l1_twiceLength_4 at hr
    refine mV_iload f1_twiceLength_4 rfl ?_
    refine mV_aload f1_twiceLength_5 rfl ?_
    refine mV_gI (I 27 5) f1_twiceLength_6 (by decide) kk_27 rfl rfl ?_
    refine mV_icmp_ge f1_twiceLength_9 (fun h0 => ?_) (fun h0 => ?_)
    · rw [if_pos h0] at hr
      have hr := Option.some.inj hr; subst hr
      refine mV_drop (L' := [.ref 27, .int y1, mX0, mX0]) (mSub_k (mSub_k (mSub_x (mSub_x mSub_n)))) ?_
      exact hk
    · rw [if_neg h0] at hr
      refine mV_iload f1_twiceLength_12 rfl ?_
      refine mV_push f1_twiceLength_13 ?_
      refine mV_iadd f1_twiceLength_14 ?_
      refine mV_istore (L' := [.ref 27, .int y1, .int y2, .int (y2 + 1)]) f1_twiceLength_15 (by decide) rfl rfl ?_
      obtain ⟨z0, hz0, hr⟩ := mBind hr
      refine t1_twiceLength_16 X Q s I y2 FU y1 (y2 + 1) _ hz0 ?_
      refine mV_iinc (y := (y2 + 1)) (L' := [.ref 27, .int z0, .int (y2 + 1), mX0]) f1_twiceLength_41 rfl rfl (by decide) rfl rfl ?_
      refine mV_goto f1_twiceLength_44 ?_
      exact ih z0 (y2 + 1) _ hr hk
set_option maxHeartbeats 4000000 in
set_option maxRecDepth 100000 in
theorem w1_twiceLength (X : Nat × (Nat → Int32)) (I : mI) (s : Nat) (Q : mQ) {res : Int32} (hr : r1_twiceLength I = some res) (hQ : Q (some (.int res)) NN KK I (PP s)) : mV X m1_twiceLength 1 0 0 0 [.ref 27, mX0, mX0, mX0] [] NN KK I (PP s) Q := by
  unfold r1_twiceLength at hr
  refine mV_push f1_twiceLength_0 ?_
  refine mV_istore (L' := [.ref 27, .int 1, mX0, mX0]) f1_twiceLength_1 (by decide) rfl rfl ?_
  refine mV_push f1_twiceLength_2 ?_
  refine mV_istore (L' := [.ref 27, .int 1, .int 0, mX0]) f1_twiceLength_3 (by decide) rfl rfl ?_
  obtain ⟨z0, hz0, hr⟩ := mBind hr
  refine t1_twiceLength_4 X Q s I FU 1 0 _ hz0 ?_
  refine mV_iload f1_twiceLength_47 rfl ?_
  refine mV_push f1_twiceLength_48 ?_
  obtain ⟨z1, hz1, hr⟩ := mBind hr
  have keyz1 : mV X m1_twiceLength 1 0 0 57 [.ref 27, mX0, mX0, mX0] [.int z1] NN KK I (PP s) Q := by
    have hr := Option.some.inj hr; subst hr
    exact mV_iret rfl rfl f1_twiceLength_57 hQ
  clear hr
  have hr := hz1
  clear hz1
  refine mV_icmp_le f1_twiceLength_49 (fun h0 => ?_) (fun h0 => ?_)
  · rw [if_pos h0] at hr
    refine mV_push f1_twiceLength_56 ?_
    have hr := Option.some.inj hr; subst hr
    refine mV_drop (L' := [.ref 27, mX0, mX0, mX0]) (mSub_k (mSub_x (mSub_x (mSub_x mSub_n)))) ?_
    exact keyz1
  · rw [if_neg h0] at hr
    refine mV_iload f1_twiceLength_52 rfl ?_
    refine mV_goto f1_twiceLength_53 ?_
    have hr := Option.some.inj hr; subst hr
    refine mV_drop (L' := [.ref 27, mX0, mX0, mX0]) (mSub_k (mSub_x (mSub_x (mSub_x mSub_n)))) ?_
    exact keyz1
theorem c1_twiceLength (X : Nat × (Nat → Int32)) (I : mI) (s : Nat) {res : Int32} (hr : r1_twiceLength I = some res) : mC X m1_twiceLength 1 0 0 [.ref 27] NN KK I (PP s) (mRet (some (.int res)) NN KK I (PP s)) :=
  mC_of (L0 := [.ref 27, mX0, mX0, mX0]) rfl (Nat.le_of_ble_eq_true rfl) (w1_twiceLength X I s _ hr (mRet_ok _ _ _ _ _))
def r9_tune (I : mI) (x0 : Int32) : Option (Int32 × mI) := if (x0 : Int32) = 0 then (r1_twiceLength I).bind fun z0 => some (z0, I) else if (x0 : Int32) = 1 then (r1_twicePlace I).bind fun z1 => some (z1, I) else if (x0 : Int32) = 2 then (r1_longestRise I).bind fun z2 => some (z2, I) else if (x0 : Int32) = 3 then (r1_fingersCost I).bind fun z3 => some (z3.1, z3.2) else (if (x0 : Int32) < (10 : Int32) then some ((-1), I) else if (I 27 5 : Int32) ≤ ((x0 - 10) : Int32) then some ((-1), I) else (r1_fingerOf I (x0 - 10)).bind fun z5 => some (z5.1, z5.2) : Option (Int32 × mI)).bind fun z4 => some (z4.1, z4.2)
set_option maxHeartbeats 4000000 in
set_option maxRecDepth 100000 in
theorem w9_tune (X : Nat × (Nat → Int32)) (I : mI) (s : Nat) (x0 : Int32) (Q : mQ) {res : Int32 × mI} (hr : r9_tune I x0 = some res) (hQ : Q (some (.int res.1)) NN KK res.2 (PP s)) : mV X m9_tune 5 0 0 0 [.ref 0, .int x0, mX0] [] NN KK I (PP s) Q := by
  unfold r9_tune at hr
  refine mV_aload f9_tune_0 rfl ?_
  refine mV_getP f9_tune_1 (by decide) kk_0 rfl (pp_0_1 _) ?_
  refine mV_getP f9_tune_4 (by decide) kk_2 rfl (pp_2_6 _) ?_
  refine mV_astore (L' := [.ref 0, .int x0, .ref 27]) f9_tune_7 (by decide) rfl rfl ?_
  refine mV_iload f9_tune_8 rfl ?_
  by_cases h0 : x0 = 0
  · rw [if_pos h0] at hr
    refine mV_tabEq (v := 0) f9_tune_9 h0 (by decide) (by decide) (by decide) (by decide : (9 : Int) + 31 = (40 : Nat)) ?_
    refine mV_aload f9_tune_40 rfl ?_
    obtain ⟨z0, hz0, hr⟩ := mBind hr
    refine mV_cV f9_tune_41 tg_m1_twiceLength mCls1 (by decide) kk_27 (mC_deep (c1_twiceLength X I s hz0) (by decide)) rfl rfl (Nat.le_of_ble_eq_true rfl) ?_
    have hr := Option.some.inj hr; subst hr
    exact mV_iret rfl rfl f9_tune_44 hQ
  rw [if_neg h0] at hr
  by_cases h1 : x0 = 1
  · rw [if_pos h1] at hr
    refine mV_tabEq (v := 1) f9_tune_9 h1 (by decide) (by decide) (by decide) (by decide : (9 : Int) + 36 = (45 : Nat)) ?_
    refine mV_aload f9_tune_45 rfl ?_
    obtain ⟨z1, hz1, hr⟩ := mBind hr
    refine mV_cV f9_tune_46 tg_m1_twicePlace mCls1 (by decide) kk_27 (mC_deep (c1_twicePlace X I s hz1) (by decide)) rfl rfl (Nat.le_of_ble_eq_true rfl) ?_
    have hr := Option.some.inj hr; subst hr
    exact mV_iret rfl rfl f9_tune_49 hQ
  rw [if_neg h1] at hr
  by_cases h2 : x0 = 2
  · rw [if_pos h2] at hr
    refine mV_tabEq (v := 2) f9_tune_9 h2 (by decide) (by decide) (by decide) (by decide : (9 : Int) + 41 = (50 : Nat)) ?_
    refine mV_aload f9_tune_50 rfl ?_
    obtain ⟨z2, hz2, hr⟩ := mBind hr
    refine mV_cV f9_tune_51 tg_m1_longestRise mCls1 (by decide) kk_27 (mC_deep (c1_longestRise X I s hz2) (by decide)) rfl rfl (Nat.le_of_ble_eq_true rfl) ?_
    have hr := Option.some.inj hr; subst hr
    exact mV_iret rfl rfl f9_tune_54 hQ
  rw [if_neg h2] at hr
  by_cases h3 : x0 = 3
  · rw [if_pos h3] at hr
    refine mV_tabEq (v := 3) f9_tune_9 h3 (by decide) (by decide) (by decide) (by decide : (9 : Int) + 46 = (55 : Nat)) ?_
    refine mV_aload f9_tune_55 rfl ?_
    obtain ⟨z3, hz3, hr⟩ := mBind hr
    refine mV_cV f9_tune_56 tg_m1_fingersCost mCls1 (by decide) kk_27 (mC_deep (c1_fingersCost X I s hz3) (by decide)) rfl rfl (Nat.le_of_ble_eq_true rfl) ?_
    have hr := Option.some.inj hr; subst hr
    exact mV_iret rfl rfl f9_tune_59 hQ
  rw [if_neg h3] at hr
  refine mV_tabNo f9_tune_9 [0, 1, 2, 3] (by decide) (List.forall_mem_cons.mpr ⟨h0, (List.forall_mem_cons.mpr ⟨h1, (List.forall_mem_cons.mpr ⟨h2, (List.forall_mem_cons.mpr ⟨h3, (fun _ hc => absurd hc List.not_mem_nil)⟩)⟩)⟩)⟩) (by decide : (9 : Int) + 51 = (60 : Nat)) ?_
  refine mV_iload f9_tune_60 rfl ?_
  refine mV_push f9_tune_61 ?_
  obtain ⟨z4, hz4, hr⟩ := mBind hr
  have keyz4 : mV X m9_tune 5 0 0 89 [.ref 0, mX0, .ref 27] [.int z4.1] NN KK z4.2 (PP s) Q := by
    have hr := Option.some.inj hr; subst hr
    exact mV_iret rfl rfl f9_tune_89 hQ
  clear hr
  have hr := hz4
  clear hz4
  refine mV_icmp_lt f9_tune_63 (fun h4 => ?_) (fun h4 => ?_)
  · rw [if_pos h4] at hr
    refine mV_push f9_tune_88 ?_
    have hr := Option.some.inj hr; subst hr
    refine mV_drop (L' := [.ref 0, mX0, .ref 27]) (mSub_k (mSub_x (mSub_k mSub_n))) ?_
    exact keyz4
  · rw [if_neg h4] at hr
    refine mV_iload f9_tune_66 rfl ?_
    refine mV_push f9_tune_67 ?_
    refine mV_isub f9_tune_69 ?_
    refine mV_aload f9_tune_70 rfl ?_
    refine mV_gI (I 27 5) f9_tune_71 (by decide) kk_27 rfl rfl ?_
    refine mV_icmp_ge f9_tune_74 (fun h5 => ?_) (fun h5 => ?_)
    · rw [if_pos h5] at hr
      refine mV_push f9_tune_88 ?_
      have hr := Option.some.inj hr; subst hr
      refine mV_drop (L' := [.ref 0, mX0, .ref 27]) (mSub_k (mSub_x (mSub_k mSub_n))) ?_
      exact keyz4
    · rw [if_neg h5] at hr
      refine mV_aload f9_tune_77 rfl ?_
      refine mV_iload f9_tune_78 rfl ?_
      refine mV_push f9_tune_79 ?_
      refine mV_isub f9_tune_81 ?_
      obtain ⟨z5, hz5, hr⟩ := mBind hr
      refine mV_cV f9_tune_82 tg_m1_fingerOf mCls1 (by decide) kk_27 (mC_deep (c1_fingerOf X I s (x0 - 10) hz5) (by decide)) rfl rfl (Nat.le_of_ble_eq_true rfl) ?_
      refine mV_goto f9_tune_85 ?_
      have hr := Option.some.inj hr; subst hr
      refine mV_drop (L' := [.ref 0, mX0, .ref 27]) (mSub_k (mSub_x (mSub_k mSub_n))) ?_
      exact keyz4
theorem c9_tune (X : Nat × (Nat → Int32)) (I : mI) (s : Nat) (x0 : Int32) {res : Int32 × mI} (hr : r9_tune I x0 = some res) : mC X m9_tune 5 0 0 [.ref 0, .int x0] NN KK I (PP s) (mRet (some (.int res.1)) NN KK res.2 (PP s)) :=
  mC_of (L0 := [.ref 0, .int x0, mX0]) rfl (Nat.le_of_ble_eq_true rfl) (w9_tune X I s x0 _ hr (mRet_ok _ _ _ _ _))
def l1_sweetPlaces_9 (I : mI) (k1 : Int32) (k2 : Int32) : Nat → Int32 → Int32 → Option (Int32)
  | 0, _, _ => none
  | f + 1, y3, y4 => if (I 27 5 : Int32) ≤ (y4 : Int32) then some y3 else (mLd I 28 16 y4).bind fun z0 => (mLd I 28 16 (y4 - k1)).bind fun z1 => (if ((mRm (mAbs ((z0 - z1) - k2)) 12) : Int32) = (0 : Int32) then some (y3 + 1) else if ((mRm (mAbs ((z0 - z1) - k2)) 12) : Int32) = (3 : Int32) then some (y3 + 1) else if ((mRm (mAbs ((z0 - z1) - k2)) 12) : Int32) = (4 : Int32) then some (y3 + 1) else if ((mRm (mAbs ((z0 - z1) - k2)) 12) : Int32) < (7 : Int32) then some y3 else if (9 : Int32) < ((mRm (mAbs ((z0 - z1) - k2)) 12) : Int32) then some y3 else some (y3 + 1) : Option (Int32)).bind fun z2 => l1_sweetPlaces_9 I k1 k2 f z2 (y4 + 1)
def r1_sweetPlaces (I : mI) (x0 : Int32) (x1 : Int32) : Option (Int32) := (l1_sweetPlaces_9 I x0 x1 FU 0 (mMax 0 x0)).bind fun z0 => some z0
set_option maxHeartbeats 4000000 in
set_option maxRecDepth 100000 in
theorem t1_sweetPlaces_9 (X : Nat × (Nat → Int32)) (Q : mQ) (s : Nat) (I : mI) (k1 : Int32) (k2 : Int32) : ∀ (f : Nat) (y3 : Int32) (y4 : Int32) (z : Int32), l1_sweetPlaces_9 I k1 k2 f y3 y4 = some z → mV X m1_sweetPlaces 1 0 0 85 [.ref 27, .int k1, .int k2, .int z, mX0, mX0] [] NN KK I (PP s) Q → mV X m1_sweetPlaces 1 0 0 9 [.ref 27, .int k1, .int k2, .int y3, .int y4, mX0] [] NN KK I (PP s) Q := by
  intro f
  induction f with
  | zero => intro y3 y4 z hr hk; cases hr
  | succ f ih =>
    intro y3 y4 z hr hk
    unfold l1_sweetPlaces_9 at hr
    refine mV_iload f1_sweetPlaces_9 rfl ?_
    refine mV_aload f1_sweetPlaces_11 rfl ?_
    refine mV_gI (I 27 5) f1_sweetPlaces_12 (by decide) kk_27 rfl rfl ?_
    refine mV_icmp_ge f1_sweetPlaces_15 (fun h0 => ?_) (fun h0 => ?_)
    · rw [if_pos h0] at hr
      have hr := Option.some.inj hr; subst hr
      refine mV_drop (L' := [.ref 27, .int k1, .int k2, .int y3, mX0, mX0]) (mSub_k (mSub_k (mSub_k (mSub_k (mSub_x (mSub_x mSub_n)))))) ?_
      exact hk
    · rw [if_neg h0] at hr
      refine mV_aload f1_sweetPlaces_18 rfl ?_
      refine mV_getP f1_sweetPlaces_19 (by decide) kk_27 rfl (pp_27_0 _) ?_
      refine mV_iload f1_sweetPlaces_22 rfl ?_
      obtain ⟨z0, hz0, hr⟩ := mBind hr
      refine mV_ldO f1_sweetPlaces_24 (by decide) kk_28 hz0 ?_
      refine mV_aload f1_sweetPlaces_25 rfl ?_
      refine mV_getP f1_sweetPlaces_26 (by decide) kk_27 rfl (pp_27_0 _) ?_
      refine mV_iload f1_sweetPlaces_29 rfl ?_
      refine mV_iload f1_sweetPlaces_31 rfl ?_
      refine mV_isub f1_sweetPlaces_32 ?_
      obtain ⟨z1, hz1, hr⟩ := mBind hr
      refine mV_ldO f1_sweetPlaces_33 (by decide) kk_28 hz1 ?_
      refine mV_isub f1_sweetPlaces_34 ?_
      refine mV_iload f1_sweetPlaces_35 rfl ?_
      refine mV_isub f1_sweetPlaces_36 ?_
      refine mV_absC fm1_sweetPlaces_37 (Nat.le_of_ble_eq_true rfl) ?_
      refine mV_push f1_sweetPlaces_40 ?_
      refine mV_remC f1_sweetPlaces_42 (by decide) ?_
      refine mV_istore (L' := [.ref 27, .int k1, .int k2, .int y3, .int y4, .int (mRm (mAbs ((z0 - z1) - k2)) 12)]) f1_sweetPlaces_43 (by decide) rfl rfl ?_
      refine mV_iload f1_sweetPlaces_45 rfl ?_
      obtain ⟨z2, hz2, hr⟩ := mBind hr
      have keyz2 : mV X m1_sweetPlaces 1 0 0 79 [.ref 27, .int k1, .int k2, .int z2, .int y4, mX0] [] NN KK I (PP s) Q := by
        refine mV_iinc (y := (y4 + 1)) (L' := [.ref 27, .int k1, .int k2, .int z2, .int (y4 + 1), mX0]) f1_sweetPlaces_79 rfl rfl (by decide) rfl rfl ?_
        refine mV_goto f1_sweetPlaces_82 ?_
        exact ih z2 (y4 + 1) _ hr hk
      clear hr
      have hr := hz2
      clear hz2
      refine mV_if_eq f1_sweetPlaces_47 (fun h1 => ?_) (fun h1 => ?_)
      · rw [if_pos h1] at hr
        refine mV_iinc (y := (y3 + 1)) (L' := [.ref 27, .int k1, .int k2, .int (y3 + 1), .int y4, .int (mRm (mAbs ((z0 - z1) - k2)) 12)]) f1_sweetPlaces_76 rfl rfl (by decide) rfl rfl ?_
        have hr := Option.some.inj hr; subst hr
        refine mV_drop (L' := [.ref 27, .int k1, .int k2, .int (y3 + 1), .int y4, mX0]) (mSub_k (mSub_k (mSub_k (mSub_k (mSub_k (mSub_x mSub_n)))))) ?_
        exact keyz2
      · rw [if_neg h1] at hr
        refine mV_iload f1_sweetPlaces_50 rfl ?_
        refine mV_push f1_sweetPlaces_52 ?_
        refine mV_icmp_eq f1_sweetPlaces_53 (fun h2 => ?_) (fun h2 => ?_)
        · rw [if_pos h2] at hr
          refine mV_iinc (y := (y3 + 1)) (L' := [.ref 27, .int k1, .int k2, .int (y3 + 1), .int y4, .int (mRm (mAbs ((z0 - z1) - k2)) 12)]) f1_sweetPlaces_76 rfl rfl (by decide) rfl rfl ?_
          have hr := Option.some.inj hr; subst hr
          refine mV_drop (L' := [.ref 27, .int k1, .int k2, .int (y3 + 1), .int y4, mX0]) (mSub_k (mSub_k (mSub_k (mSub_k (mSub_k (mSub_x mSub_n)))))) ?_
          exact keyz2
        · rw [if_neg h2] at hr
          refine mV_iload f1_sweetPlaces_56 rfl ?_
          refine mV_push f1_sweetPlaces_58 ?_
          refine mV_icmp_eq f1_sweetPlaces_59 (fun h3 => ?_) (fun h3 => ?_)
          · rw [if_pos h3] at hr
            refine mV_iinc (y := (y3 + 1)) (L' := [.ref 27, .int k1, .int k2, .int (y3 + 1), .int y4, .int (mRm (mAbs ((z0 - z1) - k2)) 12)]) f1_sweetPlaces_76 rfl rfl (by decide) rfl rfl ?_
            have hr := Option.some.inj hr; subst hr
            refine mV_drop (L' := [.ref 27, .int k1, .int k2, .int (y3 + 1), .int y4, mX0]) (mSub_k (mSub_k (mSub_k (mSub_k (mSub_k (mSub_x mSub_n)))))) ?_
            exact keyz2
          · rw [if_neg h3] at hr
            refine mV_iload f1_sweetPlaces_62 rfl ?_
            refine mV_push f1_sweetPlaces_64 ?_
            refine mV_icmp_lt f1_sweetPlaces_66 (fun h4 => ?_) (fun h4 => ?_)
            · rw [if_pos h4] at hr
              have hr := Option.some.inj hr; subst hr
              refine mV_drop (L' := [.ref 27, .int k1, .int k2, .int y3, .int y4, mX0]) (mSub_k (mSub_k (mSub_k (mSub_k (mSub_k (mSub_x mSub_n)))))) ?_
              exact keyz2
            · rw [if_neg h4] at hr
              refine mV_iload f1_sweetPlaces_69 rfl ?_
              refine mV_push f1_sweetPlaces_71 ?_
              refine mV_icmp_gt f1_sweetPlaces_73 (fun h5 => ?_) (fun h5 => ?_)
              · rw [if_pos h5] at hr
                have hr := Option.some.inj hr; subst hr
                refine mV_drop (L' := [.ref 27, .int k1, .int k2, .int y3, .int y4, mX0]) (mSub_k (mSub_k (mSub_k (mSub_k (mSub_k (mSub_x mSub_n)))))) ?_
                exact keyz2
              · rw [if_neg h5] at hr
                refine mV_iinc (y := (y3 + 1)) (L' := [.ref 27, .int k1, .int k2, .int (y3 + 1), .int y4, .int (mRm (mAbs ((z0 - z1) - k2)) 12)]) f1_sweetPlaces_76 rfl rfl (by decide) rfl rfl ?_
                have hr := Option.some.inj hr; subst hr
                refine mV_drop (L' := [.ref 27, .int k1, .int k2, .int (y3 + 1), .int y4, mX0]) (mSub_k (mSub_k (mSub_k (mSub_k (mSub_k (mSub_x mSub_n)))))) ?_
                exact keyz2
set_option maxHeartbeats 4000000 in
set_option maxRecDepth 100000 in
theorem w1_sweetPlaces (X : Nat × (Nat → Int32)) (I : mI) (s : Nat) (x0 : Int32) (x1 : Int32) (Q : mQ) {res : Int32} (hr : r1_sweetPlaces I x0 x1 = some res) (hQ : Q (some (.int res)) NN KK I (PP s)) : mV X m1_sweetPlaces 1 0 0 0 [.ref 27, .int x0, .int x1, mX0, mX0, mX0] [] NN KK I (PP s) Q := by
  unfold r1_sweetPlaces at hr
  refine mV_push f1_sweetPlaces_0 ?_
  refine mV_istore (L' := [.ref 27, .int x0, .int x1, .int 0, mX0, mX0]) f1_sweetPlaces_1 (by decide) rfl rfl ?_
  refine mV_push f1_sweetPlaces_2 ?_
  refine mV_iload f1_sweetPlaces_3 rfl ?_
  refine mV_maxC fm1_sweetPlaces_4 (Nat.le_of_ble_eq_true rfl) ?_
  refine mV_istore (L' := [.ref 27, .int x0, .int x1, .int 0, .int (mMax 0 x0), mX0]) f1_sweetPlaces_7 (by decide) rfl rfl ?_
  obtain ⟨z0, hz0, hr⟩ := mBind hr
  refine t1_sweetPlaces_9 X Q s I x0 x1 FU 0 (mMax 0 x0) _ hz0 ?_
  refine mV_iload f1_sweetPlaces_85 rfl ?_
  have hr := Option.some.inj hr; subst hr
  exact mV_iret rfl rfl f1_sweetPlaces_86 hQ
theorem c1_sweetPlaces (X : Nat × (Nat → Int32)) (I : mI) (s : Nat) (x0 : Int32) (x1 : Int32) {res : Int32} (hr : r1_sweetPlaces I x0 x1 = some res) : mC X m1_sweetPlaces 1 0 0 [.ref 27, .int x0, .int x1] NN KK I (PP s) (mRet (some (.int res)) NN KK I (PP s)) :=
  mC_of (L0 := [.ref 27, .int x0, .int x1, mX0, mX0, mX0]) rfl (Nat.le_of_ble_eq_true rfl) (w1_sweetPlaces X I s x0 x1 _ hr (mRet_ok _ _ _ _ _))
def r9_canon (I : mI) (x0 : Int32) (x1 : Int32) (x2 : Int32) : Option (Int32) := if (x0 : Int32) < (1 : Int32) then some (-1) else if (15 : Int32) < (x0 : Int32) then some (-1) else if (x1 : Int32) < (0 : Int32) then some (-1) else if (12 : Int32) < (x1 : Int32) then some (-1) else if (x2 : Int32) < (0 : Int32) then some (-1) else if (x2 : Int32) ≤ (1 : Int32) then (if (x2 : Int32) = (0 : Int32) then some (mMax 0 (I 27 5 - x0)) else (r1_sweetPlaces I x0 x1).bind fun z1 => some z1 : Option (Int32)).bind fun z0 => some z0 else some (-1)
set_option maxHeartbeats 4000000 in
set_option maxRecDepth 100000 in
theorem w9_canon (X : Nat × (Nat → Int32)) (I : mI) (s : Nat) (x0 : Int32) (x1 : Int32) (x2 : Int32) (Q : mQ) {res : Int32} (hr : r9_canon I x0 x1 x2 = some res) (hQ : Q (some (.int res)) NN KK I (PP s)) : mV X m9_canon 2 0 0 0 [.ref 0, .int x0, .int x1, .int x2] [] NN KK I (PP s) Q := by
  unfold r9_canon at hr
  refine mV_iload f9_canon_0 rfl ?_
  refine mV_push f9_canon_1 ?_
  refine mV_icmp_lt f9_canon_2 (fun h0 => ?_) (fun h0 => ?_)
  · rw [if_pos h0] at hr
    refine mV_push f9_canon_30 ?_
    have hr := Option.some.inj hr; subst hr
    exact mV_iret rfl rfl f9_canon_31 hQ
  · rw [if_neg h0] at hr
    refine mV_iload f9_canon_5 rfl ?_
    refine mV_push f9_canon_6 ?_
    refine mV_icmp_gt f9_canon_8 (fun h1 => ?_) (fun h1 => ?_)
    · rw [if_pos h1] at hr
      refine mV_push f9_canon_30 ?_
      have hr := Option.some.inj hr; subst hr
      exact mV_iret rfl rfl f9_canon_31 hQ
    · rw [if_neg h1] at hr
      refine mV_iload f9_canon_11 rfl ?_
      refine mV_if_lt f9_canon_12 (fun h2 => ?_) (fun h2 => ?_)
      · rw [if_pos h2] at hr
        refine mV_push f9_canon_30 ?_
        have hr := Option.some.inj hr; subst hr
        exact mV_iret rfl rfl f9_canon_31 hQ
      · rw [if_neg h2] at hr
        refine mV_iload f9_canon_15 rfl ?_
        refine mV_push f9_canon_16 ?_
        refine mV_icmp_gt f9_canon_18 (fun h3 => ?_) (fun h3 => ?_)
        · rw [if_pos h3] at hr
          refine mV_push f9_canon_30 ?_
          have hr := Option.some.inj hr; subst hr
          exact mV_iret rfl rfl f9_canon_31 hQ
        · rw [if_neg h3] at hr
          refine mV_iload f9_canon_21 rfl ?_
          refine mV_if_lt f9_canon_22 (fun h4 => ?_) (fun h4 => ?_)
          · rw [if_pos h4] at hr
            refine mV_push f9_canon_30 ?_
            have hr := Option.some.inj hr; subst hr
            exact mV_iret rfl rfl f9_canon_31 hQ
          · rw [if_neg h4] at hr
            refine mV_iload f9_canon_25 rfl ?_
            refine mV_push f9_canon_26 ?_
            refine mV_icmp_le f9_canon_27 (fun h5 => ?_) (fun h5 => ?_)
            · rw [if_pos h5] at hr
              refine mV_iload f9_canon_32 rfl ?_
              obtain ⟨z0, hz0, hr⟩ := mBind hr
              have keyz0 : mV X m9_canon 2 0 0 67 [.ref 0, mX0, mX0, mX0] [.int z0] NN KK I (PP s) Q := by
                have hr := Option.some.inj hr; subst hr
                exact mV_iret rfl rfl f9_canon_67 hQ
              clear hr
              have hr := hz0
              clear hz0
              refine mV_if_ne f9_canon_33 (fun h6 => ?_) (fun h6 => ?_)
              · rw [if_neg h6] at hr
                refine mV_aload f9_canon_55 rfl ?_
                refine mV_getP f9_canon_56 (by decide) kk_0 rfl (pp_0_1 _) ?_
                refine mV_getP f9_canon_59 (by decide) kk_2 rfl (pp_2_6 _) ?_
                refine mV_iload f9_canon_62 rfl ?_
                refine mV_iload f9_canon_63 rfl ?_
                obtain ⟨z1, hz1, hr⟩ := mBind hr
                refine mV_cV f9_canon_64 tg_m1_sweetPlaces mCls1 (by decide) kk_27 (mC_deep (c1_sweetPlaces X I s x0 x1 hz1) (by decide)) rfl rfl (Nat.le_of_ble_eq_true rfl) ?_
                have hr := Option.some.inj hr; subst hr
                refine mV_drop (L' := [.ref 0, mX0, mX0, mX0]) (mSub_k (mSub_x (mSub_x (mSub_x mSub_n)))) ?_
                exact keyz0
              · rw [if_pos h6] at hr
                refine mV_push f9_canon_36 ?_
                refine mV_aload f9_canon_37 rfl ?_
                refine mV_getP f9_canon_38 (by decide) kk_0 rfl (pp_0_1 _) ?_
                refine mV_getP f9_canon_41 (by decide) kk_2 rfl (pp_2_6 _) ?_
                refine mV_gI (I 27 5) f9_canon_44 (by decide) kk_27 rfl rfl ?_
                refine mV_iload f9_canon_47 rfl ?_
                refine mV_isub f9_canon_48 ?_
                refine mV_maxC fm9_canon_49 (Nat.le_of_ble_eq_true rfl) ?_
                refine mV_goto f9_canon_52 ?_
                have hr := Option.some.inj hr; subst hr
                refine mV_drop (L' := [.ref 0, mX0, mX0, mX0]) (mSub_k (mSub_x (mSub_x (mSub_x mSub_n)))) ?_
                exact keyz0
            · rw [if_neg h5] at hr
              refine mV_push f9_canon_30 ?_
              have hr := Option.some.inj hr; subst hr
              exact mV_iret rfl rfl f9_canon_31 hQ
theorem c9_canon (X : Nat × (Nat → Int32)) (I : mI) (s : Nat) (x0 : Int32) (x1 : Int32) (x2 : Int32) {res : Int32} (hr : r9_canon I x0 x1 x2 = some res) : mC X m9_canon 2 0 0 [.ref 0, .int x0, .int x1, .int x2] NN KK I (PP s) (mRet (some (.int res)) NN KK I (PP s)) :=
  mC_of (L0 := [.ref 0, .int x0, .int x1, .int x2]) rfl (Nat.le_of_ble_eq_true rfl) (w9_canon X I s x0 x1 x2 _ hr (mRet_ok _ _ _ _ _))
def rJ9_floorMod (x0 : Int32) (x1 : Int32) : Option (Int32) := (mRemO x0 x1).bind fun z0 => if (0 : Int32) ≤ ((x0 ^^^ x1) : Int32) then some z0 else if (z0 : Int32) = (0 : Int32) then some z0 else some (z0 + x1)
set_option maxHeartbeats 4000000 in
set_option maxRecDepth 100000 in
theorem wJ9_floorMod (X : Nat × (Nat → Int32)) (I : mI) (s : Nat) (x0 : Int32) (x1 : Int32) (Q : mQ) {res : Int32} (hr : rJ9_floorMod x0 x1 = some res) (hQ : Q (some (.int res)) NN KK I (PP s)) : mV X mJ9_floorMod 0 0 0 0 [.int x0, .int x1, mX0] [] NN KK I (PP s) Q := by
  unfold rJ9_floorMod at hr
  refine mV_iload fJ9_floorMod_0 rfl ?_
  refine mV_iload fJ9_floorMod_1 rfl ?_
  obtain ⟨z0, hz0, hr⟩ := mBind hr
  refine mV_remO fJ9_floorMod_2 hz0 ?_
  refine mV_istore (L' := [.int x0, .int x1, .int z0]) fJ9_floorMod_3 (by decide) rfl rfl ?_
  refine mV_iload fJ9_floorMod_4 rfl ?_
  refine mV_iload fJ9_floorMod_5 rfl ?_
  refine mV_ixor fJ9_floorMod_6 ?_
  refine mV_if_ge fJ9_floorMod_7 (fun h0 => ?_) (fun h0 => ?_)
  · rw [if_pos h0] at hr
    refine mV_iload fJ9_floorMod_18 rfl ?_
    have hr := Option.some.inj hr; subst hr
    exact mV_iret rfl rfl fJ9_floorMod_19 hQ
  · rw [if_neg h0] at hr
    refine mV_iload fJ9_floorMod_10 rfl ?_
    refine mV_if_eq fJ9_floorMod_11 (fun h1 => ?_) (fun h1 => ?_)
    · rw [if_pos h1] at hr
      refine mV_iload fJ9_floorMod_18 rfl ?_
      have hr := Option.some.inj hr; subst hr
      exact mV_iret rfl rfl fJ9_floorMod_19 hQ
    · rw [if_neg h1] at hr
      refine mV_iload fJ9_floorMod_14 rfl ?_
      refine mV_iload fJ9_floorMod_15 rfl ?_
      refine mV_iadd fJ9_floorMod_16 ?_
      have hr := Option.some.inj hr; subst hr
      exact mV_iret rfl rfl fJ9_floorMod_17 hQ
theorem cJ9_floorMod (X : Nat × (Nat → Int32)) (I : mI) (s : Nat) (x0 : Int32) (x1 : Int32) {res : Int32} (hr : rJ9_floorMod x0 x1 = some res) : mC X mJ9_floorMod 0 0 0 [.int x0, .int x1] NN KK I (PP s) (mRet (some (.int res)) NN KK I (PP s)) :=
  mC_of (L0 := [.int x0, .int x1, mX0]) rfl (Nat.le_of_ble_eq_true rfl) (wJ9_floorMod X I s x0 x1 _ hr (mRet_ok _ _ _ _ _))
def l2_fillings_14 : Nat → Int32 → mI → Option (mI)
  | 0, _, _ => none
  | f + 1, y5, I => if (8 : Int32) < (y5 : Int32) then some I else (mSto I 118 225 y5 0).bind fun z0 => l2_fillings_14 f (y5 + 1) z0
def l2_fillings_57 (k2 : Int32) (k3 : Int32) (k4 : Int32) (k5 : Int32) : Nat → Int32 → Int32 → mI → Option (Int32 × mI)
  | 0, _, _, _ => none
  | f + 1, y6, y7, I => if (8 : Int32) < (y7 : Int32) then some (y6, I) else (if (k5 : Int32) < (y7 : Int32) then some 0 else if ((((k2 : Int32) >>> ((y7 - 1) &&& 31)) &&& 1) : Int32) = (0 : Int32) then some 0 else (mLd I 118 225 ((k5 - y7) * k4)).bind fun z1 => (if (k3 : Int32) = (0 : Int32) then some 0 else (mLd I 118 225 (((k5 - y7) * k4) + y7)).bind fun z3 => some z3 : Option (Int32)).bind fun z2 => (rJ9_floorMod (z1 - z2) 1000000007).bind fun z4 => some z4 : Option (Int32)).bind fun z0 => (mSto I 118 225 ((k5 * k4) + y7) z0).bind fun z5 => (mRemL ((y6 : Int32).toInt64 + (z0 : Int32).toInt64) 1000000007).bind fun z6 => l2_fillings_57 k2 k3 k4 k5 f ((z6 : Int64).toInt32) (y7 + 1) z5
def l2_fillings_38 (k1 : Int32) (k2 : Int32) (k3 : Int32) (k4 : Int32) : Nat → Int32 → mI → Option (mI)
  | 0, _, _ => none
  | f + 1, y5, I => if (k1 : Int32) < (y5 : Int32) then some I else if (24 : Int32) < (y5 : Int32) then some I else (l2_fillings_57 k2 k3 k4 y5 FU 0 1 I).bind fun z0 => (mSto z0.2 118 225 (y5 * k4) z0.1).bind fun z1 => l2_fillings_38 k1 k2 k3 k4 f (y5 + 1) z1
def r2_fillings (I : mI) (x0 : Int32) (x1 : Int32) (x2 : Int32) : Option (Int32 × mI) := (l2_fillings_14 FU 1 (mW I 118 0 1)).bind fun z0 => (l2_fillings_38 x0 x1 x2 9 FU 1 z0).bind fun z1 => (if (x0 : Int32) < (0 : Int32) then some 0 else if (24 : Int32) < (x0 : Int32) then some 0 else (mLd z1 118 225 (x0 * 9)).bind fun z3 => some z3 : Option (Int32)).bind fun z2 => some (z2, z1)
set_option maxHeartbeats 4000000 in
set_option maxRecDepth 100000 in
theorem t2_fillings_14 (X : Nat × (Nat → Int32)) (Q : mQ) (s : Nat) (k1 : Int32) (k2 : Int32) (k3 : Int32) (k4 : Int32) : ∀ (f : Nat) (y5 : Int32) (I : mI) (z : mI), l2_fillings_14 f y5 I = some z → mV X m2_fillings 1 0 0 35 [.ref 117, .int k1, .int k2, .int k3, .int k4, mX0, mX0, mX0, mX0, mX0] [] NN KK z (PP s) Q → mV X m2_fillings 1 0 0 14 [.ref 117, .int k1, .int k2, .int k3, .int k4, .int y5, mX0, mX0, mX0, mX0] [] NN KK I (PP s) Q := by
  intro f
  induction f with
  | zero => intro y5 I z hr hk; cases hr
  | succ f ih =>
    intro y5 I z hr hk
    unfold l2_fillings_14 at hr
    refine mV_iload f2_fillings_14 rfl ?_
    refine mV_push f2_fillings_16 ?_
    refine mV_icmp_gt f2_fillings_18 (fun h0 => ?_) (fun h0 => ?_)
    · rw [if_pos h0] at hr
      have hr := Option.some.inj hr; subst hr
      refine mV_drop (L' := [.ref 117, .int k1, .int k2, .int k3, .int k4, mX0, mX0, mX0, mX0, mX0]) (mSub_k (mSub_k (mSub_k (mSub_k (mSub_k (mSub_x (mSub_x (mSub_x (mSub_x (mSub_x mSub_n)))))))))) ?_
      exact hk
    · rw [if_neg h0] at hr
      refine mV_aload f2_fillings_21 rfl ?_
      refine mV_getP f2_fillings_22 (by decide) kk_117 rfl (pp_117_0 _) ?_
      refine mV_iload f2_fillings_25 rfl ?_
      refine mV_push f2_fillings_27 ?_
      obtain ⟨z0, hz0, hr⟩ := mBind hr
      refine mV_stO f2_fillings_28 (by decide) kk_118 hz0 ?_
      refine mV_iinc (y := (y5 + 1)) (L' := [.ref 117, .int k1, .int k2, .int k3, .int k4, .int (y5 + 1), mX0, mX0, mX0, mX0]) f2_fillings_29 rfl rfl (by decide) rfl rfl ?_
      refine mV_goto f2_fillings_32 ?_
      exact ih (y5 + 1) z0 _ hr hk
set_option maxHeartbeats 4000000 in
set_option maxRecDepth 100000 in
theorem t2_fillings_57 (X : Nat × (Nat → Int32)) (Q : mQ) (s : Nat) (k1 : Int32) (k2 : Int32) (k3 : Int32) (k4 : Int32) (k5 : Int32) : ∀ (f : Nat) (y6 : Int32) (y7 : Int32) (I : mI) (z : Int32 × mI), l2_fillings_57 k2 k3 k4 k5 f y6 y7 I = some z → mV X m2_fillings 1 0 0 167 [.ref 117, .int k1, .int k2, .int k3, .int k4, .int k5, .int z.1, mX0, mX0, mX0] [] NN KK z.2 (PP s) Q → mV X m2_fillings 1 0 0 57 [.ref 117, .int k1, .int k2, .int k3, .int k4, .int k5, .int y6, .int y7, mX0, mX0] [] NN KK I (PP s) Q := by
  intro f
  induction f with
  | zero => intro y6 y7 I z hr hk; cases hr
  | succ f ih =>
    intro y6 y7 I z hr hk
    unfold l2_fillings_57 at hr
    refine mV_iload f2_fillings_57 rfl ?_
    refine mV_push f2_fillings_59 ?_
    refine mV_icmp_gt f2_fillings_61 (fun h0 => ?_) (fun h0 => ?_)
    · rw [if_pos h0] at hr
      have hr := Option.some.inj hr; subst hr
      refine mV_drop (L' := [.ref 117, .int k1, .int k2, .int k3, .int k4, .int k5, .int y6, mX0, mX0, mX0]) (mSub_k (mSub_k (mSub_k (mSub_k (mSub_k (mSub_k (mSub_k (mSub_x (mSub_x (mSub_x mSub_n)))))))))) ?_
      exact hk
    · rw [if_neg h0] at hr
      refine mV_push f2_fillings_64 ?_
      refine mV_istore (L' := [.ref 117, .int k1, .int k2, .int k3, .int k4, .int k5, .int y6, .int y7, .int 0, mX0]) f2_fillings_65 (by decide) rfl rfl ?_
      refine mV_iload f2_fillings_67 rfl ?_
      refine mV_iload f2_fillings_69 rfl ?_
      obtain ⟨z0, hz0, hr⟩ := mBind hr
      have keyz0 : mV X m2_fillings 1 0 0 132 [.ref 117, .int k1, .int k2, .int k3, .int k4, .int k5, .int y6, .int y7, .int z0, mX0] [] NN KK I (PP s) Q := by
        refine mV_aload f2_fillings_132 rfl ?_
        refine mV_getP f2_fillings_133 (by decide) kk_117 rfl (pp_117_0 _) ?_
        refine mV_iload f2_fillings_136 rfl ?_
        refine mV_iload f2_fillings_138 rfl ?_
        refine mV_imul f2_fillings_140 ?_
        refine mV_iload f2_fillings_141 rfl ?_
        refine mV_iadd f2_fillings_143 ?_
        refine mV_iload f2_fillings_144 rfl ?_
        obtain ⟨z5, hz5, hr⟩ := mBind hr
        refine mV_stO f2_fillings_146 (by decide) kk_118 hz5 ?_
        refine mV_iload f2_fillings_147 rfl ?_
        refine mV_i2l f2_fillings_149 ?_
        refine mV_iload f2_fillings_150 rfl ?_
        refine mV_i2l f2_fillings_152 ?_
        refine mV_ladd f2_fillings_153 ?_
        refine mV_pushL f2_fillings_154 ?_
        obtain ⟨z6, hz6, hr⟩ := mBind hr
        refine mV_remL f2_fillings_157 hz6 ?_
        refine mV_l2i f2_fillings_158 ?_
        refine mV_istore (L' := [.ref 117, .int k1, .int k2, .int k3, .int k4, .int k5, .int ((z6 : Int64).toInt32), .int y7, .int z0, mX0]) f2_fillings_159 (by decide) rfl rfl ?_
        refine mV_iinc (y := (y7 + 1)) (L' := [.ref 117, .int k1, .int k2, .int k3, .int k4, .int k5, .int ((z6 : Int64).toInt32), .int (y7 + 1), .int z0, mX0]) f2_fillings_161 rfl rfl (by decide) rfl rfl ?_
        refine mV_goto f2_fillings_164 ?_
        refine mV_drop (L' := [.ref 117, .int k1, .int k2, .int k3, .int k4, .int k5, .int ((z6 : Int64).toInt32), .int (y7 + 1), mX0, mX0]) (mSub_k (mSub_k (mSub_k (mSub_k (mSub_k (mSub_k (mSub_k (mSub_k (mSub_x (mSub_x mSub_n)))))))))) ?_
        exact ih ((z6 : Int64).toInt32) (y7 + 1) z5 _ hr hk
      clear hr
      have hr := hz0
      clear hz0
      refine mV_icmp_gt f2_fillings_71 (fun h1 => ?_) (fun h1 => ?_)
      · rw [if_pos h1] at hr
        have hr := Option.some.inj hr; subst hr
        exact keyz0
      · rw [if_neg h1] at hr
        refine mV_iload f2_fillings_74 rfl ?_
        refine mV_iload f2_fillings_75 rfl ?_
        refine mV_push f2_fillings_77 ?_
        refine mV_isub f2_fillings_78 ?_
        refine mV_ishr f2_fillings_79 ?_
        refine mV_push f2_fillings_80 ?_
        refine mV_iand f2_fillings_81 ?_
        refine mV_if_eq f2_fillings_82 (fun h2 => ?_) (fun h2 => ?_)
        · rw [if_pos h2] at hr
          have hr := Option.some.inj hr; subst hr
          exact keyz0
        · rw [if_neg h2] at hr
          refine mV_iload f2_fillings_85 rfl ?_
          refine mV_iload f2_fillings_87 rfl ?_
          refine mV_isub f2_fillings_89 ?_
          refine mV_iload f2_fillings_90 rfl ?_
          refine mV_imul f2_fillings_92 ?_
          refine mV_istore (L' := [.ref 117, .int k1, .int k2, .int k3, .int k4, .int k5, .int y6, .int y7, .int 0, .int ((k5 - y7) * k4)]) f2_fillings_93 (by decide) rfl rfl ?_
          refine mV_aload f2_fillings_95 rfl ?_
          refine mV_getP f2_fillings_96 (by decide) kk_117 rfl (pp_117_0 _) ?_
          refine mV_iload f2_fillings_99 rfl ?_
          obtain ⟨z1, hz1, hr⟩ := mBind hr
          refine mV_ldO f2_fillings_101 (by decide) kk_118 hz1 ?_
          refine mV_iload f2_fillings_102 rfl ?_
          obtain ⟨z2, hz2, hr⟩ := mBind hr
          have keyz2 : mV X m2_fillings 1 0 0 120 [.ref 117, .int k1, .int k2, .int k3, .int k4, .int k5, .int y6, .int y7, mX0, mX0] [.int z2, .int z1] NN KK I (PP s) Q := by
            refine mV_isub f2_fillings_120 ?_
            refine mV_istore (L' := [.ref 117, .int k1, .int k2, .int k3, .int k4, .int k5, .int y6, .int y7, .int (z1 - z2), mX0]) f2_fillings_121 (by decide) rfl rfl ?_
            refine mV_iload f2_fillings_123 rfl ?_
            refine mV_push f2_fillings_125 ?_
            obtain ⟨z4, hz4, hr⟩ := mBind hr
            refine mV_cF f2_fillings_127 tg_mJ9_floorMod (mC_deep (cJ9_floorMod X I s (z1 - z2) 1000000007 hz4) (by decide)) rfl rfl (Nat.le_of_ble_eq_true rfl) ?_
            refine mV_istore (L' := [.ref 117, .int k1, .int k2, .int k3, .int k4, .int k5, .int y6, .int y7, .int z4, mX0]) f2_fillings_130 (by decide) rfl rfl ?_
            have hr := Option.some.inj hr; subst hr
            exact keyz0
          clear hr
          have hr := hz2
          clear hz2
          refine mV_if_eq f2_fillings_103 (fun h3 => ?_) (fun h3 => ?_)
          · rw [if_pos h3] at hr
            refine mV_push f2_fillings_119 ?_
            have hr := Option.some.inj hr; subst hr
            refine mV_drop (L' := [.ref 117, .int k1, .int k2, .int k3, .int k4, .int k5, .int y6, .int y7, mX0, mX0]) (mSub_k (mSub_k (mSub_k (mSub_k (mSub_k (mSub_k (mSub_k (mSub_k (mSub_x (mSub_x mSub_n)))))))))) ?_
            exact keyz2
          · rw [if_neg h3] at hr
            refine mV_aload f2_fillings_106 rfl ?_
            refine mV_getP f2_fillings_107 (by decide) kk_117 rfl (pp_117_0 _) ?_
            refine mV_iload f2_fillings_110 rfl ?_
            refine mV_iload f2_fillings_112 rfl ?_
            refine mV_iadd f2_fillings_114 ?_
            obtain ⟨z3, hz3, hr⟩ := mBind hr
            refine mV_ldO f2_fillings_115 (by decide) kk_118 hz3 ?_
            refine mV_goto f2_fillings_116 ?_
            have hr := Option.some.inj hr; subst hr
            refine mV_drop (L' := [.ref 117, .int k1, .int k2, .int k3, .int k4, .int k5, .int y6, .int y7, mX0, mX0]) (mSub_k (mSub_k (mSub_k (mSub_k (mSub_k (mSub_k (mSub_k (mSub_k (mSub_x (mSub_x mSub_n)))))))))) ?_
            exact keyz2
set_option maxHeartbeats 4000000 in
set_option maxRecDepth 100000 in
theorem t2_fillings_38 (X : Nat × (Nat → Int32)) (Q : mQ) (s : Nat) (k1 : Int32) (k2 : Int32) (k3 : Int32) (k4 : Int32) : ∀ (f : Nat) (y5 : Int32) (I : mI) (z : mI), l2_fillings_38 k1 k2 k3 k4 f y5 I = some z → mV X m2_fillings 1 0 0 185 [.ref 117, .int k1, .int k2, .int k3, .int k4, mX0, mX0, mX0, mX0, mX0] [] NN KK z (PP s) Q → mV X m2_fillings 1 0 0 38 [.ref 117, .int k1, .int k2, .int k3, .int k4, .int y5, mX0, mX0, mX0, mX0] [] NN KK I (PP s) Q := by
  intro f
  induction f with
  | zero => intro y5 I z hr hk; cases hr
  | succ f ih =>
    intro y5 I z hr hk
    unfold l2_fillings_38 at hr
    refine mV_iload f2_fillings_38 rfl ?_
    refine mV_iload f2_fillings_40 rfl ?_
    refine mV_icmp_gt f2_fillings_41 (fun h0 => ?_) (fun h0 => ?_)
    · rw [if_pos h0] at hr
      have hr := Option.some.inj hr; subst hr
      refine mV_drop (L' := [.ref 117, .int k1, .int k2, .int k3, .int k4, mX0, mX0, mX0, mX0, mX0]) (mSub_k (mSub_k (mSub_k (mSub_k (mSub_k (mSub_x (mSub_x (mSub_x (mSub_x (mSub_x mSub_n)))))))))) ?_
      exact hk
    · rw [if_neg h0] at hr
      refine mV_iload f2_fillings_44 rfl ?_
      refine mV_push f2_fillings_46 ?_
      refine mV_icmp_gt f2_fillings_48 (fun h1 => ?_) (fun h1 => ?_)
      · rw [if_pos h1] at hr
        have hr := Option.some.inj hr; subst hr
        refine mV_drop (L' := [.ref 117, .int k1, .int k2, .int k3, .int k4, mX0, mX0, mX0, mX0, mX0]) (mSub_k (mSub_k (mSub_k (mSub_k (mSub_k (mSub_x (mSub_x (mSub_x (mSub_x (mSub_x mSub_n)))))))))) ?_
        exact hk
      · rw [if_neg h1] at hr
        refine mV_push f2_fillings_51 ?_
        refine mV_istore (L' := [.ref 117, .int k1, .int k2, .int k3, .int k4, .int y5, .int 0, mX0, mX0, mX0]) f2_fillings_52 (by decide) rfl rfl ?_
        refine mV_push f2_fillings_54 ?_
        refine mV_istore (L' := [.ref 117, .int k1, .int k2, .int k3, .int k4, .int y5, .int 0, .int 1, mX0, mX0]) f2_fillings_55 (by decide) rfl rfl ?_
        obtain ⟨z0, hz0, hr⟩ := mBind hr
        refine t2_fillings_57 X Q s k1 k2 k3 k4 y5 FU 0 1 I _ hz0 ?_
        refine mV_aload f2_fillings_167 rfl ?_
        refine mV_getP f2_fillings_168 (by decide) kk_117 rfl (pp_117_0 _) ?_
        refine mV_iload f2_fillings_171 rfl ?_
        refine mV_iload f2_fillings_173 rfl ?_
        refine mV_imul f2_fillings_175 ?_
        refine mV_iload f2_fillings_176 rfl ?_
        obtain ⟨z1, hz1, hr⟩ := mBind hr
        refine mV_stO f2_fillings_178 (by decide) kk_118 hz1 ?_
        refine mV_iinc (y := (y5 + 1)) (L' := [.ref 117, .int k1, .int k2, .int k3, .int k4, .int (y5 + 1), .int z0.1, mX0, mX0, mX0]) f2_fillings_179 rfl rfl (by decide) rfl rfl ?_
        refine mV_goto f2_fillings_182 ?_
        refine mV_drop (L' := [.ref 117, .int k1, .int k2, .int k3, .int k4, .int (y5 + 1), mX0, mX0, mX0, mX0]) (mSub_k (mSub_k (mSub_k (mSub_k (mSub_k (mSub_k (mSub_x (mSub_x (mSub_x (mSub_x mSub_n)))))))))) ?_
        exact ih (y5 + 1) z1 _ hr hk
set_option maxHeartbeats 4000000 in
set_option maxRecDepth 100000 in
theorem w2_fillings (X : Nat × (Nat → Int32)) (I : mI) (s : Nat) (x0 : Int32) (x1 : Int32) (x2 : Int32) (Q : mQ) {res : Int32 × mI} (hr : r2_fillings I x0 x1 x2 = some res) (hQ : Q (some (.int res.1)) NN KK res.2 (PP s)) : mV X m2_fillings 1 0 0 0 [.ref 117, .int x0, .int x1, .int x2, mX0, mX0, mX0, mX0, mX0, mX0] [] NN KK I (PP s) Q := by
  unfold r2_fillings at hr
  refine mV_push f2_fillings_0 ?_
  refine mV_istore (L' := [.ref 117, .int x0, .int x1, .int x2, .int 9, mX0, mX0, mX0, mX0, mX0]) f2_fillings_2 (by decide) rfl rfl ?_
  refine mV_aload f2_fillings_4 rfl ?_
  refine mV_getP f2_fillings_5 (by decide) kk_117 rfl (pp_117_0 _) ?_
  refine mV_push f2_fillings_8 ?_
  refine mV_push f2_fillings_9 ?_
  refine mV_sto 0 f2_fillings_10 (by decide) kk_118 (by decide) ?_
  refine mV_push f2_fillings_11 ?_
  refine mV_istore (L' := [.ref 117, .int x0, .int x1, .int x2, .int 9, .int 1, mX0, mX0, mX0, mX0]) f2_fillings_12 (by decide) rfl rfl ?_
  obtain ⟨z0, hz0, hr⟩ := mBind hr
  refine t2_fillings_14 X Q s x0 x1 x2 9 FU 1 (mW I 118 0 1) _ hz0 ?_
  refine mV_push f2_fillings_35 ?_
  refine mV_istore (L' := [.ref 117, .int x0, .int x1, .int x2, .int 9, .int 1, mX0, mX0, mX0, mX0]) f2_fillings_36 (by decide) rfl rfl ?_
  obtain ⟨z1, hz1, hr⟩ := mBind hr
  refine t2_fillings_38 X Q s x0 x1 x2 9 FU 1 z0 _ hz1 ?_
  refine mV_iload f2_fillings_185 rfl ?_
  obtain ⟨z2, hz2, hr⟩ := mBind hr
  have keyz2 : mV X m2_fillings 1 0 0 208 [.ref 117, mX0, mX0, mX0, mX0, mX0, mX0, mX0, mX0, mX0] [.int z2] NN KK z1 (PP s) Q := by
    have hr := Option.some.inj hr; subst hr
    exact mV_iret rfl rfl f2_fillings_208 hQ
  clear hr
  have hr := hz2
  clear hz2
  refine mV_if_lt f2_fillings_186 (fun h0 => ?_) (fun h0 => ?_)
  · rw [if_pos h0] at hr
    refine mV_push f2_fillings_207 ?_
    have hr := Option.some.inj hr; subst hr
    refine mV_drop (L' := [.ref 117, mX0, mX0, mX0, mX0, mX0, mX0, mX0, mX0, mX0]) (mSub_k (mSub_x (mSub_x (mSub_x (mSub_x (mSub_x (mSub_x (mSub_x (mSub_x (mSub_x mSub_n)))))))))) ?_
    exact keyz2
  · rw [if_neg h0] at hr
    refine mV_iload f2_fillings_189 rfl ?_
    refine mV_push f2_fillings_190 ?_
    refine mV_icmp_gt f2_fillings_192 (fun h1 => ?_) (fun h1 => ?_)
    · rw [if_pos h1] at hr
      refine mV_push f2_fillings_207 ?_
      have hr := Option.some.inj hr; subst hr
      refine mV_drop (L' := [.ref 117, mX0, mX0, mX0, mX0, mX0, mX0, mX0, mX0, mX0]) (mSub_k (mSub_x (mSub_x (mSub_x (mSub_x (mSub_x (mSub_x (mSub_x (mSub_x (mSub_x mSub_n)))))))))) ?_
      exact keyz2
    · rw [if_neg h1] at hr
      refine mV_aload f2_fillings_195 rfl ?_
      refine mV_getP f2_fillings_196 (by decide) kk_117 rfl (pp_117_0 _) ?_
      refine mV_iload f2_fillings_199 rfl ?_
      refine mV_iload f2_fillings_200 rfl ?_
      refine mV_imul f2_fillings_202 ?_
      obtain ⟨z3, hz3, hr⟩ := mBind hr
      refine mV_ldO f2_fillings_203 (by decide) kk_118 hz3 ?_
      refine mV_goto f2_fillings_204 ?_
      have hr := Option.some.inj hr; subst hr
      refine mV_drop (L' := [.ref 117, mX0, mX0, mX0, mX0, mX0, mX0, mX0, mX0, mX0]) (mSub_k (mSub_x (mSub_x (mSub_x (mSub_x (mSub_x (mSub_x (mSub_x (mSub_x (mSub_x mSub_n)))))))))) ?_
      exact keyz2
theorem c2_fillings (X : Nat × (Nat → Int32)) (I : mI) (s : Nat) (x0 : Int32) (x1 : Int32) (x2 : Int32) {res : Int32 × mI} (hr : r2_fillings I x0 x1 x2 = some res) : mC X m2_fillings 1 0 0 [.ref 117, .int x0, .int x1, .int x2] NN KK I (PP s) (mRet (some (.int res.1)) NN KK res.2 (PP s)) :=
  mC_of (L0 := [.ref 117, .int x0, .int x1, .int x2, mX0, mX0, mX0, mX0, mX0, mX0]) rfl (Nat.le_of_ble_eq_true rfl) (w2_fillings X I s x0 x1 x2 _ hr (mRet_ok _ _ _ _ _))
def r9_bar (I : mI) (x0 : Int32) (x1 : Int32) (x2 : Int32) : Option (Int32 × mI) := if (x0 : Int32) < (1 : Int32) then some ((-1), I) else if (24 : Int32) < (x0 : Int32) then some ((-1), I) else if (x1 : Int32) < (1 : Int32) then some ((-1), I) else if (255 : Int32) < (x1 : Int32) then some ((-1), I) else if (x2 : Int32) < (0 : Int32) then some ((-1), I) else if (x2 : Int32) ≤ (1 : Int32) then (if (x2 : Int32) = (1 : Int32) then some 1 else some 0 : Option (Int32)).bind fun z0 => (r2_fillings I x0 x1 z0).bind fun z1 => some (z1.1, z1.2) else some ((-1), I)
set_option maxHeartbeats 4000000 in
set_option maxRecDepth 100000 in
theorem w9_bar (X : Nat × (Nat → Int32)) (I : mI) (s : Nat) (x0 : Int32) (x1 : Int32) (x2 : Int32) (Q : mQ) {res : Int32 × mI} (hr : r9_bar I x0 x1 x2 = some res) (hQ : Q (some (.int res.1)) NN KK res.2 (PP s)) : mV X m9_bar 2 0 0 0 [.ref 0, .int x0, .int x1, .int x2] [] NN KK I (PP s) Q := by
  unfold r9_bar at hr
  refine mV_iload f9_bar_0 rfl ?_
  refine mV_push f9_bar_1 ?_
  refine mV_icmp_lt f9_bar_2 (fun h0 => ?_) (fun h0 => ?_)
  · rw [if_pos h0] at hr
    refine mV_push f9_bar_32 ?_
    have hr := Option.some.inj hr; subst hr
    exact mV_iret rfl rfl f9_bar_33 hQ
  · rw [if_neg h0] at hr
    refine mV_iload f9_bar_5 rfl ?_
    refine mV_push f9_bar_6 ?_
    refine mV_icmp_gt f9_bar_8 (fun h1 => ?_) (fun h1 => ?_)
    · rw [if_pos h1] at hr
      refine mV_push f9_bar_32 ?_
      have hr := Option.some.inj hr; subst hr
      exact mV_iret rfl rfl f9_bar_33 hQ
    · rw [if_neg h1] at hr
      refine mV_iload f9_bar_11 rfl ?_
      refine mV_push f9_bar_12 ?_
      refine mV_icmp_lt f9_bar_13 (fun h2 => ?_) (fun h2 => ?_)
      · rw [if_pos h2] at hr
        refine mV_push f9_bar_32 ?_
        have hr := Option.some.inj hr; subst hr
        exact mV_iret rfl rfl f9_bar_33 hQ
      · rw [if_neg h2] at hr
        refine mV_iload f9_bar_16 rfl ?_
        refine mV_push f9_bar_17 ?_
        refine mV_icmp_gt f9_bar_20 (fun h3 => ?_) (fun h3 => ?_)
        · rw [if_pos h3] at hr
          refine mV_push f9_bar_32 ?_
          have hr := Option.some.inj hr; subst hr
          exact mV_iret rfl rfl f9_bar_33 hQ
        · rw [if_neg h3] at hr
          refine mV_iload f9_bar_23 rfl ?_
          refine mV_if_lt f9_bar_24 (fun h4 => ?_) (fun h4 => ?_)
          · rw [if_pos h4] at hr
            refine mV_push f9_bar_32 ?_
            have hr := Option.some.inj hr; subst hr
            exact mV_iret rfl rfl f9_bar_33 hQ
          · rw [if_neg h4] at hr
            refine mV_iload f9_bar_27 rfl ?_
            refine mV_push f9_bar_28 ?_
            refine mV_icmp_le f9_bar_29 (fun h5 => ?_) (fun h5 => ?_)
            · rw [if_pos h5] at hr
              refine mV_aload f9_bar_34 rfl ?_
              refine mV_getP f9_bar_35 (by decide) kk_0 rfl (pp_0_6 _) ?_
              refine mV_iload f9_bar_38 rfl ?_
              refine mV_iload f9_bar_39 rfl ?_
              refine mV_iload f9_bar_40 rfl ?_
              refine mV_push f9_bar_41 ?_
              obtain ⟨z0, hz0, hr⟩ := mBind hr
              have keyz0 : mV X m9_bar 2 0 0 50 [.ref 0, mX0, mX0, mX0] [.int z0, .int x1, .int x0, .ref 117] NN KK I (PP s) Q := by
                obtain ⟨z1, hz1, hr⟩ := mBind hr
                refine mV_cV f9_bar_50 tg_m2_fillings mCls2 (by decide) kk_117 (mC_deep (c2_fillings X I s x0 x1 z0 hz1) (by decide)) rfl rfl (Nat.le_of_ble_eq_true rfl) ?_
                have hr := Option.some.inj hr; subst hr
                exact mV_iret rfl rfl f9_bar_53 hQ
              clear hr
              have hr := hz0
              clear hz0
              refine mV_icmp_ne f9_bar_42 (fun h6 => ?_) (fun h6 => ?_)
              · rw [if_neg h6] at hr
                refine mV_push f9_bar_49 ?_
                have hr := Option.some.inj hr; subst hr
                refine mV_drop (L' := [.ref 0, mX0, mX0, mX0]) (mSub_k (mSub_x (mSub_x (mSub_x mSub_n)))) ?_
                exact keyz0
              · rw [if_pos h6] at hr
                refine mV_push f9_bar_45 ?_
                refine mV_goto f9_bar_46 ?_
                have hr := Option.some.inj hr; subst hr
                refine mV_drop (L' := [.ref 0, mX0, mX0, mX0]) (mSub_k (mSub_x (mSub_x (mSub_x mSub_n)))) ?_
                exact keyz0
            · rw [if_neg h5] at hr
              refine mV_push f9_bar_32 ?_
              have hr := Option.some.inj hr; subst hr
              exact mV_iret rfl rfl f9_bar_33 hQ
theorem c9_bar (X : Nat × (Nat → Int32)) (I : mI) (s : Nat) (x0 : Int32) (x1 : Int32) (x2 : Int32) {res : Int32 × mI} (hr : r9_bar I x0 x1 x2 = some res) : mC X m9_bar 2 0 0 [.ref 0, .int x0, .int x1, .int x2] NN KK I (PP s) (mRet (some (.int res.1)) NN KK res.2 (PP s)) :=
  mC_of (L0 := [.ref 0, .int x0, .int x1, .int x2]) rfl (Nat.le_of_ble_eq_true rfl) (w9_bar X I s x0 x1 x2 _ hr (mRet_ok _ _ _ _ _))
def r9_period (I : mI) (x0 : Int32) (x1 : Int32) : Option (Int32 × mI) := if (x0 : Int32) < (0 : Int32) then some (0, I) else if (8 : Int32) ≤ (x0 : Int32) then some (0, I) else if (x1 : Int32) < (1 : Int32) then some (0, I) else if (x1 : Int32) ≤ (99 : Int32) then (mSto I 29 8 x0 x1).bind fun z0 => some (1, z0) else some (0, I)
set_option maxHeartbeats 4000000 in
set_option maxRecDepth 100000 in
theorem w9_period (X : Nat × (Nat → Int32)) (I : mI) (s : Nat) (x0 : Int32) (x1 : Int32) (Q : mQ) {res : Int32 × mI} (hr : r9_period I x0 x1 = some res) (hQ : Q (some (.int res.1)) NN KK res.2 (PP s)) : mV X m9_period 0 0 0 0 [.ref 0, .int x0, .int x1] [] NN KK I (PP s) Q := by
  unfold r9_period at hr
  refine mV_iload f9_period_0 rfl ?_
  refine mV_if_lt f9_period_1 (fun h0 => ?_) (fun h0 => ?_)
  · rw [if_pos h0] at hr
    refine mV_push f9_period_21 ?_
    have hr := Option.some.inj hr; subst hr
    exact mV_iret rfl rfl f9_period_22 hQ
  · rw [if_neg h0] at hr
    refine mV_iload f9_period_4 rfl ?_
    refine mV_push f9_period_5 ?_
    refine mV_icmp_ge f9_period_7 (fun h1 => ?_) (fun h1 => ?_)
    · rw [if_pos h1] at hr
      refine mV_push f9_period_21 ?_
      have hr := Option.some.inj hr; subst hr
      exact mV_iret rfl rfl f9_period_22 hQ
    · rw [if_neg h1] at hr
      refine mV_iload f9_period_10 rfl ?_
      refine mV_push f9_period_11 ?_
      refine mV_icmp_lt f9_period_12 (fun h2 => ?_) (fun h2 => ?_)
      · rw [if_pos h2] at hr
        refine mV_push f9_period_21 ?_
        have hr := Option.some.inj hr; subst hr
        exact mV_iret rfl rfl f9_period_22 hQ
      · rw [if_neg h2] at hr
        refine mV_iload f9_period_15 rfl ?_
        refine mV_push f9_period_16 ?_
        refine mV_icmp_le f9_period_18 (fun h3 => ?_) (fun h3 => ?_)
        · rw [if_pos h3] at hr
          refine mV_aload f9_period_23 rfl ?_
          refine mV_getP f9_period_24 (by decide) kk_0 rfl (pp_0_1 _) ?_
          refine mV_getP f9_period_27 (by decide) kk_2 rfl (pp_2_6 _) ?_
          refine mV_getP f9_period_30 (by decide) kk_27 rfl (pp_27_1 _) ?_
          refine mV_iload f9_period_33 rfl ?_
          refine mV_iload f9_period_34 rfl ?_
          obtain ⟨z0, hz0, hr⟩ := mBind hr
          refine mV_stO f9_period_35 (by decide) kk_29 hz0 ?_
          refine mV_push f9_period_36 ?_
          have hr := Option.some.inj hr; subst hr
          exact mV_iret rfl rfl f9_period_37 hQ
        · rw [if_neg h3] at hr
          refine mV_push f9_period_21 ?_
          have hr := Option.some.inj hr; subst hr
          exact mV_iret rfl rfl f9_period_22 hQ
theorem c9_period (X : Nat × (Nat → Int32)) (I : mI) (s : Nat) (x0 : Int32) (x1 : Int32) {res : Int32 × mI} (hr : r9_period I x0 x1 = some res) : mC X m9_period 0 0 0 [.ref 0, .int x0, .int x1] NN KK I (PP s) (mRet (some (.int res.1)) NN KK res.2 (PP s)) :=
  mC_of (L0 := [.ref 0, .int x0, .int x1]) rfl (Nat.le_of_ble_eq_true rfl) (w9_period X I s x0 x1 _ hr (mRet_ok _ _ _ _ _))
def l1_commonMultiple_9 : Nat → Int64 → Int64 → Int32 → Option (Int64)
  | 0, _, _, _ => none
  | f + 1, y4, y6, y8 => if (100 : Int32) ≤ (y8 : Int32) then some y4 else if ((lg_cmp y6 0) : Int32) ≤ (0 : Int32) then some y4 else (mRemL y4 y6).bind fun z0 => l1_commonMultiple_9 f y6 z0 (y8 + 1)
def r1_commonMultiple (x0 : Int64) (x1 : Int64) : Option (Int64) := (l1_commonMultiple_9 FU x0 x1 0).bind fun z0 => (if ((lg_cmp z0 0) : Int32) ≤ (0 : Int32) then some 0 else (mDivL x0 z0).bind fun z2 => some (z2 * x1) : Option (Int64)).bind fun z1 => some z1
set_option maxHeartbeats 4000000 in
set_option maxRecDepth 100000 in
theorem t1_commonMultiple_9 (X : Nat × (Nat → Int32)) (Q : mQ) (s : Nat) (I : mI) (k0 : Int64) (k2 : Int64) : ∀ (f : Nat) (y4 : Int64) (y6 : Int64) (y8 : Int32) (z : Int64), l1_commonMultiple_9 f y4 y6 y8 = some z → mV X m1_commonMultiple 0 0 0 44 [.long k0, mX0, .long k2, mX0, .long z, mX0, mX0, mX0, mX0, mX0, mX0] [] NN KK I (PP s) Q → mV X m1_commonMultiple 0 0 0 9 [.long k0, mX0, .long k2, mX0, .long y4, mX0, .long y6, mX0, .int y8, mX0, mX0] [] NN KK I (PP s) Q := by
  intro f
  induction f with
  | zero => intro y4 y6 y8 z hr hk; cases hr
  | succ f ih =>
    intro y4 y6 y8 z hr hk
    unfold l1_commonMultiple_9 at hr
    refine mV_iload f1_commonMultiple_9 rfl ?_
    refine mV_push f1_commonMultiple_11 ?_
    refine mV_icmp_ge f1_commonMultiple_13 (fun h0 => ?_) (fun h0 => ?_)
    · rw [if_pos h0] at hr
      have hr := Option.some.inj hr; subst hr
      refine mV_drop (L' := [.long k0, mX0, .long k2, mX0, .long y4, mX0, mX0, mX0, mX0, mX0, mX0]) (mSub_k (mSub_x (mSub_k (mSub_x (mSub_k (mSub_x (mSub_x (mSub_x (mSub_x (mSub_x (mSub_x mSub_n))))))))))) ?_
      exact hk
    · rw [if_neg h0] at hr
      refine mV_lload f1_commonMultiple_16 rfl ?_
      refine mV_pushL f1_commonMultiple_18 ?_
      refine mV_lcmp f1_commonMultiple_19 ?_
      refine mV_if_le f1_commonMultiple_20 (fun h1 => ?_) (fun h1 => ?_)
      · rw [if_pos h1] at hr
        have hr := Option.some.inj hr; subst hr
        refine mV_drop (L' := [.long k0, mX0, .long k2, mX0, .long y4, mX0, mX0, mX0, mX0, mX0, mX0]) (mSub_k (mSub_x (mSub_k (mSub_x (mSub_k (mSub_x (mSub_x (mSub_x (mSub_x (mSub_x (mSub_x mSub_n))))))))))) ?_
        exact hk
      · rw [if_neg h1] at hr
        refine mV_lload f1_commonMultiple_23 rfl ?_
        refine mV_lload f1_commonMultiple_25 rfl ?_
        obtain ⟨z0, hz0, hr⟩ := mBind hr
        refine mV_remL f1_commonMultiple_27 hz0 ?_
        refine mV_lstore (L' := [.long k0, mX0, .long k2, mX0, .long y4, mX0, .long y6, mX0, .int y8, .long z0, mX0]) f1_commonMultiple_28 (by decide) rfl rfl ?_
        refine mV_lload f1_commonMultiple_30 rfl ?_
        refine mV_lstore (L' := [.long k0, mX0, .long k2, mX0, .long y6, mX0, .long y6, mX0, .int y8, .long z0, mX0]) f1_commonMultiple_32 (by decide) rfl rfl ?_
        refine mV_lload f1_commonMultiple_34 rfl ?_
        refine mV_lstore (L' := [.long k0, mX0, .long k2, mX0, .long y6, mX0, .long z0, mX0, .int y8, .long z0, mX0]) f1_commonMultiple_36 (by decide) rfl rfl ?_
        refine mV_iinc (y := (y8 + 1)) (L' := [.long k0, mX0, .long k2, mX0, .long y6, mX0, .long z0, mX0, .int (y8 + 1), .long z0, mX0]) f1_commonMultiple_38 rfl rfl (by decide) rfl rfl ?_
        refine mV_goto f1_commonMultiple_41 ?_
        refine mV_drop (L' := [.long k0, mX0, .long k2, mX0, .long y6, mX0, .long z0, mX0, .int (y8 + 1), mX0, mX0]) (mSub_k (mSub_x (mSub_k (mSub_x (mSub_k (mSub_x (mSub_k (mSub_x (mSub_k (mSub_x (mSub_x mSub_n))))))))))) ?_
        exact ih y6 z0 (y8 + 1) _ hr hk
set_option maxHeartbeats 4000000 in
set_option maxRecDepth 100000 in
theorem w1_commonMultiple (X : Nat × (Nat → Int32)) (I : mI) (s : Nat) (x0 : Int64) (x1 : Int64) (Q : mQ) {res : Int64} (hr : r1_commonMultiple x0 x1 = some res) (hQ : Q (some (.long res)) NN KK I (PP s)) : mV X m1_commonMultiple 0 0 0 0 [.long x0, mX0, .long x1, mX0, mX0, mX0, mX0, mX0, mX0, mX0, mX0] [] NN KK I (PP s) Q := by
  unfold r1_commonMultiple at hr
  refine mV_lload f1_commonMultiple_0 rfl ?_
  refine mV_lstore (L' := [.long x0, mX0, .long x1, mX0, .long x0, mX0, mX0, mX0, mX0, mX0, mX0]) f1_commonMultiple_1 (by decide) rfl rfl ?_
  refine mV_lload f1_commonMultiple_3 rfl ?_
  refine mV_lstore (L' := [.long x0, mX0, .long x1, mX0, .long x0, mX0, .long x1, mX0, mX0, mX0, mX0]) f1_commonMultiple_4 (by decide) rfl rfl ?_
  refine mV_push f1_commonMultiple_6 ?_
  refine mV_istore (L' := [.long x0, mX0, .long x1, mX0, .long x0, mX0, .long x1, mX0, .int 0, mX0, mX0]) f1_commonMultiple_7 (by decide) rfl rfl ?_
  obtain ⟨z0, hz0, hr⟩ := mBind hr
  refine t1_commonMultiple_9 X Q s I x0 x1 FU x0 x1 0 _ hz0 ?_
  refine mV_lload f1_commonMultiple_44 rfl ?_
  refine mV_pushL f1_commonMultiple_46 ?_
  refine mV_lcmp f1_commonMultiple_47 ?_
  obtain ⟨z1, hz1, hr⟩ := mBind hr
  have keyz1 : mV X m1_commonMultiple 0 0 0 61 [mX0, mX0, mX0, mX0, mX0, mX0, mX0, mX0, mX0, mX0, mX0] [.long z1] NN KK I (PP s) Q := by
    have hr := Option.some.inj hr; subst hr
    exact mV_lret rfl f1_commonMultiple_61 hQ
  clear hr
  have hr := hz1
  clear hz1
  refine mV_if_le f1_commonMultiple_48 (fun h0 => ?_) (fun h0 => ?_)
  · rw [if_pos h0] at hr
    refine mV_pushL f1_commonMultiple_60 ?_
    have hr := Option.some.inj hr; subst hr
    refine mV_drop (L' := [mX0, mX0, mX0, mX0, mX0, mX0, mX0, mX0, mX0, mX0, mX0]) (mSub_x (mSub_x (mSub_x (mSub_x (mSub_x (mSub_x (mSub_x (mSub_x (mSub_x (mSub_x (mSub_x mSub_n))))))))))) ?_
    exact keyz1
  · rw [if_neg h0] at hr
    refine mV_lload f1_commonMultiple_51 rfl ?_
    refine mV_lload f1_commonMultiple_52 rfl ?_
    obtain ⟨z2, hz2, hr⟩ := mBind hr
    refine mV_divL f1_commonMultiple_54 hz2 ?_
    refine mV_lload f1_commonMultiple_55 rfl ?_
    refine mV_lmul f1_commonMultiple_56 ?_
    refine mV_goto f1_commonMultiple_57 ?_
    have hr := Option.some.inj hr; subst hr
    refine mV_drop (L' := [mX0, mX0, mX0, mX0, mX0, mX0, mX0, mX0, mX0, mX0, mX0]) (mSub_x (mSub_x (mSub_x (mSub_x (mSub_x (mSub_x (mSub_x (mSub_x (mSub_x (mSub_x (mSub_x mSub_n))))))))))) ?_
    exact keyz1
theorem c1_commonMultiple (X : Nat × (Nat → Int32)) (I : mI) (s : Nat) (x0 : Int64) (x1 : Int64) {res : Int64} (hr : r1_commonMultiple x0 x1 = some res) : mC X m1_commonMultiple 0 0 0 [.long x0, .long x1] NN KK I (PP s) (mRet (some (.long res)) NN KK I (PP s)) :=
  mC_of (L0 := [.long x0, mX0, .long x1, mX0, mX0, mX0, mX0, mX0, mX0, mX0, mX0]) rfl (Nat.le_of_ble_eq_true rfl) (w1_commonMultiple X I s x0 x1 _ hr (mRet_ok _ _ _ _ _))
def l1_allBeats_4 (I : mI) : Nat → Int64 → Int32 → Option (Int64)
  | 0, _, _ => none
  | f + 1, y1, y3 => if (8 : Int32) ≤ (y3 : Int32) then some y1 else (mLd I 29 8 y3).bind fun z0 => (r1_commonMultiple y1 ((z0 : Int32).toInt64)).bind fun z1 => l1_allBeats_4 I f z1 (y3 + 1)
def r1_allBeats (I : mI) : Option (Int32) := (l1_allBeats_4 I FU 1 0).bind fun z0 => (mRemL z0 1000000007).bind fun z1 => some ((z1 : Int64).toInt32)
set_option maxHeartbeats 4000000 in
set_option maxRecDepth 100000 in
theorem t1_allBeats_4 (X : Nat × (Nat → Int32)) (Q : mQ) (s : Nat) (I : mI) : ∀ (f : Nat) (y1 : Int64) (y3 : Int32) (z : Int64), l1_allBeats_4 I f y1 y3 = some z → mV X m1_allBeats 1 0 0 28 [.ref 27, .long z, mX0, mX0] [] NN KK I (PP s) Q → mV X m1_allBeats 1 0 0 4 [.ref 27, .long y1, mX0, .int y3] [] NN KK I (PP s) Q := by
  intro f
  induction f with
  | zero => intro y1 y3 z hr hk; cases hr
  | succ f ih =>
    intro y1 y3 z hr hk
    unfold l1_allBeats_4 at hr
    refine mV_iload f1_allBeats_4 rfl ?_
    refine mV_push f1_allBeats_5 ?_
    refine mV_icmp_ge f1_allBeats_7 (fun h0 => ?_) (fun h0 => ?_)
    · rw [if_pos h0] at hr
      have hr := Option.some.inj hr; subst hr
      refine mV_drop (L' := [.ref 27, .long y1, mX0, mX0]) (mSub_k (mSub_k (mSub_x (mSub_x mSub_n)))) ?_
      exact hk
    · rw [if_neg h0] at hr
      refine mV_lload f1_allBeats_10 rfl ?_
      refine mV_aload f1_allBeats_11 rfl ?_
      refine mV_getP f1_allBeats_12 (by decide) kk_27 rfl (pp_27_1 _) ?_
      refine mV_iload f1_allBeats_15 rfl ?_
      obtain ⟨z0, hz0, hr⟩ := mBind hr
      refine mV_ldO f1_allBeats_16 (by decide) kk_29 hz0 ?_
      refine mV_i2l f1_allBeats_17 ?_
      obtain ⟨z1, hz1, hr⟩ := mBind hr
      refine mV_cS f1_allBeats_18 tg_m1_commonMultiple (mC_deep (c1_commonMultiple X I s y1 ((z0 : Int32).toInt64) hz1) (by decide)) rfl rfl (Nat.le_of_ble_eq_true rfl) ?_
      refine mV_lstore (L' := [.ref 27, .long z1, mX0, .int y3]) f1_allBeats_21 (by decide) rfl rfl ?_
      refine mV_iinc (y := (y3 + 1)) (L' := [.ref 27, .long z1, mX0, .int (y3 + 1)]) f1_allBeats_22 rfl rfl (by decide) rfl rfl ?_
      refine mV_goto f1_allBeats_25 ?_
      exact ih z1 (y3 + 1) _ hr hk
set_option maxHeartbeats 4000000 in
set_option maxRecDepth 100000 in
theorem w1_allBeats (X : Nat × (Nat → Int32)) (I : mI) (s : Nat) (Q : mQ) {res : Int32} (hr : r1_allBeats I = some res) (hQ : Q (some (.int res)) NN KK I (PP s)) : mV X m1_allBeats 1 0 0 0 [.ref 27, mX0, mX0, mX0] [] NN KK I (PP s) Q := by
  unfold r1_allBeats at hr
  refine mV_pushL f1_allBeats_0 ?_
  refine mV_lstore (L' := [.ref 27, .long 1, mX0, mX0]) f1_allBeats_1 (by decide) rfl rfl ?_
  refine mV_push f1_allBeats_2 ?_
  refine mV_istore (L' := [.ref 27, .long 1, mX0, .int 0]) f1_allBeats_3 (by decide) rfl rfl ?_
  obtain ⟨z0, hz0, hr⟩ := mBind hr
  refine t1_allBeats_4 X Q s I FU 1 0 _ hz0 ?_
  refine mV_lload f1_allBeats_28 rfl ?_
  refine mV_pushL f1_allBeats_29 ?_
  obtain ⟨z1, hz1, hr⟩ := mBind hr
  refine mV_remL f1_allBeats_32 hz1 ?_
  refine mV_l2i f1_allBeats_33 ?_
  have hr := Option.some.inj hr; subst hr
  exact mV_iret rfl rfl f1_allBeats_34 hQ
theorem c1_allBeats (X : Nat × (Nat → Int32)) (I : mI) (s : Nat) {res : Int32} (hr : r1_allBeats I = some res) : mC X m1_allBeats 1 0 0 [.ref 27] NN KK I (PP s) (mRet (some (.int res)) NN KK I (PP s)) :=
  mC_of (L0 := [.ref 27, mX0, mX0, mX0]) rfl (Nat.le_of_ble_eq_true rfl) (w1_allBeats X I s _ hr (mRet_ok _ _ _ _ _))
def r9_beats (I : mI) (x0 : Int32) (x1 : Int32) : Option (Int32) := if (x0 : Int32) = ((-1) : Int32) then (r1_allBeats I).bind fun z3 => some z3 else if (x0 : Int32) < (0 : Int32) then some (-1) else if (8 : Int32) ≤ (x0 : Int32) then some (-1) else if (x1 : Int32) < (0 : Int32) then some (-1) else if (x1 : Int32) < (8 : Int32) then (mLd I 29 8 x0).bind fun z0 => (mLd I 29 8 x1).bind fun z1 => (r1_commonMultiple ((z0 : Int32).toInt64) ((z1 : Int32).toInt64)).bind fun z2 => some ((z2 : Int64).toInt32) else some (-1)
set_option maxHeartbeats 4000000 in
set_option maxRecDepth 100000 in
theorem w9_beats (X : Nat × (Nat → Int32)) (I : mI) (s : Nat) (x0 : Int32) (x1 : Int32) (Q : mQ) {res : Int32} (hr : r9_beats I x0 x1 = some res) (hQ : Q (some (.int res)) NN KK I (PP s)) : mV X m9_beats 2 0 0 0 [.ref 0, .int x0, .int x1] [] NN KK I (PP s) Q := by
  unfold r9_beats at hr
  refine mV_iload f9_beats_0 rfl ?_
  refine mV_push f9_beats_1 ?_
  refine mV_icmp_ne f9_beats_2 (fun h0 => ?_) (fun h0 => ?_)
  · rw [if_neg h0] at hr
    refine mV_iload f9_beats_16 rfl ?_
    refine mV_if_lt f9_beats_17 (fun h1 => ?_) (fun h1 => ?_)
    · rw [if_pos h1] at hr
      refine mV_push f9_beats_36 ?_
      have hr := Option.some.inj hr; subst hr
      exact mV_iret rfl rfl f9_beats_37 hQ
    · rw [if_neg h1] at hr
      refine mV_iload f9_beats_20 rfl ?_
      refine mV_push f9_beats_21 ?_
      refine mV_icmp_ge f9_beats_23 (fun h2 => ?_) (fun h2 => ?_)
      · rw [if_pos h2] at hr
        refine mV_push f9_beats_36 ?_
        have hr := Option.some.inj hr; subst hr
        exact mV_iret rfl rfl f9_beats_37 hQ
      · rw [if_neg h2] at hr
        refine mV_iload f9_beats_26 rfl ?_
        refine mV_if_lt f9_beats_27 (fun h3 => ?_) (fun h3 => ?_)
        · rw [if_pos h3] at hr
          refine mV_push f9_beats_36 ?_
          have hr := Option.some.inj hr; subst hr
          exact mV_iret rfl rfl f9_beats_37 hQ
        · rw [if_neg h3] at hr
          refine mV_iload f9_beats_30 rfl ?_
          refine mV_push f9_beats_31 ?_
          refine mV_icmp_lt f9_beats_33 (fun h4 => ?_) (fun h4 => ?_)
          · rw [if_pos h4] at hr
            refine mV_aload f9_beats_38 rfl ?_
            refine mV_getP f9_beats_39 (by decide) kk_0 rfl (pp_0_1 _) ?_
            refine mV_getP f9_beats_42 (by decide) kk_2 rfl (pp_2_6 _) ?_
            refine mV_getP f9_beats_45 (by decide) kk_27 rfl (pp_27_1 _) ?_
            refine mV_iload f9_beats_48 rfl ?_
            obtain ⟨z0, hz0, hr⟩ := mBind hr
            refine mV_ldO f9_beats_49 (by decide) kk_29 hz0 ?_
            refine mV_i2l f9_beats_50 ?_
            refine mV_aload f9_beats_51 rfl ?_
            refine mV_getP f9_beats_52 (by decide) kk_0 rfl (pp_0_1 _) ?_
            refine mV_getP f9_beats_55 (by decide) kk_2 rfl (pp_2_6 _) ?_
            refine mV_getP f9_beats_58 (by decide) kk_27 rfl (pp_27_1 _) ?_
            refine mV_iload f9_beats_61 rfl ?_
            obtain ⟨z1, hz1, hr⟩ := mBind hr
            refine mV_ldO f9_beats_62 (by decide) kk_29 hz1 ?_
            refine mV_i2l f9_beats_63 ?_
            obtain ⟨z2, hz2, hr⟩ := mBind hr
            refine mV_cS f9_beats_64 tg_m1_commonMultiple (mC_deep (c1_commonMultiple X I s ((z0 : Int32).toInt64) ((z1 : Int32).toInt64) hz2) (by decide)) rfl rfl (Nat.le_of_ble_eq_true rfl) ?_
            refine mV_l2i f9_beats_67 ?_
            have hr := Option.some.inj hr; subst hr
            exact mV_iret rfl rfl f9_beats_68 hQ
          · rw [if_neg h4] at hr
            refine mV_push f9_beats_36 ?_
            have hr := Option.some.inj hr; subst hr
            exact mV_iret rfl rfl f9_beats_37 hQ
  · rw [if_pos h0] at hr
    refine mV_aload f9_beats_5 rfl ?_
    refine mV_getP f9_beats_6 (by decide) kk_0 rfl (pp_0_1 _) ?_
    refine mV_getP f9_beats_9 (by decide) kk_2 rfl (pp_2_6 _) ?_
    obtain ⟨z3, hz3, hr⟩ := mBind hr
    refine mV_cV f9_beats_12 tg_m1_allBeats mCls1 (by decide) kk_27 (mC_deep (c1_allBeats X I s hz3) (by decide)) rfl rfl (Nat.le_of_ble_eq_true rfl) ?_
    have hr := Option.some.inj hr; subst hr
    exact mV_iret rfl rfl f9_beats_15 hQ
theorem c9_beats (X : Nat × (Nat → Int32)) (I : mI) (s : Nat) (x0 : Int32) (x1 : Int32) {res : Int32} (hr : r9_beats I x0 x1 = some res) : mC X m9_beats 2 0 0 [.ref 0, .int x0, .int x1] NN KK I (PP s) (mRet (some (.int res)) NN KK I (PP s)) :=
  mC_of (L0 := [.ref 0, .int x0, .int x1]) rfl (Nat.le_of_ble_eq_true rfl) (w9_beats X I s x0 x1 _ hr (mRet_ok _ _ _ _ _))
def r1_addHeld (I : mI) (x0 : Int32) (x1 : Int32) (x2 : Int32) : Option (Int32 × mI) := if (x0 : Int32) = ((-1) : Int32) then some (0, (mW I 27 6 0)) else if (x0 : Int32) < (0 : Int32) then some ((-1), I) else if (59 : Int32) < (x0 : Int32) then some ((-1), I) else if (x1 : Int32) < (1 : Int32) then some ((-1), I) else if (x1 : Int32) ≤ (30 : Int32) then if (x2 : Int32) < (0 : Int32) then some ((-1), I) else if (60 : Int32) < (x2 : Int32) then some ((-1), I) else if (I 27 6 : Int32) < (9 : Int32) then (mSto I 30 9 (I 27 6) x0).bind fun z0 => (mSto z0 31 9 (z0 27 6) (x0 + x1)).bind fun z1 => (mSto z1 32 9 (z1 27 6) x2).bind fun z2 => some ((z2 27 6 + 1), (mW z2 27 6 (z2 27 6 + 1))) else some ((-1), I) else some ((-1), I)
set_option maxHeartbeats 4000000 in
set_option maxRecDepth 100000 in
theorem w1_addHeld (X : Nat × (Nat → Int32)) (I : mI) (s : Nat) (x0 : Int32) (x1 : Int32) (x2 : Int32) (Q : mQ) {res : Int32 × mI} (hr : r1_addHeld I x0 x1 x2 = some res) (hQ : Q (some (.int res.1)) NN KK res.2 (PP s)) : mV X m1_addHeld 0 0 0 0 [.ref 27, .int x0, .int x1, .int x2] [] NN KK I (PP s) Q := by
  unfold r1_addHeld at hr
  refine mV_iload f1_addHeld_0 rfl ?_
  refine mV_push f1_addHeld_1 ?_
  refine mV_icmp_ne f1_addHeld_2 (fun h0 => ?_) (fun h0 => ?_)
  · rw [if_neg h0] at hr
    refine mV_iload f1_addHeld_12 rfl ?_
    refine mV_if_lt f1_addHeld_13 (fun h1 => ?_) (fun h1 => ?_)
    · rw [if_pos h1] at hr
      refine mV_push f1_addHeld_33 ?_
      have hr := Option.some.inj hr; subst hr
      exact mV_iret rfl rfl f1_addHeld_34 hQ
    · rw [if_neg h1] at hr
      refine mV_iload f1_addHeld_16 rfl ?_
      refine mV_push f1_addHeld_17 ?_
      refine mV_icmp_gt f1_addHeld_19 (fun h2 => ?_) (fun h2 => ?_)
      · rw [if_pos h2] at hr
        refine mV_push f1_addHeld_33 ?_
        have hr := Option.some.inj hr; subst hr
        exact mV_iret rfl rfl f1_addHeld_34 hQ
      · rw [if_neg h2] at hr
        refine mV_iload f1_addHeld_22 rfl ?_
        refine mV_push f1_addHeld_23 ?_
        refine mV_icmp_lt f1_addHeld_24 (fun h3 => ?_) (fun h3 => ?_)
        · rw [if_pos h3] at hr
          refine mV_push f1_addHeld_33 ?_
          have hr := Option.some.inj hr; subst hr
          exact mV_iret rfl rfl f1_addHeld_34 hQ
        · rw [if_neg h3] at hr
          refine mV_iload f1_addHeld_27 rfl ?_
          refine mV_push f1_addHeld_28 ?_
          refine mV_icmp_le f1_addHeld_30 (fun h4 => ?_) (fun h4 => ?_)
          · rw [if_pos h4] at hr
            refine mV_iload f1_addHeld_35 rfl ?_
            refine mV_if_lt f1_addHeld_36 (fun h5 => ?_) (fun h5 => ?_)
            · rw [if_pos h5] at hr
              refine mV_push f1_addHeld_54 ?_
              have hr := Option.some.inj hr; subst hr
              exact mV_iret rfl rfl f1_addHeld_55 hQ
            · rw [if_neg h5] at hr
              refine mV_iload f1_addHeld_39 rfl ?_
              refine mV_push f1_addHeld_40 ?_
              refine mV_icmp_gt f1_addHeld_42 (fun h6 => ?_) (fun h6 => ?_)
              · rw [if_pos h6] at hr
                refine mV_push f1_addHeld_54 ?_
                have hr := Option.some.inj hr; subst hr
                exact mV_iret rfl rfl f1_addHeld_55 hQ
              · rw [if_neg h6] at hr
                refine mV_aload f1_addHeld_45 rfl ?_
                refine mV_gI (I 27 6) f1_addHeld_46 (by decide) kk_27 rfl rfl ?_
                refine mV_push f1_addHeld_49 ?_
                refine mV_icmp_lt f1_addHeld_51 (fun h7 => ?_) (fun h7 => ?_)
                · rw [if_pos h7] at hr
                  refine mV_aload f1_addHeld_56 rfl ?_
                  refine mV_getP f1_addHeld_57 (by decide) kk_27 rfl (pp_27_2 _) ?_
                  refine mV_aload f1_addHeld_60 rfl ?_
                  refine mV_gI (I 27 6) f1_addHeld_61 (by decide) kk_27 rfl rfl ?_
                  refine mV_iload f1_addHeld_64 rfl ?_
                  obtain ⟨z0, hz0, hr⟩ := mBind hr
                  refine mV_stO f1_addHeld_65 (by decide) kk_30 hz0 ?_
                  refine mV_aload f1_addHeld_66 rfl ?_
                  refine mV_getP f1_addHeld_67 (by decide) kk_27 rfl (pp_27_3 _) ?_
                  refine mV_aload f1_addHeld_70 rfl ?_
                  refine mV_gI (z0 27 6) f1_addHeld_71 (by decide) kk_27 rfl rfl ?_
                  refine mV_iload f1_addHeld_74 rfl ?_
                  refine mV_iload f1_addHeld_75 rfl ?_
                  refine mV_iadd f1_addHeld_76 ?_
                  obtain ⟨z1, hz1, hr⟩ := mBind hr
                  refine mV_stO f1_addHeld_77 (by decide) kk_31 hz1 ?_
                  refine mV_aload f1_addHeld_78 rfl ?_
                  refine mV_getP f1_addHeld_79 (by decide) kk_27 rfl (pp_27_4 _) ?_
                  refine mV_aload f1_addHeld_82 rfl ?_
                  refine mV_gI (z1 27 6) f1_addHeld_83 (by decide) kk_27 rfl rfl ?_
                  refine mV_iload f1_addHeld_86 rfl ?_
                  obtain ⟨z2, hz2, hr⟩ := mBind hr
                  refine mV_stO f1_addHeld_87 (by decide) kk_32 hz2 ?_
                  refine mV_aload f1_addHeld_88 rfl ?_
                  refine mV_dup f1_addHeld_89 rfl ?_
                  refine mV_gI (z2 27 6) f1_addHeld_90 (by decide) kk_27 rfl rfl ?_
                  refine mV_push f1_addHeld_93 ?_
                  refine mV_iadd f1_addHeld_94 ?_
                  refine mV_putI f1_addHeld_95 (by decide) kk_27 rfl rfl ?_
                  refine mV_aload f1_addHeld_98 rfl ?_
                  refine mV_gI (z2 27 6 + 1) f1_addHeld_99 (by decide) kk_27 rfl rfl ?_
                  have hr := Option.some.inj hr; subst hr
                  exact mV_iret rfl rfl f1_addHeld_102 hQ
                · rw [if_neg h7] at hr
                  refine mV_push f1_addHeld_54 ?_
                  have hr := Option.some.inj hr; subst hr
                  exact mV_iret rfl rfl f1_addHeld_55 hQ
          · rw [if_neg h4] at hr
            refine mV_push f1_addHeld_33 ?_
            have hr := Option.some.inj hr; subst hr
            exact mV_iret rfl rfl f1_addHeld_34 hQ
  · rw [if_pos h0] at hr
    refine mV_aload f1_addHeld_5 rfl ?_
    refine mV_push f1_addHeld_6 ?_
    refine mV_putI f1_addHeld_7 (by decide) kk_27 rfl rfl ?_
    refine mV_push f1_addHeld_10 ?_
    have hr := Option.some.inj hr; subst hr
    exact mV_iret rfl rfl f1_addHeld_11 hQ
theorem c1_addHeld (X : Nat × (Nat → Int32)) (I : mI) (s : Nat) (x0 : Int32) (x1 : Int32) (x2 : Int32) {res : Int32 × mI} (hr : r1_addHeld I x0 x1 x2 = some res) : mC X m1_addHeld 0 0 0 [.ref 27, .int x0, .int x1, .int x2] NN KK I (PP s) (mRet (some (.int res.1)) NN KK res.2 (PP s)) :=
  mC_of (L0 := [.ref 27, .int x0, .int x1, .int x2]) rfl (Nat.le_of_ble_eq_true rfl) (w1_addHeld X I s x0 x1 x2 _ hr (mRet_ok _ _ _ _ _))
def r9_pedal (I : mI) (x0 : Int32) (x1 : Int32) (x2 : Int32) : Option (Int32 × mI) := (r1_addHeld I x0 x1 x2).bind fun z0 => some (z0.1, z0.2)
set_option maxHeartbeats 4000000 in
set_option maxRecDepth 100000 in
theorem w9_pedal (X : Nat × (Nat → Int32)) (I : mI) (s : Nat) (x0 : Int32) (x1 : Int32) (x2 : Int32) (Q : mQ) {res : Int32 × mI} (hr : r9_pedal I x0 x1 x2 = some res) (hQ : Q (some (.int res.1)) NN KK res.2 (PP s)) : mV X m9_pedal 1 0 0 0 [.ref 0, .int x0, .int x1, .int x2] [] NN KK I (PP s) Q := by
  unfold r9_pedal at hr
  refine mV_aload f9_pedal_0 rfl ?_
  refine mV_getP f9_pedal_1 (by decide) kk_0 rfl (pp_0_1 _) ?_
  refine mV_getP f9_pedal_4 (by decide) kk_2 rfl (pp_2_6 _) ?_
  refine mV_iload f9_pedal_7 rfl ?_
  refine mV_iload f9_pedal_8 rfl ?_
  refine mV_iload f9_pedal_9 rfl ?_
  obtain ⟨z0, hz0, hr⟩ := mBind hr
  refine mV_cV f9_pedal_10 tg_m1_addHeld mCls1 (by decide) kk_27 (mC_deep (c1_addHeld X I s x0 x1 x2 hz0) (by decide)) rfl rfl (Nat.le_of_ble_eq_true rfl) ?_
  have hr := Option.some.inj hr; subst hr
  exact mV_iret rfl rfl f9_pedal_13 hQ
theorem c9_pedal (X : Nat × (Nat → Int32)) (I : mI) (s : Nat) (x0 : Int32) (x1 : Int32) (x2 : Int32) {res : Int32 × mI} (hr : r9_pedal I x0 x1 x2 = some res) : mC X m9_pedal 1 0 0 [.ref 0, .int x0, .int x1, .int x2] NN KK I (PP s) (mRet (some (.int res.1)) NN KK res.2 (PP s)) :=
  mC_of (L0 := [.ref 0, .int x0, .int x1, .int x2]) rfl (Nat.le_of_ble_eq_true rfl) (w9_pedal X I s x0 x1 x2 _ hr (mRet_ok _ _ _ _ _))
def l1_clashes_16 (I : mI) (k2 : Int32) : Nat → Int32 → Int32 → Option (Int32)
  | 0, _, _ => none
  | f + 1, y1, y3 => if (I 27 6 : Int32) ≤ (y3 : Int32) then some y1 else (mLd I 30 9 k2).bind fun z0 => (mLd I 31 9 y3).bind fun z1 => (if (z1 : Int32) ≤ (z0 : Int32) then some 0 else (mLd I 30 9 y3).bind fun z3 => (mLd I 31 9 k2).bind fun z4 => if (z4 : Int32) ≤ (z3 : Int32) then some 0 else some 1 : Option (Int32)).bind fun z2 => (mLd I 32 9 k2).bind fun z5 => (mLd I 32 9 y3).bind fun z6 => (if (z2 : Int32) = (0 : Int32) then some y1 else if ((mRm (mAbs (z5 - z6)) 12) : Int32) = (1 : Int32) then some (y1 + 1) else if ((mRm (mAbs (z5 - z6)) 12) : Int32) = (2 : Int32) then some (y1 + 1) else if ((mRm (mAbs (z5 - z6)) 12) : Int32) = (10 : Int32) then some (y1 + 1) else if ((mRm (mAbs (z5 - z6)) 12) : Int32) = (11 : Int32) then some (y1 + 1) else some y1 : Option (Int32)).bind fun z7 => l1_clashes_16 I k2 f z7 (y3 + 1)
def l1_clashes_4 (I : mI) : Nat → Int32 → Int32 → Option (Int32)
  | 0, _, _ => none
  | f + 1, y1, y2 => if (I 27 6 : Int32) ≤ (y2 : Int32) then some y1 else (l1_clashes_16 I y2 FU y1 (y2 + 1)).bind fun z0 => l1_clashes_4 I f z0 (y2 + 1)
def r1_clashes (I : mI) : Option (Int32) := (l1_clashes_4 I FU 0 0).bind fun z0 => some z0
set_option maxHeartbeats 4000000 in
set_option maxRecDepth 100000 in
theorem t1_clashes_16 (X : Nat × (Nat → Int32)) (Q : mQ) (s : Nat) (I : mI) (k2 : Int32) : ∀ (f : Nat) (y1 : Int32) (y3 : Int32) (z : Int32), l1_clashes_16 I k2 f y1 y3 = some z → mV X m1_clashes 1 0 0 122 [.ref 27, .int z, .int k2, mX0, mX0, mX0] [] NN KK I (PP s) Q → mV X m1_clashes 1 0 0 16 [.ref 27, .int y1, .int k2, .int y3, mX0, mX0] [] NN KK I (PP s) Q := by
  intro f
  induction f with
  | zero => intro y1 y3 z hr hk; cases hr
  | succ f ih =>
    intro y1 y3 z hr hk
    unfold l1_clashes_16 at hr
    refine mV_iload f1_clashes_16 rfl ?_
    refine mV_aload f1_clashes_17 rfl ?_
    refine mV_gI (I 27 6) f1_clashes_18 (by decide) kk_27 rfl rfl ?_
    refine mV_icmp_ge f1_clashes_21 (fun h0 => ?_) (fun h0 => ?_)
    · rw [if_pos h0] at hr
      have hr := Option.some.inj hr; subst hr
      refine mV_drop (L' := [.ref 27, .int y1, .int k2, mX0, mX0, mX0]) (mSub_k (mSub_k (mSub_k (mSub_x (mSub_x (mSub_x mSub_n)))))) ?_
      exact hk
    · rw [if_neg h0] at hr
      refine mV_aload f1_clashes_24 rfl ?_
      refine mV_getP f1_clashes_25 (by decide) kk_27 rfl (pp_27_2 _) ?_
      refine mV_iload f1_clashes_28 rfl ?_
      obtain ⟨z0, hz0, hr⟩ := mBind hr
      refine mV_ldO f1_clashes_29 (by decide) kk_30 hz0 ?_
      refine mV_aload f1_clashes_30 rfl ?_
      refine mV_getP f1_clashes_31 (by decide) kk_27 rfl (pp_27_3 _) ?_
      refine mV_iload f1_clashes_34 rfl ?_
      obtain ⟨z1, hz1, hr⟩ := mBind hr
      refine mV_ldO f1_clashes_35 (by decide) kk_31 hz1 ?_
      obtain ⟨z2, hz2, hr⟩ := mBind hr
      have keyz2 : mV X m1_clashes 1 0 0 59 [.ref 27, .int y1, .int k2, .int y3, mX0, mX0] [.int z2] NN KK I (PP s) Q := by
        refine mV_istore (L' := [.ref 27, .int y1, .int k2, .int y3, .int z2, mX0]) f1_clashes_59 (by decide) rfl rfl ?_
        refine mV_aload f1_clashes_61 rfl ?_
        refine mV_getP f1_clashes_62 (by decide) kk_27 rfl (pp_27_4 _) ?_
        refine mV_iload f1_clashes_65 rfl ?_
        obtain ⟨z5, hz5, hr⟩ := mBind hr
        refine mV_ldO f1_clashes_66 (by decide) kk_32 hz5 ?_
        refine mV_aload f1_clashes_67 rfl ?_
        refine mV_getP f1_clashes_68 (by decide) kk_27 rfl (pp_27_4 _) ?_
        refine mV_iload f1_clashes_71 rfl ?_
        obtain ⟨z6, hz6, hr⟩ := mBind hr
        refine mV_ldO f1_clashes_72 (by decide) kk_32 hz6 ?_
        refine mV_isub f1_clashes_73 ?_
        refine mV_absC fm1_clashes_74 (Nat.le_of_ble_eq_true rfl) ?_
        refine mV_push f1_clashes_77 ?_
        refine mV_remC f1_clashes_79 (by decide) ?_
        refine mV_istore (L' := [.ref 27, .int y1, .int k2, .int y3, .int z2, .int (mRm (mAbs (z5 - z6)) 12)]) f1_clashes_80 (by decide) rfl rfl ?_
        refine mV_iload f1_clashes_82 rfl ?_
        obtain ⟨z7, hz7, hr⟩ := mBind hr
        have keyz7 : mV X m1_clashes 1 0 0 116 [.ref 27, .int z7, .int k2, .int y3, mX0, mX0] [] NN KK I (PP s) Q := by
          refine mV_iinc (y := (y3 + 1)) (L' := [.ref 27, .int z7, .int k2, .int (y3 + 1), mX0, mX0]) f1_clashes_116 rfl rfl (by decide) rfl rfl ?_
          refine mV_goto f1_clashes_119 ?_
          exact ih z7 (y3 + 1) _ hr hk
        clear hr
        have hr := hz7
        clear hz7
        refine mV_if_eq f1_clashes_84 (fun h3 => ?_) (fun h3 => ?_)
        · rw [if_pos h3] at hr
          have hr := Option.some.inj hr; subst hr
          refine mV_drop (L' := [.ref 27, .int y1, .int k2, .int y3, mX0, mX0]) (mSub_k (mSub_k (mSub_k (mSub_k (mSub_x (mSub_x mSub_n)))))) ?_
          exact keyz7
        · rw [if_neg h3] at hr
          refine mV_iload f1_clashes_87 rfl ?_
          refine mV_push f1_clashes_89 ?_
          refine mV_icmp_eq f1_clashes_90 (fun h4 => ?_) (fun h4 => ?_)
          · rw [if_pos h4] at hr
            refine mV_iinc (y := (y1 + 1)) (L' := [.ref 27, .int (y1 + 1), .int k2, .int y3, .int z2, .int (mRm (mAbs (z5 - z6)) 12)]) f1_clashes_113 rfl rfl (by decide) rfl rfl ?_
            have hr := Option.some.inj hr; subst hr
            refine mV_drop (L' := [.ref 27, .int (y1 + 1), .int k2, .int y3, mX0, mX0]) (mSub_k (mSub_k (mSub_k (mSub_k (mSub_x (mSub_x mSub_n)))))) ?_
            exact keyz7
          · rw [if_neg h4] at hr
            refine mV_iload f1_clashes_93 rfl ?_
            refine mV_push f1_clashes_95 ?_
            refine mV_icmp_eq f1_clashes_96 (fun h5 => ?_) (fun h5 => ?_)
            · rw [if_pos h5] at hr
              refine mV_iinc (y := (y1 + 1)) (L' := [.ref 27, .int (y1 + 1), .int k2, .int y3, .int z2, .int (mRm (mAbs (z5 - z6)) 12)]) f1_clashes_113 rfl rfl (by decide) rfl rfl ?_
              have hr := Option.some.inj hr; subst hr
              refine mV_drop (L' := [.ref 27, .int (y1 + 1), .int k2, .int y3, mX0, mX0]) (mSub_k (mSub_k (mSub_k (mSub_k (mSub_x (mSub_x mSub_n)))))) ?_
              exact keyz7
            · rw [if_neg h5] at hr
              refine mV_iload f1_clashes_99 rfl ?_
              refine mV_push f1_clashes_101 ?_
              refine mV_icmp_eq f1_clashes_103 (fun h6 => ?_) (fun h6 => ?_)
              · rw [if_pos h6] at hr
                refine mV_iinc (y := (y1 + 1)) (L' := [.ref 27, .int (y1 + 1), .int k2, .int y3, .int z2, .int (mRm (mAbs (z5 - z6)) 12)]) f1_clashes_113 rfl rfl (by decide) rfl rfl ?_
                have hr := Option.some.inj hr; subst hr
                refine mV_drop (L' := [.ref 27, .int (y1 + 1), .int k2, .int y3, mX0, mX0]) (mSub_k (mSub_k (mSub_k (mSub_k (mSub_x (mSub_x mSub_n)))))) ?_
                exact keyz7
              · rw [if_neg h6] at hr
                refine mV_iload f1_clashes_106 rfl ?_
                refine mV_push f1_clashes_108 ?_
                refine mV_icmp_ne f1_clashes_110 (fun h7 => ?_) (fun h7 => ?_)
                · rw [if_neg h7] at hr
                  have hr := Option.some.inj hr; subst hr
                  refine mV_drop (L' := [.ref 27, .int y1, .int k2, .int y3, mX0, mX0]) (mSub_k (mSub_k (mSub_k (mSub_k (mSub_x (mSub_x mSub_n)))))) ?_
                  exact keyz7
                · rw [if_pos h7] at hr
                  refine mV_iinc (y := (y1 + 1)) (L' := [.ref 27, .int (y1 + 1), .int k2, .int y3, .int z2, .int (mRm (mAbs (z5 - z6)) 12)]) f1_clashes_113 rfl rfl (by decide) rfl rfl ?_
                  have hr := Option.some.inj hr; subst hr
                  refine mV_drop (L' := [.ref 27, .int (y1 + 1), .int k2, .int y3, mX0, mX0]) (mSub_k (mSub_k (mSub_k (mSub_k (mSub_x (mSub_x mSub_n)))))) ?_
                  exact keyz7
      clear hr
      have hr := hz2
      clear hz2
      refine mV_icmp_ge f1_clashes_36 (fun h1 => ?_) (fun h1 => ?_)
      · rw [if_pos h1] at hr
        refine mV_push f1_clashes_58 ?_
        have hr := Option.some.inj hr; subst hr
        exact keyz2
      · rw [if_neg h1] at hr
        refine mV_aload f1_clashes_39 rfl ?_
        refine mV_getP f1_clashes_40 (by decide) kk_27 rfl (pp_27_2 _) ?_
        refine mV_iload f1_clashes_43 rfl ?_
        obtain ⟨z3, hz3, hr⟩ := mBind hr
        refine mV_ldO f1_clashes_44 (by decide) kk_30 hz3 ?_
        refine mV_aload f1_clashes_45 rfl ?_
        refine mV_getP f1_clashes_46 (by decide) kk_27 rfl (pp_27_3 _) ?_
        refine mV_iload f1_clashes_49 rfl ?_
        obtain ⟨z4, hz4, hr⟩ := mBind hr
        refine mV_ldO f1_clashes_50 (by decide) kk_31 hz4 ?_
        refine mV_icmp_ge f1_clashes_51 (fun h2 => ?_) (fun h2 => ?_)
        · rw [if_pos h2] at hr
          refine mV_push f1_clashes_58 ?_
          have hr := Option.some.inj hr; subst hr
          exact keyz2
        · rw [if_neg h2] at hr
          refine mV_push f1_clashes_54 ?_
          refine mV_goto f1_clashes_55 ?_
          have hr := Option.some.inj hr; subst hr
          exact keyz2
set_option maxHeartbeats 4000000 in
set_option maxRecDepth 100000 in
theorem t1_clashes_4 (X : Nat × (Nat → Int32)) (Q : mQ) (s : Nat) (I : mI) : ∀ (f : Nat) (y1 : Int32) (y2 : Int32) (z : Int32), l1_clashes_4 I f y1 y2 = some z → mV X m1_clashes 1 0 0 128 [.ref 27, .int z, mX0, mX0, mX0, mX0] [] NN KK I (PP s) Q → mV X m1_clashes 1 0 0 4 [.ref 27, .int y1, .int y2, mX0, mX0, mX0] [] NN KK I (PP s) Q := by
  intro f
  induction f with
  | zero => intro y1 y2 z hr hk; cases hr
  | succ f ih =>
    intro y1 y2 z hr hk
    unfold l1_clashes_4 at hr
    refine mV_iload f1_clashes_4 rfl ?_
    refine mV_aload f1_clashes_5 rfl ?_
    refine mV_gI (I 27 6) f1_clashes_6 (by decide) kk_27 rfl rfl ?_
    refine mV_icmp_ge f1_clashes_9 (fun h0 => ?_) (fun h0 => ?_)
    · rw [if_pos h0] at hr
      have hr := Option.some.inj hr; subst hr
      refine mV_drop (L' := [.ref 27, .int y1, mX0, mX0, mX0, mX0]) (mSub_k (mSub_k (mSub_x (mSub_x (mSub_x (mSub_x mSub_n)))))) ?_
      exact hk
    · rw [if_neg h0] at hr
      refine mV_iload f1_clashes_12 rfl ?_
      refine mV_push f1_clashes_13 ?_
      refine mV_iadd f1_clashes_14 ?_
      refine mV_istore (L' := [.ref 27, .int y1, .int y2, .int (y2 + 1), mX0, mX0]) f1_clashes_15 (by decide) rfl rfl ?_
      obtain ⟨z0, hz0, hr⟩ := mBind hr
      refine t1_clashes_16 X Q s I y2 FU y1 (y2 + 1) _ hz0 ?_
      refine mV_iinc (y := (y2 + 1)) (L' := [.ref 27, .int z0, .int (y2 + 1), mX0, mX0, mX0]) f1_clashes_122 rfl rfl (by decide) rfl rfl ?_
      refine mV_goto f1_clashes_125 ?_
      exact ih z0 (y2 + 1) _ hr hk
set_option maxHeartbeats 4000000 in
set_option maxRecDepth 100000 in
theorem w1_clashes (X : Nat × (Nat → Int32)) (I : mI) (s : Nat) (Q : mQ) {res : Int32} (hr : r1_clashes I = some res) (hQ : Q (some (.int res)) NN KK I (PP s)) : mV X m1_clashes 1 0 0 0 [.ref 27, mX0, mX0, mX0, mX0, mX0] [] NN KK I (PP s) Q := by
  unfold r1_clashes at hr
  refine mV_push f1_clashes_0 ?_
  refine mV_istore (L' := [.ref 27, .int 0, mX0, mX0, mX0, mX0]) f1_clashes_1 (by decide) rfl rfl ?_
  refine mV_push f1_clashes_2 ?_
  refine mV_istore (L' := [.ref 27, .int 0, .int 0, mX0, mX0, mX0]) f1_clashes_3 (by decide) rfl rfl ?_
  obtain ⟨z0, hz0, hr⟩ := mBind hr
  refine t1_clashes_4 X Q s I FU 0 0 _ hz0 ?_
  refine mV_iload f1_clashes_128 rfl ?_
  have hr := Option.some.inj hr; subst hr
  exact mV_iret rfl rfl f1_clashes_129 hQ
theorem c1_clashes (X : Nat × (Nat → Int32)) (I : mI) (s : Nat) {res : Int32} (hr : r1_clashes I = some res) : mC X m1_clashes 1 0 0 [.ref 27] NN KK I (PP s) (mRet (some (.int res)) NN KK I (PP s)) :=
  mC_of (L0 := [.ref 27, mX0, mX0, mX0, mX0, mX0]) rfl (Nat.le_of_ble_eq_true rfl) (w1_clashes X I s _ hr (mRet_ok _ _ _ _ _))
def l1_soundingAt_4 (I : mI) (k1 : Int32) : Nat → Int32 → Int32 → Option (Int32)
  | 0, _, _ => none
  | f + 1, y2, y3 => if (I 27 6 : Int32) ≤ (y3 : Int32) then some y2 else (mLd I 30 9 y3).bind fun z0 => (if (k1 : Int32) < (z0 : Int32) then some y2 else (mLd I 31 9 y3).bind fun z2 => if (z2 : Int32) ≤ (k1 : Int32) then some y2 else some (y2 + 1) : Option (Int32)).bind fun z1 => l1_soundingAt_4 I k1 f z1 (y3 + 1)
def r1_soundingAt (I : mI) (x0 : Int32) : Option (Int32) := (l1_soundingAt_4 I x0 FU 0 0).bind fun z0 => some z0
set_option maxHeartbeats 4000000 in
set_option maxRecDepth 100000 in
theorem t1_soundingAt_4 (X : Nat × (Nat → Int32)) (Q : mQ) (s : Nat) (I : mI) (k1 : Int32) : ∀ (f : Nat) (y2 : Int32) (y3 : Int32) (z : Int32), l1_soundingAt_4 I k1 f y2 y3 = some z → mV X m1_soundingAt 0 0 0 41 [.ref 27, .int k1, .int z, mX0] [] NN KK I (PP s) Q → mV X m1_soundingAt 0 0 0 4 [.ref 27, .int k1, .int y2, .int y3] [] NN KK I (PP s) Q := by
  intro f
  induction f with
  | zero => intro y2 y3 z hr hk; cases hr
  | succ f ih =>
    intro y2 y3 z hr hk
    unfold l1_soundingAt_4 at hr
    refine mV_iload f1_soundingAt_4 rfl ?_
    refine mV_aload f1_soundingAt_5 rfl ?_
    refine mV_gI (I 27 6) f1_soundingAt_6 (by decide) kk_27 rfl rfl ?_
    refine mV_icmp_ge f1_soundingAt_9 (fun h0 => ?_) (fun h0 => ?_)
    · rw [if_pos h0] at hr
      have hr := Option.some.inj hr; subst hr
      refine mV_drop (L' := [.ref 27, .int k1, .int y2, mX0]) (mSub_k (mSub_k (mSub_k (mSub_x mSub_n)))) ?_
      exact hk
    · rw [if_neg h0] at hr
      refine mV_aload f1_soundingAt_12 rfl ?_
      refine mV_getP f1_soundingAt_13 (by decide) kk_27 rfl (pp_27_2 _) ?_
      refine mV_iload f1_soundingAt_16 rfl ?_
      obtain ⟨z0, hz0, hr⟩ := mBind hr
      refine mV_ldO f1_soundingAt_17 (by decide) kk_30 hz0 ?_
      refine mV_iload f1_soundingAt_18 rfl ?_
      obtain ⟨z1, hz1, hr⟩ := mBind hr
      have keyz1 : mV X m1_soundingAt 0 0 0 35 [.ref 27, .int k1, .int z1, .int y3] [] NN KK I (PP s) Q := by
        refine mV_iinc (y := (y3 + 1)) (L' := [.ref 27, .int k1, .int z1, .int (y3 + 1)]) f1_soundingAt_35 rfl rfl (by decide) rfl rfl ?_
        refine mV_goto f1_soundingAt_38 ?_
        exact ih z1 (y3 + 1) _ hr hk
      clear hr
      have hr := hz1
      clear hz1
      refine mV_icmp_gt f1_soundingAt_19 (fun h1 => ?_) (fun h1 => ?_)
      · rw [if_pos h1] at hr
        have hr := Option.some.inj hr; subst hr
        exact keyz1
      · rw [if_neg h1] at hr
        refine mV_iload f1_soundingAt_22 rfl ?_
        refine mV_aload f1_soundingAt_23 rfl ?_
        refine mV_getP f1_soundingAt_24 (by decide) kk_27 rfl (pp_27_3 _) ?_
        refine mV_iload f1_soundingAt_27 rfl ?_
        obtain ⟨z2, hz2, hr⟩ := mBind hr
        refine mV_ldO f1_soundingAt_28 (by decide) kk_31 hz2 ?_
        refine mV_icmp_ge f1_soundingAt_29 (fun h2 => ?_) (fun h2 => ?_)
        · rw [if_pos h2] at hr
          have hr := Option.some.inj hr; subst hr
          exact keyz1
        · rw [if_neg h2] at hr
          refine mV_iinc (y := (y2 + 1)) (L' := [.ref 27, .int k1, .int (y2 + 1), .int y3]) f1_soundingAt_32 rfl rfl (by decide) rfl rfl ?_
          have hr := Option.some.inj hr; subst hr
          exact keyz1
set_option maxHeartbeats 4000000 in
set_option maxRecDepth 100000 in
theorem w1_soundingAt (X : Nat × (Nat → Int32)) (I : mI) (s : Nat) (x0 : Int32) (Q : mQ) {res : Int32} (hr : r1_soundingAt I x0 = some res) (hQ : Q (some (.int res)) NN KK I (PP s)) : mV X m1_soundingAt 0 0 0 0 [.ref 27, .int x0, mX0, mX0] [] NN KK I (PP s) Q := by
  unfold r1_soundingAt at hr
  refine mV_push f1_soundingAt_0 ?_
  refine mV_istore (L' := [.ref 27, .int x0, .int 0, mX0]) f1_soundingAt_1 (by decide) rfl rfl ?_
  refine mV_push f1_soundingAt_2 ?_
  refine mV_istore (L' := [.ref 27, .int x0, .int 0, .int 0]) f1_soundingAt_3 (by decide) rfl rfl ?_
  obtain ⟨z0, hz0, hr⟩ := mBind hr
  refine t1_soundingAt_4 X Q s I x0 FU 0 0 _ hz0 ?_
  refine mV_iload f1_soundingAt_41 rfl ?_
  have hr := Option.some.inj hr; subst hr
  exact mV_iret rfl rfl f1_soundingAt_42 hQ
theorem c1_soundingAt (X : Nat × (Nat → Int32)) (I : mI) (s : Nat) (x0 : Int32) {res : Int32} (hr : r1_soundingAt I x0 = some res) : mC X m1_soundingAt 0 0 0 [.ref 27, .int x0] NN KK I (PP s) (mRet (some (.int res)) NN KK I (PP s)) :=
  mC_of (L0 := [.ref 27, .int x0, mX0, mX0]) rfl (Nat.le_of_ble_eq_true rfl) (w1_soundingAt X I s x0 _ hr (mRet_ok _ _ _ _ _))

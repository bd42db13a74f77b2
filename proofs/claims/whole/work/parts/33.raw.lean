def r4_addToken (I : mI) (x0 : Int32) (x1 : Int32) (x2 : Int32) : Option (mI) := (if (401 : Int32) ≤ (I 109 5 : Int32) then some I else (mSto I 111 401 (I 109 5) x0).bind fun z1 => (mSto z1 112 401 (z1 109 5) x1).bind fun z2 => (mSto z2 113 401 (z2 109 5) x2).bind fun z3 => some (mW z3 109 5 (z3 109 5 + 1)) : Option (mI)).bind fun z0 => some z0
set_option maxHeartbeats 4000000 in
set_option maxRecDepth 100000 in
theorem w4_addToken (X : Nat × (Nat → Int32)) (I : mI) (s : Nat) (x0 : Int32) (x1 : Int32) (x2 : Int32) (Q : mQ) {res : mI} (hr : r4_addToken I x0 x1 x2 = some res) (hQ : Q none NN KK res (PP s)) : mV X m4_addToken 0 0 0 0 [.ref 109, .int x0, .int x1, .int x2] [] NN KK I (PP s) Q := by
  unfold r4_addToken at hr
  refine mV_aload f4_addToken_0 rfl ?_
  refine mV_gI (I 109 5) f4_addToken_1 (by decide) kk_109 rfl rfl ?_
  refine mV_aload f4_addToken_4 rfl ?_
  refine mV_getP f4_addToken_5 (by decide) kk_109 rfl (pp_109_2 _) ?_
  refine mV_alen f4_addToken_8 (by decide) kk_111 ?_
  refine mV_as 401 (by decide) ?_
  obtain ⟨z0, hz0, hr⟩ := mBind hr
  have keyz0 : mV X m4_addToken 0 0 0 52 [.ref 109, mX0, mX0, mX0] [] NN KK z0 (PP s) Q := by
    have hr := Option.some.inj hr; subst hr
    exact mV_vret rfl f4_addToken_52 hQ
  clear hr
  have hr := hz0
  clear hz0
  refine mV_icmp_ge f4_addToken_9 (fun h0 => ?_) (fun h0 => ?_)
  · rw [if_pos h0] at hr
    have hr := Option.some.inj hr; subst hr
    refine mV_drop (L' := [.ref 109, mX0, mX0, mX0]) (mSub_k (mSub_x (mSub_x (mSub_x mSub_n)))) ?_
    exact keyz0
  · rw [if_neg h0] at hr
    refine mV_aload f4_addToken_12 rfl ?_
    refine mV_getP f4_addToken_13 (by decide) kk_109 rfl (pp_109_2 _) ?_
    refine mV_aload f4_addToken_16 rfl ?_
    refine mV_gI (I 109 5) f4_addToken_17 (by decide) kk_109 rfl rfl ?_
    refine mV_iload f4_addToken_20 rfl ?_
    obtain ⟨z1, hz1, hr⟩ := mBind hr
    refine mV_stO f4_addToken_21 (by decide) kk_111 hz1 ?_
    refine mV_aload f4_addToken_22 rfl ?_
    refine mV_getP f4_addToken_23 (by decide) kk_109 rfl (pp_109_3 _) ?_
    refine mV_aload f4_addToken_26 rfl ?_
    refine mV_gI (z1 109 5) f4_addToken_27 (by decide) kk_109 rfl rfl ?_
    refine mV_iload f4_addToken_30 rfl ?_
    obtain ⟨z2, hz2, hr⟩ := mBind hr
    refine mV_stO f4_addToken_31 (by decide) kk_112 hz2 ?_
    refine mV_aload f4_addToken_32 rfl ?_
    refine mV_getP f4_addToken_33 (by decide) kk_109 rfl (pp_109_4 _) ?_
    refine mV_aload f4_addToken_36 rfl ?_
    refine mV_gI (z2 109 5) f4_addToken_37 (by decide) kk_109 rfl rfl ?_
    refine mV_iload f4_addToken_40 rfl ?_
    obtain ⟨z3, hz3, hr⟩ := mBind hr
    refine mV_stO f4_addToken_41 (by decide) kk_113 hz3 ?_
    refine mV_aload f4_addToken_42 rfl ?_
    refine mV_dup f4_addToken_43 rfl ?_
    refine mV_gI (z3 109 5) f4_addToken_44 (by decide) kk_109 rfl rfl ?_
    refine mV_push f4_addToken_47 ?_
    refine mV_iadd f4_addToken_48 ?_
    refine mV_putI f4_addToken_49 (by decide) kk_109 rfl rfl ?_
    have hr := Option.some.inj hr; subst hr
    refine mV_drop (L' := [.ref 109, mX0, mX0, mX0]) (mSub_k (mSub_x (mSub_x (mSub_x mSub_n)))) ?_
    exact keyz0
theorem c4_addToken (X : Nat × (Nat → Int32)) (I : mI) (s : Nat) (x0 : Int32) (x1 : Int32) (x2 : Int32) {res : mI} (hr : r4_addToken I x0 x1 x2 = some res) : mC X m4_addToken 0 0 0 [.ref 109, .int x0, .int x1, .int x2] NN KK I (PP s) (mRet none NN KK res (PP s)) :=
  mC_of (L0 := [.ref 109, .int x0, .int x1, .int x2]) rfl (Nat.le_of_ble_eq_true rfl) (w4_addToken X I s x0 x1 x2 _ hr (mRet_ok _ _ _ _ _))
def r4_isDigit (x0 : Int32) : Int32 := if (x0 : Int32) < (48 : Int32) then 0 else if (57 : Int32) < (x0 : Int32) then 0 else 1
set_option maxHeartbeats 4000000 in
set_option maxRecDepth 100000 in
theorem w4_isDigit (X : Nat × (Nat → Int32)) (I : mI) (s : Nat) (x0 : Int32) (Q : mQ) {res : Int32} (hr : r4_isDigit x0 = res) (hQ : Q (some (.int res)) NN KK I (PP s)) : mV X m4_isDigit 0 0 0 0 [.int x0] [] NN KK I (PP s) Q := by
  unfold r4_isDigit at hr
  refine mV_iload f4_isDigit_0 rfl ?_
  refine mV_push f4_isDigit_1 ?_
  refine mV_icmp_lt f4_isDigit_3 (fun h0 => ?_) (fun h0 => ?_)
  · rw [if_pos h0] at hr
    refine mV_push f4_isDigit_16 ?_
    subst hr
    exact mV_iret rfl rfl f4_isDigit_17 hQ
  · rw [if_neg h0] at hr
    refine mV_iload f4_isDigit_6 rfl ?_
    refine mV_push f4_isDigit_7 ?_
    refine mV_icmp_gt f4_isDigit_9 (fun h1 => ?_) (fun h1 => ?_)
    · rw [if_pos h1] at hr
      refine mV_push f4_isDigit_16 ?_
      subst hr
      exact mV_iret rfl rfl f4_isDigit_17 hQ
    · rw [if_neg h1] at hr
      refine mV_push f4_isDigit_12 ?_
      refine mV_goto f4_isDigit_13 ?_
      subst hr
      exact mV_iret rfl rfl f4_isDigit_17 hQ
theorem c4_isDigit (X : Nat × (Nat → Int32)) (I : mI) (s : Nat) (x0 : Int32) {res : Int32} (hr : r4_isDigit x0 = res) : mC X m4_isDigit 0 0 0 [.int x0] NN KK I (PP s) (mRet (some (.int res)) NN KK I (PP s)) :=
  mC_of (L0 := [.int x0]) rfl (Nat.le_of_ble_eq_true rfl) (w4_isDigit X I s x0 _ hr (mRet_ok _ _ _ _ _))
def l4_endOfDigits_2 (I : mI) : Nat → Int32 → Option (Int32)
  | 0, _ => none
  | f + 1, y2 => if (I 109 1 : Int32) ≤ (y2 : Int32) then some y2 else (mLd I 110 400 y2).bind fun z0 => if ((r4_isDigit z0) : Int32) = (0 : Int32) then some y2 else l4_endOfDigits_2 I f (y2 + 1)
def r4_endOfDigits (I : mI) (x0 : Int32) : Option (Int32) := (l4_endOfDigits_2 I FU x0).bind fun z0 => some z0
set_option maxHeartbeats 4000000 in
set_option maxRecDepth 100000 in
theorem t4_endOfDigits_2 (X : Nat × (Nat → Int32)) (Q : mQ) (s : Nat) (I : mI) : ∀ (f : Nat) (y2 : Int32) (z : Int32), l4_endOfDigits_2 I f y2 = some z → mV X m4_endOfDigits 1 0 0 28 [.ref 109, mX0, .int z] [] NN KK I (PP s) Q → mV X m4_endOfDigits 1 0 0 2 [.ref 109, mX0, .int y2] [] NN KK I (PP s) Q := by
  intro f
  induction f with
  | zero => intro y2 z hr hk; cases hr
  | succ f ih =>
    intro y2 z hr hk
    unfold l4_endOfDigits_2 at hr
    refine mV_iload f4_endOfDigits_2 rfl ?_
    refine mV_aload f4_endOfDigits_3 rfl ?_
    refine mV_gI (I 109 1) f4_endOfDigits_4 (by decide) kk_109 rfl rfl ?_
    refine mV_icmp_ge f4_endOfDigits_7 (fun h0 => ?_) (fun h0 => ?_)
    · rw [if_pos h0] at hr
      have hr := Option.some.inj hr; subst hr
      exact hk
    · rw [if_neg h0] at hr
      refine mV_aload f4_endOfDigits_10 rfl ?_
      refine mV_getP f4_endOfDigits_11 (by decide) kk_109 rfl (pp_109_0 _) ?_
      refine mV_iload f4_endOfDigits_14 rfl ?_
      obtain ⟨z0, hz0, hr⟩ := mBind hr
      refine mV_ldO f4_endOfDigits_15 (by decide) kk_110 hz0 ?_
      refine mV_cS f4_endOfDigits_16 tg_m4_isDigit (mC_deep (c4_isDigit X I s z0 rfl) (by decide)) rfl rfl (Nat.le_of_ble_eq_true rfl) ?_
      refine mV_if_eq f4_endOfDigits_19 (fun h1 => ?_) (fun h1 => ?_)
      · rw [if_pos h1] at hr
        have hr := Option.some.inj hr; subst hr
        exact hk
      · rw [if_neg h1] at hr
        refine mV_iinc (y := (y2 + 1)) (L' := [.ref 109, mX0, .int (y2 + 1)]) f4_endOfDigits_22 rfl rfl (by decide) rfl rfl ?_
        refine mV_goto f4_endOfDigits_25 ?_
        exact ih (y2 + 1) _ hr hk
set_option maxHeartbeats 4000000 in
set_option maxRecDepth 100000 in
theorem w4_endOfDigits (X : Nat × (Nat → Int32)) (I : mI) (s : Nat) (x0 : Int32) (Q : mQ) {res : Int32} (hr : r4_endOfDigits I x0 = some res) (hQ : Q (some (.int res)) NN KK I (PP s)) : mV X m4_endOfDigits 1 0 0 0 [.ref 109, .int x0, mX0] [] NN KK I (PP s) Q := by
  unfold r4_endOfDigits at hr
  refine mV_iload f4_endOfDigits_0 rfl ?_
  refine mV_istore (L' := [.ref 109, .int x0, .int x0]) f4_endOfDigits_1 (by decide) rfl rfl ?_
  obtain ⟨z0, hz0, hr⟩ := mBind hr
  refine mV_drop (L' := [.ref 109, mX0, .int x0]) (mSub_k (mSub_x (mSub_k mSub_n))) ?_
  refine t4_endOfDigits_2 X Q s I FU x0 _ hz0 ?_
  refine mV_iload f4_endOfDigits_28 rfl ?_
  have hr := Option.some.inj hr; subst hr
  exact mV_iret rfl rfl f4_endOfDigits_29 hQ
theorem c4_endOfDigits (X : Nat × (Nat → Int32)) (I : mI) (s : Nat) (x0 : Int32) {res : Int32} (hr : r4_endOfDigits I x0 = some res) : mC X m4_endOfDigits 1 0 0 [.ref 109, .int x0] NN KK I (PP s) (mRet (some (.int res)) NN KK I (PP s)) :=
  mC_of (L0 := [.ref 109, .int x0, mX0]) rfl (Nat.le_of_ble_eq_true rfl) (w4_endOfDigits X I s x0 _ hr (mRet_ok _ _ _ _ _))
def l4_valueOf_5 (I : mI) (k1 : Int32) (k2 : Int32) : Nat → Int32 → Int32 → Option (Int32)
  | 0, _, _ => none
  | f + 1, y3, y4 => if (k2 : Int32) ≤ (y4 : Int32) then some y3 else if ((k1 + 4) : Int32) ≤ (y4 : Int32) then some y3 else (mLd I 110 400 y4).bind fun z0 => l4_valueOf_5 I k1 k2 f (((y3 * 10) + z0) - 48) (y4 + 1)
def r4_valueOf (I : mI) (x0 : Int32) (x1 : Int32) : Option (Int32) := (l4_valueOf_5 I x0 x1 FU 0 x0).bind fun z0 => some z0
set_option maxHeartbeats 4000000 in
set_option maxRecDepth 100000 in
theorem t4_valueOf_5 (X : Nat × (Nat → Int32)) (Q : mQ) (s : Nat) (I : mI) (k1 : Int32) (k2 : Int32) : ∀ (f : Nat) (y3 : Int32) (y4 : Int32) (z : Int32), l4_valueOf_5 I k1 k2 f y3 y4 = some z → mV X m4_valueOf 0 0 0 41 [.ref 109, .int k1, .int k2, .int z, mX0] [] NN KK I (PP s) Q → mV X m4_valueOf 0 0 0 5 [.ref 109, .int k1, .int k2, .int y3, .int y4] [] NN KK I (PP s) Q := by
  intro f
  induction f with
  | zero => intro y3 y4 z hr hk; cases hr
  | succ f ih =>
    intro y3 y4 z hr hk
    unfold l4_valueOf_5 at hr
    refine mV_iload f4_valueOf_5 rfl ?_
    refine mV_iload f4_valueOf_7 rfl ?_
    refine mV_icmp_ge f4_valueOf_8 (fun h0 => ?_) (fun h0 => ?_)
    · rw [if_pos h0] at hr
      have hr := Option.some.inj hr; subst hr
      refine mV_drop (L' := [.ref 109, .int k1, .int k2, .int y3, mX0]) (mSub_k (mSub_k (mSub_k (mSub_k (mSub_x mSub_n))))) ?_
      exact hk
    · rw [if_neg h0] at hr
      refine mV_iload f4_valueOf_11 rfl ?_
      refine mV_iload f4_valueOf_13 rfl ?_
      refine mV_push f4_valueOf_14 ?_
      refine mV_iadd f4_valueOf_15 ?_
      refine mV_icmp_ge f4_valueOf_16 (fun h1 => ?_) (fun h1 => ?_)
      · rw [if_pos h1] at hr
        have hr := Option.some.inj hr; subst hr
        refine mV_drop (L' := [.ref 109, .int k1, .int k2, .int y3, mX0]) (mSub_k (mSub_k (mSub_k (mSub_k (mSub_x mSub_n))))) ?_
        exact hk
      · rw [if_neg h1] at hr
        refine mV_iload f4_valueOf_19 rfl ?_
        refine mV_push f4_valueOf_20 ?_
        refine mV_imul f4_valueOf_22 ?_
        refine mV_aload f4_valueOf_23 rfl ?_
        refine mV_getP f4_valueOf_24 (by decide) kk_109 rfl (pp_109_0 _) ?_
        refine mV_iload f4_valueOf_27 rfl ?_
        obtain ⟨z0, hz0, hr⟩ := mBind hr
        refine mV_ldO f4_valueOf_29 (by decide) kk_110 hz0 ?_
        refine mV_iadd f4_valueOf_30 ?_
        refine mV_push f4_valueOf_31 ?_
        refine mV_isub f4_valueOf_33 ?_
        refine mV_istore (L' := [.ref 109, .int k1, .int k2, .int (((y3 * 10) + z0) - 48), .int y4]) f4_valueOf_34 (by decide) rfl rfl ?_
        refine mV_iinc (y := (y4 + 1)) (L' := [.ref 109, .int k1, .int k2, .int (((y3 * 10) + z0) - 48), .int (y4 + 1)]) f4_valueOf_35 rfl rfl (by decide) rfl rfl ?_
        refine mV_goto f4_valueOf_38 ?_
        exact ih (((y3 * 10) + z0) - 48) (y4 + 1) _ hr hk
set_option maxHeartbeats 4000000 in
set_option maxRecDepth 100000 in
theorem w4_valueOf (X : Nat × (Nat → Int32)) (I : mI) (s : Nat) (x0 : Int32) (x1 : Int32) (Q : mQ) {res : Int32} (hr : r4_valueOf I x0 x1 = some res) (hQ : Q (some (.int res)) NN KK I (PP s)) : mV X m4_valueOf 0 0 0 0 [.ref 109, .int x0, .int x1, mX0, mX0] [] NN KK I (PP s) Q := by
  unfold r4_valueOf at hr
  refine mV_push f4_valueOf_0 ?_
  refine mV_istore (L' := [.ref 109, .int x0, .int x1, .int 0, mX0]) f4_valueOf_1 (by decide) rfl rfl ?_
  refine mV_iload f4_valueOf_2 rfl ?_
  refine mV_istore (L' := [.ref 109, .int x0, .int x1, .int 0, .int x0]) f4_valueOf_3 (by decide) rfl rfl ?_
  obtain ⟨z0, hz0, hr⟩ := mBind hr
  refine t4_valueOf_5 X Q s I x0 x1 FU 0 x0 _ hz0 ?_
  refine mV_iload f4_valueOf_41 rfl ?_
  have hr := Option.some.inj hr; subst hr
  exact mV_iret rfl rfl f4_valueOf_42 hQ
theorem c4_valueOf (X : Nat × (Nat → Int32)) (I : mI) (s : Nat) (x0 : Int32) (x1 : Int32) {res : Int32} (hr : r4_valueOf I x0 x1 = some res) : mC X m4_valueOf 0 0 0 [.ref 109, .int x0, .int x1] NN KK I (PP s) (mRet (some (.int res)) NN KK I (PP s)) :=
  mC_of (L0 := [.ref 109, .int x0, .int x1, mX0, mX0]) rfl (Nat.le_of_ble_eq_true rfl) (w4_valueOf X I s x0 x1 _ hr (mRet_ok _ _ _ _ _))
def rJ0_isLatin1_s1 : Int32 := 1
set_option maxHeartbeats 4000000 in
set_option maxRecDepth 100000 in
theorem wJ0_isLatin1_s1 (X : Nat × (Nat → Int32)) (I : mI) (s : Nat) (Q : mQ) {res : Int32} (hr : rJ0_isLatin1_s1 = res) (hQ : Q (some (.int res)) NN KK I (PP s)) : mV X mJ0_isLatin1 0 0 0 0 [.retAddr 1] [] NN KK I (PP s) Q := by
  unfold rJ0_isLatin1_s1 at hr
  refine mV_gCmp fJ0_isLatin1_0 ?_
  refine mV_if_eq fJ0_isLatin1_3 (fun h => absurd h (by decide)) (fun _ => ?_)
  refine mV_aloadS fJ0_isLatin1_6 rfl ?_
  refine mV_gCod (by decide) fJ0_isLatin1_7 ?_
  refine mV_if_ne fJ0_isLatin1_10 (fun h => absurd h (by decide)) (fun _ => ?_)
  refine mV_push fJ0_isLatin1_13 ?_
  refine mV_goto fJ0_isLatin1_14 ?_
  subst hr
  exact mV_iret rfl rfl fJ0_isLatin1_18 hQ
theorem cJ0_isLatin1_s1 (X : Nat × (Nat → Int32)) (I : mI) (s : Nat) {res : Int32} (hr : rJ0_isLatin1_s1 = res) : mC X mJ0_isLatin1 0 0 0 [.retAddr 1] NN KK I (PP s) (mRet (some (.int res)) NN KK I (PP s)) :=
  mC_of (L0 := [.retAddr 1]) rfl (Nat.le_of_ble_eq_true rfl) (wJ0_isLatin1_s1 X I s _ hr (mRet_ok _ _ _ _ _))
def rJ0_coder_s1 : Int32 := 0
set_option maxHeartbeats 4000000 in
set_option maxRecDepth 100000 in
theorem wJ0_coder_s1 (X : Nat × (Nat → Int32)) (I : mI) (s : Nat) (Q : mQ) {res : Int32} (hr : rJ0_coder_s1 = res) (hQ : Q (some (.int res)) NN KK I (PP s)) : mV X mJ0_coder 0 0 0 0 [.retAddr 1] [] NN KK I (PP s) Q := by
  unfold rJ0_coder_s1 at hr
  refine mV_gCmp fJ0_coder_0 ?_
  refine mV_if_eq fJ0_coder_3 (fun h => absurd h (by decide)) (fun _ => ?_)
  refine mV_aloadS fJ0_coder_6 rfl ?_
  refine mV_gCod (by decide) fJ0_coder_7 ?_
  refine mV_goto fJ0_coder_10 ?_
  subst hr
  exact mV_iret rfl rfl fJ0_coder_14 hQ
theorem cJ0_coder_s1 (X : Nat × (Nat → Int32)) (I : mI) (s : Nat) {res : Int32} (hr : rJ0_coder_s1 = res) : mC X mJ0_coder 0 0 0 [.retAddr 1] NN KK I (PP s) (mRet (some (.int res)) NN KK I (PP s)) :=
  mC_of (L0 := [.retAddr 1]) rfl (Nat.le_of_ble_eq_true rfl) (wJ0_coder_s1 X I s _ hr (mRet_ok _ _ _ _ _))
def rJ0_length_s1 : Int32 := ((10 : Int32) >>> (0 &&& 31))
set_option maxHeartbeats 4000000 in
set_option maxRecDepth 100000 in
theorem wJ0_length_s1 (X : Nat × (Nat → Int32)) (I : mI) (s : Nat) (Q : mQ) {res : Int32} (hr : rJ0_length_s1 = res) (hQ : Q (some (.int res)) NN KK I (PP s)) : mV X mJ0_length 1 0 0 0 [.retAddr 1] [] NN KK I (PP s) Q := by
  unfold rJ0_length_s1 at hr
  refine mV_aloadS fJ0_length_0 rfl ?_
  refine mV_gVal (by decide) fJ0_length_1 ?_
  refine mV_tlen (i := 1) (x := 10) (by decide) (by decide) fJ0_length_4 ?_
  refine mV_aloadS fJ0_length_5 rfl ?_
  refine mV_cStr (i := 1) (by decide) fJ0_length_6 tg_mJ0_coder rfl (mC_deep (cJ0_coder_s1 X I s rfl) (by decide)) rfl rfl (Nat.le_of_ble_eq_true rfl) ?_
  refine mV_as 0 rfl ?_
  refine mV_ishr fJ0_length_9 ?_
  subst hr
  exact mV_iret rfl rfl fJ0_length_10 hQ
theorem cJ0_length_s1 (X : Nat × (Nat → Int32)) (I : mI) (s : Nat) {res : Int32} (hr : rJ0_length_s1 = res) : mC X mJ0_length 1 0 0 [.retAddr 1] NN KK I (PP s) (mRet (some (.int res)) NN KK I (PP s)) :=
  mC_of (L0 := [.retAddr 1]) rfl (Nat.le_of_ble_eq_true rfl) (wJ0_length_s1 X I s _ hr (mRet_ok _ _ _ _ _))
def rJ1_canEncode (x0 : Int32) : Int32 := if (x0 : Int32) < (0 : Int32) then 0 else if (255 : Int32) < (x0 : Int32) then 0 else 1
set_option maxHeartbeats 4000000 in
set_option maxRecDepth 100000 in
theorem wJ1_canEncode (X : Nat × (Nat → Int32)) (I : mI) (s : Nat) (x0 : Int32) (Q : mQ) {res : Int32} (hr : rJ1_canEncode x0 = res) (hQ : Q (some (.int res)) NN KK I (PP s)) : mV X mJ1_canEncode 0 0 0 0 [.int x0] [] NN KK I (PP s) Q := by
  unfold rJ1_canEncode at hr
  refine mV_iload fJ1_canEncode_0 rfl ?_
  refine mV_if_lt fJ1_canEncode_1 (fun h0 => ?_) (fun h0 => ?_)
  · rw [if_pos h0] at hr
    refine mV_push fJ1_canEncode_15 ?_
    subst hr
    exact mV_iret rfl rfl fJ1_canEncode_16 hQ
  · rw [if_neg h0] at hr
    refine mV_iload fJ1_canEncode_4 rfl ?_
    refine mV_push fJ1_canEncode_5 ?_
    refine mV_icmp_gt fJ1_canEncode_8 (fun h1 => ?_) (fun h1 => ?_)
    · rw [if_pos h1] at hr
      refine mV_push fJ1_canEncode_15 ?_
      subst hr
      exact mV_iret rfl rfl fJ1_canEncode_16 hQ
    · rw [if_neg h1] at hr
      refine mV_push fJ1_canEncode_11 ?_
      refine mV_goto fJ1_canEncode_12 ?_
      subst hr
      exact mV_iret rfl rfl fJ1_canEncode_16 hQ
theorem cJ1_canEncode (X : Nat × (Nat → Int32)) (I : mI) (s : Nat) (x0 : Int32) {res : Int32} (hr : rJ1_canEncode x0 = res) : mC X mJ1_canEncode 0 0 0 [.int x0] NN KK I (PP s) (mRet (some (.int res)) NN KK I (PP s)) :=
  mC_of (L0 := [.int x0]) rfl (Nat.le_of_ble_eq_true rfl) (wJ1_canEncode X I s x0 _ hr (mRet_ok _ _ _ _ _))
def lJ1_indexOfChar_s4_7 (k3 : Int32) (k4 : Int32) : Nat → Int32 → Option ((Int32) ⊕ (Unit))
  | 0, _ => none
  | f + 1, y5 => if (k3 : Int32) ≤ (y5 : Int32) then some (.inr ()) else (mByt 1 y5).bind fun z0 => if (z0 : Int32) = (k4 : Int32) then some (.inl y5) else lJ1_indexOfChar_s4_7 k3 k4 f (y5 + 1)
def rJ1_indexOfChar_s4 (x0 : Int32) (x1 : Int32) (x2 : Int32) : Option (Int32) := (lJ1_indexOfChar_s4_7 x2 ((x0 : Int32).toInt8.toInt32) FU x1).bind fun z0 => match z0 with | .inl rz0 => some rz0 | .inr wz0 => some (-1)
set_option maxHeartbeats 4000000 in
set_option maxRecDepth 100000 in
theorem tJ1_indexOfChar_s4_7 (X : Nat × (Nat → Int32)) (Q : mQ) (s : Nat) (I : mI) (k3 : Int32) (k4 : Int32) : ∀ (f : Nat) (y5 : Int32) (z : (Int32) ⊕ (Unit)), lJ1_indexOfChar_s4_7 k3 k4 f y5 = some z → (∀ res, z = .inl res → Q (some (.int res)) NN KK I (PP s)) → (∀ w, z = .inr w → mV X mJ1_indexOfChar 0 0 0 31 [.retAddr 4, mX0, mX0, .int k3, .int k4, mX0] [] NN KK I (PP s) Q) → mV X mJ1_indexOfChar 0 0 0 7 [.retAddr 4, mX0, mX0, .int k3, .int k4, .int y5] [] NN KK I (PP s) Q := by
  intro f
  induction f with
  | zero => intro y5 z hr hret hk; cases hr
  | succ f ih =>
    intro y5 z hr hret hk
    unfold lJ1_indexOfChar_s4_7 at hr
    refine mV_iload fJ1_indexOfChar_7 rfl ?_
    refine mV_iload fJ1_indexOfChar_9 rfl ?_
    refine mV_icmp_ge fJ1_indexOfChar_10 (fun h0 => ?_) (fun h0 => ?_)
    · rw [if_pos h0] at hr
      have hr := Option.some.inj hr; subst hr
      refine mV_drop (L' := [.retAddr 4, mX0, mX0, .int k3, .int k4, mX0]) (mSub_k (mSub_x (mSub_x (mSub_k (mSub_k (mSub_x mSub_n)))))) ?_
      exact hk _ rfl
    · rw [if_neg h0] at hr
      refine mV_aloadS fJ1_indexOfChar_13 rfl ?_
      refine mV_iload fJ1_indexOfChar_14 rfl ?_
      obtain ⟨z0, hz0, hr⟩ := mBind hr
      refine mV_tb (i := 1) (by decide) fJ1_indexOfChar_16 hz0 ?_
      refine mV_iload fJ1_indexOfChar_17 rfl ?_
      refine mV_icmp_ne fJ1_indexOfChar_19 (fun h1 => ?_) (fun h1 => ?_)
      · rw [if_neg h1] at hr
        refine mV_iinc (y := (y5 + 1)) (L' := [.retAddr 4, mX0, mX0, .int k3, .int k4, .int (y5 + 1)]) fJ1_indexOfChar_25 rfl rfl (by decide) rfl rfl ?_
        refine mV_goto fJ1_indexOfChar_28 ?_
        exact ih (y5 + 1) _ hr hret hk
      · rw [if_pos h1] at hr
        refine mV_iload fJ1_indexOfChar_22 rfl ?_
        have hr := Option.some.inj hr; subst hr; have hQ := hret _ rfl
        exact mV_iret rfl rfl fJ1_indexOfChar_24 hQ
set_option maxHeartbeats 4000000 in
set_option maxRecDepth 100000 in
theorem wJ1_indexOfChar_s4 (X : Nat × (Nat → Int32)) (I : mI) (s : Nat) (x0 : Int32) (x1 : Int32) (x2 : Int32) (Q : mQ) {res : Int32} (hr : rJ1_indexOfChar_s4 x0 x1 x2 = some res) (hQ : Q (some (.int res)) NN KK I (PP s)) : mV X mJ1_indexOfChar 0 0 0 0 [.retAddr 4, .int x0, .int x1, .int x2, mX0, mX0] [] NN KK I (PP s) Q := by
  unfold rJ1_indexOfChar_s4 at hr
  refine mV_iload fJ1_indexOfChar_0 rfl ?_
  refine mV_i2b fJ1_indexOfChar_1 ?_
  refine mV_istore (L' := [.retAddr 4, .int x0, .int x1, .int x2, .int ((x0 : Int32).toInt8.toInt32), mX0]) fJ1_indexOfChar_2 (by decide) rfl rfl ?_
  refine mV_iload fJ1_indexOfChar_4 rfl ?_
  refine mV_istore (L' := [.retAddr 4, .int x0, .int x1, .int x2, .int ((x0 : Int32).toInt8.toInt32), .int x1]) fJ1_indexOfChar_5 (by decide) rfl rfl ?_
  obtain ⟨z0, hz0, hr⟩ := mBind hr
  refine mV_drop (L' := [.retAddr 4, mX0, mX0, .int x2, .int ((x0 : Int32).toInt8.toInt32), .int x1]) (mSub_k (mSub_x (mSub_x (mSub_k (mSub_k (mSub_k mSub_n)))))) ?_
  refine tJ1_indexOfChar_s4_7 X Q s I x2 ((x0 : Int32).toInt8.toInt32) FU x1 _ hz0 (fun res ez0 => ?_) (fun wz0 ez0 => ?_)
  · rw [ez0] at hr; have hr := Option.some.inj hr; subst hr; exact hQ
  rw [ez0] at hr
  dsimp only at hr
  refine mV_push fJ1_indexOfChar_31 ?_
  have hr := Option.some.inj hr; subst hr
  exact mV_iret rfl rfl fJ1_indexOfChar_32 hQ
theorem cJ1_indexOfChar_s4 (X : Nat × (Nat → Int32)) (I : mI) (s : Nat) (x0 : Int32) (x1 : Int32) (x2 : Int32) {res : Int32} (hr : rJ1_indexOfChar_s4 x0 x1 x2 = some res) : mC X mJ1_indexOfChar 0 0 0 [.retAddr 4, .int x0, .int x1, .int x2] NN KK I (PP s) (mRet (some (.int res)) NN KK I (PP s)) :=
  mC_of (L0 := [.retAddr 4, .int x0, .int x1, .int x2, mX0, mX0]) rfl (Nat.le_of_ble_eq_true rfl) (wJ1_indexOfChar_s4 X I s x0 x1 x2 _ hr (mRet_ok _ _ _ _ _))
def rJ1_indexOf_s4 (x0 : Int32) (x1 : Int32) (x2 : Int32) : Option (Int32) := if ((rJ1_canEncode x0) : Int32) = (0 : Int32) then some (-1) else if ((mMax x1 0) : Int32) < ((mMin x2 10) : Int32) then (rJ1_indexOfChar_s4 x0 (mMax x1 0) (mMin x2 10)).bind fun z0 => some z0 else some (-1)
set_option maxHeartbeats 4000000 in
set_option maxRecDepth 100000 in
theorem wJ1_indexOf_s4 (X : Nat × (Nat → Int32)) (I : mI) (s : Nat) (x0 : Int32) (x1 : Int32) (x2 : Int32) (Q : mQ) {res : Int32} (hr : rJ1_indexOf_s4 x0 x1 x2 = some res) (hQ : Q (some (.int res)) NN KK I (PP s)) : mV X mJ1_indexOf 1 0 0 0 [.retAddr 4, .int x0, .int x1, .int x2] [] NN KK I (PP s) Q := by
  unfold rJ1_indexOf_s4 at hr
  refine mV_iload fJ1_indexOf_0 rfl ?_
  refine mV_cS fJ1_indexOf_1 tg_mJ1_canEncode (mC_deep (cJ1_canEncode X I s x0 rfl) (by decide)) rfl rfl (Nat.le_of_ble_eq_true rfl) ?_
  refine mV_if_ne fJ1_indexOf_4 (fun h0 => ?_) (fun h0 => ?_)
  · rw [if_neg h0] at hr
    refine mV_iload fJ1_indexOf_9 rfl ?_
    refine mV_push fJ1_indexOf_10 ?_
    refine mV_maxC fmJ1_indexOf_11 (Nat.le_of_ble_eq_true rfl) ?_
    refine mV_istore (L' := [.retAddr 4, .int x0, .int (mMax x1 0), .int x2]) fJ1_indexOf_14 (by decide) rfl rfl ?_
    refine mV_iload fJ1_indexOf_15 rfl ?_
    refine mV_aloadS fJ1_indexOf_16 rfl ?_
    refine mV_tlen (i := 1) (x := 10) (by decide) (by decide) fJ1_indexOf_17 ?_
    refine mV_minC fmJ1_indexOf_18 (Nat.le_of_ble_eq_true rfl) ?_
    refine mV_istore (L' := [.retAddr 4, .int x0, .int (mMax x1 0), .int (mMin x2 10)]) fJ1_indexOf_21 (by decide) rfl rfl ?_
    refine mV_iload fJ1_indexOf_22 rfl ?_
    refine mV_iload fJ1_indexOf_23 rfl ?_
    refine mV_icmp_lt fJ1_indexOf_24 (fun h1 => ?_) (fun h1 => ?_)
    · rw [if_pos h1] at hr
      refine mV_aloadS fJ1_indexOf_29 rfl ?_
      refine mV_iload fJ1_indexOf_30 rfl ?_
      refine mV_iload fJ1_indexOf_31 rfl ?_
      refine mV_iload fJ1_indexOf_32 rfl ?_
      obtain ⟨z0, hz0, hr⟩ := mBind hr
      refine mV_cS fJ1_indexOf_33 tg_mJ1_indexOfChar (mC_deep (cJ1_indexOfChar_s4 X I s x0 (mMax x1 0) (mMin x2 10) hz0) (by decide)) rfl rfl (Nat.le_of_ble_eq_true rfl) ?_
      have hr := Option.some.inj hr; subst hr
      exact mV_iret rfl rfl fJ1_indexOf_36 hQ
    · rw [if_neg h1] at hr
      refine mV_push fJ1_indexOf_27 ?_
      have hr := Option.some.inj hr; subst hr
      exact mV_iret rfl rfl fJ1_indexOf_28 hQ
  · rw [if_pos h0] at hr
    refine mV_push fJ1_indexOf_7 ?_
    have hr := Option.some.inj hr; subst hr
    exact mV_iret rfl rfl fJ1_indexOf_8 hQ
theorem cJ1_indexOf_s4 (X : Nat × (Nat → Int32)) (I : mI) (s : Nat) (x0 : Int32) (x1 : Int32) (x2 : Int32) {res : Int32} (hr : rJ1_indexOf_s4 x0 x1 x2 = some res) : mC X mJ1_indexOf 1 0 0 [.retAddr 4, .int x0, .int x1, .int x2] NN KK I (PP s) (mRet (some (.int res)) NN KK I (PP s)) :=
  mC_of (L0 := [.retAddr 4, .int x0, .int x1, .int x2]) rfl (Nat.le_of_ble_eq_true rfl) (wJ1_indexOf_s4 X I s x0 x1 x2 _ hr (mRet_ok _ _ _ _ _))
def rJ0_indexOf1_s1 (x0 : Int32) (x1 : Int32) : Option (Int32) := (rJ1_indexOf_s4 x0 x1 (rJ0_length_s1)).bind fun z0 => some z0
set_option maxHeartbeats 4000000 in
set_option maxRecDepth 100000 in
theorem wJ0_indexOf1_s1 (X : Nat × (Nat → Int32)) (I : mI) (s : Nat) (x0 : Int32) (x1 : Int32) (Q : mQ) {res : Int32} (hr : rJ0_indexOf1_s1 x0 x1 = some res) (hQ : Q (some (.int res)) NN KK I (PP s)) : mV X mJ0_indexOf1 2 0 0 0 [.retAddr 1, .int x0, .int x1] [] NN KK I (PP s) Q := by
  unfold rJ0_indexOf1_s1 at hr
  refine mV_aloadS fJ0_indexOf1_0 rfl ?_
  refine mV_cStr (i := 1) (by decide) fJ0_indexOf1_1 tg_mJ0_isLatin1 rfl (mC_deep (cJ0_isLatin1_s1 X I s rfl) (by decide)) rfl rfl (Nat.le_of_ble_eq_true rfl) ?_
  refine mV_as 1 rfl ?_
  refine mV_if_eq fJ0_indexOf1_4 (fun h => absurd h (by decide)) (fun _ => ?_)
  refine mV_aloadS fJ0_indexOf1_7 rfl ?_
  refine mV_gVal (by decide) fJ0_indexOf1_8 ?_
  refine mV_iload fJ0_indexOf1_11 rfl ?_
  refine mV_iload fJ0_indexOf1_12 rfl ?_
  refine mV_aloadS fJ0_indexOf1_13 rfl ?_
  refine mV_cStr (i := 1) (by decide) fJ0_indexOf1_14 tg_mJ0_length rfl (mC_deep (cJ0_length_s1 X I s rfl) (by decide)) rfl rfl (Nat.le_of_ble_eq_true rfl) ?_
  obtain ⟨z0, hz0, hr⟩ := mBind hr
  refine mV_cS fJ0_indexOf1_17 tg_mJ1_indexOf (mC_deep (cJ1_indexOf_s4 X I s x0 x1 (rJ0_length_s1) hz0) (by decide)) rfl rfl (Nat.le_of_ble_eq_true rfl) ?_
  refine mV_goto fJ0_indexOf1_20 ?_
  have hr := Option.some.inj hr; subst hr
  exact mV_iret rfl rfl fJ0_indexOf1_36 hQ
theorem cJ0_indexOf1_s1 (X : Nat × (Nat → Int32)) (I : mI) (s : Nat) (x0 : Int32) (x1 : Int32) {res : Int32} (hr : rJ0_indexOf1_s1 x0 x1 = some res) : mC X mJ0_indexOf1 2 0 0 [.retAddr 1, .int x0, .int x1] NN KK I (PP s) (mRet (some (.int res)) NN KK I (PP s)) :=
  mC_of (L0 := [.retAddr 1, .int x0, .int x1]) rfl (Nat.le_of_ble_eq_true rfl) (wJ0_indexOf1_s1 X I s x0 x1 _ hr (mRet_ok _ _ _ _ _))
def rJ0_indexOf0_s1 (x0 : Int32) : Option (Int32) := (rJ0_indexOf1_s1 x0 0).bind fun z0 => some z0
set_option maxHeartbeats 4000000 in
set_option maxRecDepth 100000 in
theorem wJ0_indexOf0_s1 (X : Nat × (Nat → Int32)) (I : mI) (s : Nat) (x0 : Int32) (Q : mQ) {res : Int32} (hr : rJ0_indexOf0_s1 x0 = some res) (hQ : Q (some (.int res)) NN KK I (PP s)) : mV X mJ0_indexOf0 3 0 0 0 [.retAddr 1, .int x0] [] NN KK I (PP s) Q := by
  unfold rJ0_indexOf0_s1 at hr
  refine mV_aloadS fJ0_indexOf0_0 rfl ?_
  refine mV_iload fJ0_indexOf0_1 rfl ?_
  refine mV_push fJ0_indexOf0_2 ?_
  obtain ⟨z0, hz0, hr⟩ := mBind hr
  refine mV_cStr (i := 1) (by decide) fJ0_indexOf0_3 tg_mJ0_indexOf1 rfl (mC_deep (cJ0_indexOf1_s1 X I s x0 0 hz0) (by decide)) rfl rfl (Nat.le_of_ble_eq_true rfl) ?_
  have hr := Option.some.inj hr; subst hr
  exact mV_iret rfl rfl fJ0_indexOf0_6 hQ
theorem cJ0_indexOf0_s1 (X : Nat × (Nat → Int32)) (I : mI) (s : Nat) (x0 : Int32) {res : Int32} (hr : rJ0_indexOf0_s1 x0 = some res) : mC X mJ0_indexOf0 3 0 0 [.retAddr 1, .int x0] NN KK I (PP s) (mRet (some (.int res)) NN KK I (PP s)) :=
  mC_of (L0 := [.retAddr 1, .int x0]) rfl (Nat.le_of_ble_eq_true rfl) (wJ0_indexOf0_s1 X I s x0 _ hr (mRet_ok _ _ _ _ _))
def l4_splitTape_17 : Nat → Int32 → mI → Option (mI)
  | 0, _, _ => none
  | f + 1, y1, I => if (I 109 1 : Int32) ≤ (y1 : Int32) then some I else (mLd I 110 400 y1).bind fun z0 => (if ((r4_isLetter z0) : Int32) = (0 : Int32) then if ((r4_isDigit z0) : Int32) = (0 : Int32) then if (z0 : Int32) = (32 : Int32) then some ((y1 + 1), I) else if (z0 : Int32) = (10 : Int32) then some ((y1 + 1), I) else (rJ0_indexOf0_s1 (mI2c z0)).bind fun z2 => (if (z2 : Int32) < (0 : Int32) then some 130 else some z0 : Option (Int32)).bind fun z3 => (r4_addToken I z3 0 y1).bind fun z4 => some ((y1 + 1), z4) else (r4_endOfDigits I y1).bind fun z5 => (if (4 : Int32) < ((z5 - y1) : Int32) then some 130 else some 128 : Option (Int32)).bind fun z6 => (r4_valueOf I y1 z5).bind fun z7 => (r4_addToken I z6 z7 y1).bind fun z8 => some (z5, z8) else (r4_endOfLetters I y1).bind fun z9 => (r4_wordKind I y1 z9).bind fun z10 => (r4_addToken I z10 0 y1).bind fun z11 => some (z9, z11) : Option (Int32 × mI)).bind fun z1 => l4_splitTape_17 f (mMax (y1 + 1) z1.1) z1.2
def r4_splitTape (I : mI) : Option (mI) := (l4_splitTape_17 FU 0 (mW (mW (mW I 109 5 0) 109 6 0) 109 7 0)).bind fun z0 => (r4_addToken z0 129 0 (z0 109 1)).bind fun z1 => some z1
set_option maxHeartbeats 4000000 in
set_option maxRecDepth 100000 in
theorem t4_splitTape_17 (X : Nat × (Nat → Int32)) (Q : mQ) (s : Nat) : ∀ (f : Nat) (y1 : Int32) (I : mI) (z : mI), l4_splitTape_17 f y1 I = some z → mV X m4_splitTape 5 0 0 153 [.ref 109, mX0, mX0, mX0] [] NN KK z (PP s) Q → mV X m4_splitTape 5 0 0 17 [.ref 109, .int y1, mX0, mX0] [] NN KK I (PP s) Q := by
  intro f
  induction f with
  | zero => intro y1 I z hr hk; cases hr
  | succ f ih =>
    intro y1 I z hr hk
    unfold l4_splitTape_17 at hr
    refine mV_iload f4_splitTape_17 rfl ?_
    refine mV_aload f4_splitTape_18 rfl ?_
    refine mV_gI (I 109 1) f4_splitTape_19 (by decide) kk_109 rfl rfl ?_
    refine mV_icmp_ge f4_splitTape_22 (fun h0 => ?_) (fun h0 => ?_)
    · rw [if_pos h0] at hr
      have hr := Option.some.inj hr; subst hr
      refine mV_drop (L' := [.ref 109, mX0, mX0, mX0]) (mSub_k (mSub_x (mSub_x (mSub_x mSub_n)))) ?_
      exact hk
    · rw [if_neg h0] at hr
      refine mV_iload f4_splitTape_25 rfl ?_
      refine mV_push f4_splitTape_26 ?_
      refine mV_iadd f4_splitTape_27 ?_
      refine mV_istore (L' := [.ref 109, .int y1, .int (y1 + 1), mX0]) f4_splitTape_28 (by decide) rfl rfl ?_
      refine mV_aload f4_splitTape_29 rfl ?_
      refine mV_getP f4_splitTape_30 (by decide) kk_109 rfl (pp_109_0 _) ?_
      refine mV_iload f4_splitTape_33 rfl ?_
      obtain ⟨z0, hz0, hr⟩ := mBind hr
      refine mV_ldO f4_splitTape_34 (by decide) kk_110 hz0 ?_
      refine mV_istore (L' := [.ref 109, .int y1, .int (y1 + 1), .int z0]) f4_splitTape_35 (by decide) rfl rfl ?_
      refine mV_iload f4_splitTape_36 rfl ?_
      refine mV_cS f4_splitTape_37 tg_m4_isLetter (mC_deep (c4_isLetter X I s z0 rfl) (by decide)) rfl rfl (Nat.le_of_ble_eq_true rfl) ?_
      obtain ⟨z1, hz1, hr⟩ := mBind hr
      have keyz1 : mV X m4_splitTape 5 0 0 142 [.ref 109, .int y1, .int z1.1, mX0] [] NN KK z1.2 (PP s) Q := by
        refine mV_iload f4_splitTape_142 rfl ?_
        refine mV_push f4_splitTape_143 ?_
        refine mV_iadd f4_splitTape_144 ?_
        refine mV_iload f4_splitTape_145 rfl ?_
        refine mV_maxC fm4_splitTape_146 (Nat.le_of_ble_eq_true rfl) ?_
        refine mV_istore (L' := [.ref 109, .int (mMax (y1 + 1) z1.1), .int z1.1, mX0]) f4_splitTape_149 (by decide) rfl rfl ?_
        refine mV_goto f4_splitTape_150 ?_
        refine mV_drop (L' := [.ref 109, .int (mMax (y1 + 1) z1.1), mX0, mX0]) (mSub_k (mSub_k (mSub_x (mSub_x mSub_n)))) ?_
        exact ih (mMax (y1 + 1) z1.1) z1.2 _ hr hk
      clear hr
      have hr := hz1
      clear hz1
      refine mV_if_eq f4_splitTape_40 (fun h1 => ?_) (fun h1 => ?_)
      · rw [if_pos h1] at hr
        refine mV_iload f4_splitTape_64 rfl ?_
        refine mV_cS f4_splitTape_65 tg_m4_isDigit (mC_deep (c4_isDigit X I s z0 rfl) (by decide)) rfl rfl (Nat.le_of_ble_eq_true rfl) ?_
        refine mV_if_eq f4_splitTape_68 (fun h2 => ?_) (fun h2 => ?_)
        · rw [if_pos h2] at hr
          refine mV_iload f4_splitTape_107 rfl ?_
          refine mV_push f4_splitTape_108 ?_
          refine mV_icmp_eq f4_splitTape_110 (fun h3 => ?_) (fun h3 => ?_)
          · rw [if_pos h3] at hr
            have hr := Option.some.inj hr; subst hr
            refine mV_drop (L' := [.ref 109, .int y1, .int (y1 + 1), mX0]) (mSub_k (mSub_k (mSub_k (mSub_x mSub_n)))) ?_
            exact keyz1
          · rw [if_neg h3] at hr
            refine mV_iload f4_splitTape_113 rfl ?_
            refine mV_push f4_splitTape_114 ?_
            refine mV_icmp_eq f4_splitTape_116 (fun h4 => ?_) (fun h4 => ?_)
            · rw [if_pos h4] at hr
              have hr := Option.some.inj hr; subst hr
              refine mV_drop (L' := [.ref 109, .int y1, .int (y1 + 1), mX0]) (mSub_k (mSub_k (mSub_k (mSub_x mSub_n)))) ?_
              exact keyz1
            · rw [if_neg h4] at hr
              refine mV_aload f4_splitTape_119 rfl ?_
              refine mV_ldcS1 f4_splitTape_120 rfl ?_
              refine mV_iload f4_splitTape_122 rfl ?_
              refine mV_i2cC f4_splitTape_123 ?_
              obtain ⟨z2, hz2, hr⟩ := mBind hr
              refine mV_cStr (i := 1) (by decide) f4_splitTape_124 tg_mJ0_indexOf0 rfl (mC_deep (cJ0_indexOf0_s1 X I s (mI2c z0) hz2) (by decide)) rfl rfl (Nat.le_of_ble_eq_true rfl) ?_
              obtain ⟨z3, hz3, hr⟩ := mBind hr
              have keyz3 : mV X m4_splitTape 5 0 0 137 [.ref 109, .int y1, .int (y1 + 1), mX0] [.int z3, .ref 109] NN KK I (PP s) Q := by
                refine mV_push f4_splitTape_137 ?_
                refine mV_iload f4_splitTape_138 rfl ?_
                obtain ⟨z4, hz4, hr⟩ := mBind hr
                refine mV_cV f4_splitTape_139 tg_m4_addToken mCls4 (by decide) kk_109 (mC_deep (c4_addToken X I s z3 0 y1 hz4) (by decide)) rfl rfl (Nat.le_of_ble_eq_true rfl) ?_
                have hr := Option.some.inj hr; subst hr
                exact keyz1
              clear hr
              have hr := hz3
              clear hz3
              refine mV_if_lt f4_splitTape_127 (fun h5 => ?_) (fun h5 => ?_)
              · rw [if_pos h5] at hr
                refine mV_push f4_splitTape_134 ?_
                have hr := Option.some.inj hr; subst hr
                refine mV_drop (L' := [.ref 109, .int y1, .int (y1 + 1), mX0]) (mSub_k (mSub_k (mSub_k (mSub_x mSub_n)))) ?_
                exact keyz3
              · rw [if_neg h5] at hr
                refine mV_iload f4_splitTape_130 rfl ?_
                refine mV_goto f4_splitTape_131 ?_
                have hr := Option.some.inj hr; subst hr
                refine mV_drop (L' := [.ref 109, .int y1, .int (y1 + 1), mX0]) (mSub_k (mSub_k (mSub_k (mSub_x mSub_n)))) ?_
                exact keyz3
        · rw [if_neg h2] at hr
          refine mV_aload f4_splitTape_71 rfl ?_
          refine mV_iload f4_splitTape_72 rfl ?_
          obtain ⟨z5, hz5, hr⟩ := mBind hr
          refine mV_cV f4_splitTape_73 tg_m4_endOfDigits mCls4 (by decide) kk_109 (mC_deep (c4_endOfDigits X I s y1 hz5) (by decide)) rfl rfl (Nat.le_of_ble_eq_true rfl) ?_
          refine mV_istore (L' := [.ref 109, .int y1, .int z5, .int z0]) f4_splitTape_76 (by decide) rfl rfl ?_
          refine mV_aload f4_splitTape_77 rfl ?_
          refine mV_iload f4_splitTape_78 rfl ?_
          refine mV_iload f4_splitTape_79 rfl ?_
          refine mV_isub f4_splitTape_80 ?_
          refine mV_push f4_splitTape_81 ?_
          obtain ⟨z6, hz6, hr⟩ := mBind hr
          have keyz6 : mV X m4_splitTape 5 0 0 94 [.ref 109, .int y1, .int z5, mX0] [.int z6, .ref 109] NN KK I (PP s) Q := by
            refine mV_aload f4_splitTape_94 rfl ?_
            refine mV_iload f4_splitTape_95 rfl ?_
            refine mV_iload f4_splitTape_96 rfl ?_
            obtain ⟨z7, hz7, hr⟩ := mBind hr
            refine mV_cV f4_splitTape_97 tg_m4_valueOf mCls4 (by decide) kk_109 (mC_deep (c4_valueOf X I s y1 z5 hz7) (by decide)) rfl rfl (Nat.le_of_ble_eq_true rfl) ?_
            refine mV_iload f4_splitTape_100 rfl ?_
            obtain ⟨z8, hz8, hr⟩ := mBind hr
            refine mV_cV f4_splitTape_101 tg_m4_addToken mCls4 (by decide) kk_109 (mC_deep (c4_addToken X I s z6 z7 y1 hz8) (by decide)) rfl rfl (Nat.le_of_ble_eq_true rfl) ?_
            refine mV_goto f4_splitTape_104 ?_
            have hr := Option.some.inj hr; subst hr
            exact keyz1
          clear hr
          have hr := hz6
          clear hz6
          refine mV_icmp_gt f4_splitTape_82 (fun h6 => ?_) (fun h6 => ?_)
          · rw [if_pos h6] at hr
            refine mV_push f4_splitTape_91 ?_
            have hr := Option.some.inj hr; subst hr
            refine mV_drop (L' := [.ref 109, .int y1, .int z5, mX0]) (mSub_k (mSub_k (mSub_k (mSub_x mSub_n)))) ?_
            exact keyz6
          · rw [if_neg h6] at hr
            refine mV_push f4_splitTape_85 ?_
            refine mV_goto f4_splitTape_88 ?_
            have hr := Option.some.inj hr; subst hr
            refine mV_drop (L' := [.ref 109, .int y1, .int z5, mX0]) (mSub_k (mSub_k (mSub_k (mSub_x mSub_n)))) ?_
            exact keyz6
      · rw [if_neg h1] at hr
        refine mV_aload f4_splitTape_43 rfl ?_
        refine mV_iload f4_splitTape_44 rfl ?_
        obtain ⟨z9, hz9, hr⟩ := mBind hr
        refine mV_cV f4_splitTape_45 tg_m4_endOfLetters mCls4 (by decide) kk_109 (mC_deep (c4_endOfLetters X I s y1 hz9) (by decide)) rfl rfl (Nat.le_of_ble_eq_true rfl) ?_
        refine mV_istore (L' := [.ref 109, .int y1, .int z9, .int z0]) f4_splitTape_48 (by decide) rfl rfl ?_
        refine mV_aload f4_splitTape_49 rfl ?_
        refine mV_aload f4_splitTape_50 rfl ?_
        refine mV_iload f4_splitTape_51 rfl ?_
        refine mV_iload f4_splitTape_52 rfl ?_
        obtain ⟨z10, hz10, hr⟩ := mBind hr
        refine mV_cV f4_splitTape_53 tg_m4_wordKind mCls4 (by decide) kk_109 (mC_deep (c4_wordKind X I s y1 z9 hz10) (by decide)) rfl rfl (Nat.le_of_ble_eq_true rfl) ?_
        refine mV_push f4_splitTape_56 ?_
        refine mV_iload f4_splitTape_57 rfl ?_
        obtain ⟨z11, hz11, hr⟩ := mBind hr
        refine mV_cV f4_splitTape_58 tg_m4_addToken mCls4 (by decide) kk_109 (mC_deep (c4_addToken X I s z10 0 y1 hz11) (by decide)) rfl rfl (Nat.le_of_ble_eq_true rfl) ?_
        refine mV_goto f4_splitTape_61 ?_
        have hr := Option.some.inj hr; subst hr
        refine mV_drop (L' := [.ref 109, .int y1, .int z9, mX0]) (mSub_k (mSub_k (mSub_k (mSub_x mSub_n)))) ?_
        exact keyz1
set_option maxHeartbeats 4000000 in
set_option maxRecDepth 100000 in
theorem w4_splitTape (X : Nat × (Nat → Int32)) (I : mI) (s : Nat) (Q : mQ) {res : mI} (hr : r4_splitTape I = some res) (hQ : Q none NN KK res (PP s)) : mV X m4_splitTape 5 0 0 0 [.ref 109, mX0, mX0, mX0] [] NN KK I (PP s) Q := by
  unfold r4_splitTape at hr
  refine mV_aload f4_splitTape_0 rfl ?_
  refine mV_push f4_splitTape_1 ?_
  refine mV_putI f4_splitTape_2 (by decide) kk_109 rfl rfl ?_
  refine mV_aload f4_splitTape_5 rfl ?_
  refine mV_push f4_splitTape_6 ?_
  refine mV_putI f4_splitTape_7 (by decide) kk_109 rfl rfl ?_
  refine mV_aload f4_splitTape_10 rfl ?_
  refine mV_push f4_splitTape_11 ?_
  refine mV_putI f4_splitTape_12 (by decide) kk_109 rfl rfl ?_
  refine mV_push f4_splitTape_15 ?_
  refine mV_istore (L' := [.ref 109, .int 0, mX0, mX0]) f4_splitTape_16 (by decide) rfl rfl ?_
  obtain ⟨z0, hz0, hr⟩ := mBind hr
  refine t4_splitTape_17 X Q s FU 0 (mW (mW (mW I 109 5 0) 109 6 0) 109 7 0) _ hz0 ?_
  refine mV_aload f4_splitTape_153 rfl ?_
  refine mV_push f4_splitTape_154 ?_
  refine mV_push f4_splitTape_157 ?_
  refine mV_aload f4_splitTape_158 rfl ?_
  refine mV_gI (z0 109 1) f4_splitTape_159 (by decide) kk_109 rfl rfl ?_
  obtain ⟨z1, hz1, hr⟩ := mBind hr
  refine mV_cV f4_splitTape_162 tg_m4_addToken mCls4 (by decide) kk_109 (mC_deep (c4_addToken X z0 s 129 0 (z0 109 1) hz1) (by decide)) rfl rfl (Nat.le_of_ble_eq_true rfl) ?_
  have hr := Option.some.inj hr; subst hr
  exact mV_vret rfl f4_splitTape_165 hQ
theorem c4_splitTape (X : Nat × (Nat → Int32)) (I : mI) (s : Nat) {res : mI} (hr : r4_splitTape I = some res) : mC X m4_splitTape 5 0 0 [.ref 109] NN KK I (PP s) (mRet none NN KK res (PP s)) :=
  mC_of (L0 := [.ref 109, mX0, mX0, mX0]) rfl (Nat.le_of_ble_eq_true rfl) (w4_splitTape X I s _ hr (mRet_ok _ _ _ _ _))
def r4_kind (I : mI) : Option (Int32) := (mLd I 111 401 (I 109 6)).bind fun z0 => some z0
set_option maxHeartbeats 4000000 in
set_option maxRecDepth 100000 in
theorem w4_kind (X : Nat × (Nat → Int32)) (I : mI) (s : Nat) (Q : mQ) {res : Int32} (hr : r4_kind I = some res) (hQ : Q (some (.int res)) NN KK I (PP s)) : mV X m4_kind 0 0 0 0 [.ref 109] [] NN KK I (PP s) Q := by
  unfold r4_kind at hr
  refine mV_aload f4_kind_0 rfl ?_
  refine mV_getP f4_kind_1 (by decide) kk_109 rfl (pp_109_2 _) ?_
  refine mV_aload f4_kind_4 rfl ?_
  refine mV_gI (I 109 6) f4_kind_5 (by decide) kk_109 rfl rfl ?_
  obtain ⟨z0, hz0, hr⟩ := mBind hr
  refine mV_ldO f4_kind_8 (by decide) kk_111 hz0 ?_
  have hr := Option.some.inj hr; subst hr
  exact mV_iret rfl rfl f4_kind_9 hQ
theorem c4_kind (X : Nat × (Nat → Int32)) (I : mI) (s : Nat) {res : Int32} (hr : r4_kind I = some res) : mC X m4_kind 0 0 0 [.ref 109] NN KK I (PP s) (mRet (some (.int res)) NN KK I (PP s)) :=
  mC_of (L0 := [.ref 109]) rfl (Nat.le_of_ble_eq_true rfl) (w4_kind X I s _ hr (mRet_ok _ _ _ _ _))
def r4_blame (I : mI) (x0 : Int32) : Option (Int32 × mI) := (mLd (mW I 109 11 x0) 113 401 (I 109 6)).bind fun z0 => some (0, (mW (mW I 109 11 x0) 109 12 z0))
set_option maxHeartbeats 4000000 in
set_option maxRecDepth 100000 in
theorem w4_blame (X : Nat × (Nat → Int32)) (I : mI) (s : Nat) (x0 : Int32) (Q : mQ) {res : Int32 × mI} (hr : r4_blame I x0 = some res) (hQ : Q (some (.int res.1)) NN KK res.2 (PP s)) : mV X m4_blame 0 0 0 0 [.ref 109, .int x0] [] NN KK I (PP s) Q := by
  unfold r4_blame at hr
  refine mV_aload f4_blame_0 rfl ?_
  refine mV_iload f4_blame_1 rfl ?_
  refine mV_putI f4_blame_2 (by decide) kk_109 rfl rfl ?_
  refine mV_aload f4_blame_5 rfl ?_
  refine mV_aload f4_blame_6 rfl ?_
  refine mV_getP f4_blame_7 (by decide) kk_109 rfl (pp_109_4 _) ?_
  refine mV_aload f4_blame_10 rfl ?_
  refine mV_gI (I 109 6) f4_blame_11 (by decide) kk_109 rfl rfl ?_
  obtain ⟨z0, hz0, hr⟩ := mBind hr
  refine mV_ldO f4_blame_14 (by decide) kk_113 hz0 ?_
  refine mV_putI f4_blame_15 (by decide) kk_109 rfl rfl ?_
  refine mV_push f4_blame_18 ?_
  have hr := Option.some.inj hr; subst hr
  exact mV_iret rfl rfl f4_blame_19 hQ
theorem c4_blame (X : Nat × (Nat → Int32)) (I : mI) (s : Nat) (x0 : Int32) {res : Int32 × mI} (hr : r4_blame I x0 = some res) : mC X m4_blame 0 0 0 [.ref 109, .int x0] NN KK I (PP s) (mRet (some (.int res.1)) NN KK res.2 (PP s)) :=
  mC_of (L0 := [.ref 109, .int x0]) rfl (Nat.le_of_ble_eq_true rfl) (w4_blame X I s x0 _ hr (mRet_ok _ _ _ _ _))
def r4_mayBegin (I : mI) (x0 : Int32) : Option (Int32 × mI) := (r4_kind I).bind fun z0 => (if (x0 : Int32) = (0 : Int32) then if (2 : Int32) < (z0 : Int32) then some 0 else some 1 else if (x0 : Int32) = (3 : Int32) then if (z0 : Int32) = (21 : Int32) then some 1 else some 0 else if (z0 : Int32) = (19 : Int32) then some 1 else some 0 : Option (Int32)).bind fun z1 => if (z1 : Int32) = (0 : Int32) then (r4_blame I 1).bind fun z4 => some ((z4.1 &&& 1), z4.2) else (if (I 114 2 : Int32) < (16 : Int32) then some (1, I) else (r4_blame I 3).bind fun z3 => if (z3.1 : Int32) = (0 : Int32) then some (0, z3.2) else some (1, z3.2) : Option (Int32 × mI)).bind fun z2 => some ((z2.1 &&& 1), z2.2)
set_option maxHeartbeats 4000000 in
set_option maxRecDepth 100000 in
theorem w4_mayBegin (X : Nat × (Nat → Int32)) (I : mI) (s : Nat) (x0 : Int32) (Q : mQ) {res : Int32 × mI} (hr : r4_mayBegin I x0 = some res) (hQ : Q (some (.int res.1)) NN KK res.2 (PP s)) : mV X m4_mayBegin 1 0 0 0 [.ref 109, .int x0, mX0, mX0] [] NN KK I (PP s) Q := by
  unfold r4_mayBegin at hr
  refine mV_aload f4_mayBegin_0 rfl ?_
  obtain ⟨z0, hz0, hr⟩ := mBind hr
  refine mV_cV f4_mayBegin_1 tg_m4_kind mCls4 (by decide) kk_109 (mC_deep (c4_kind X I s hz0) (by decide)) rfl rfl (Nat.le_of_ble_eq_true rfl) ?_
  refine mV_istore (L' := [.ref 109, .int x0, .int z0, mX0]) f4_mayBegin_4 (by decide) rfl rfl ?_
  refine mV_iload f4_mayBegin_5 rfl ?_
  obtain ⟨z1, hz1, hr⟩ := mBind hr
  have keyz1 : mV X m4_mayBegin 1 0 0 52 [.ref 109, mX0, mX0, mX0] [.int z1] NN KK I (PP s) Q := by
    refine mV_istore (L' := [.ref 109, mX0, mX0, .int z1]) f4_mayBegin_52 (by decide) rfl rfl ?_
    refine mV_iload f4_mayBegin_53 rfl ?_
    refine mV_if_ne f4_mayBegin_54 (fun h5 => ?_) (fun h5 => ?_)
    · rw [if_neg h5] at hr
      refine mV_aload f4_mayBegin_63 rfl ?_
      refine mV_getP f4_mayBegin_64 (by decide) kk_109 rfl (pp_109_10 _) ?_
      refine mV_gI (I 114 2) f4_mayBegin_67 (by decide) kk_114 rfl rfl ?_
      refine mV_push f4_mayBegin_70 ?_
      obtain ⟨z2, hz2, hr⟩ := mBind hr
      have keyz2 : mV X m4_mayBegin 1 0 0 88 [.ref 109, mX0, mX0, mX0] [.int z2.1] NN KK z2.2 (PP s) Q := by
        have hr := Option.some.inj hr; subst hr
        exact mV_zret rfl f4_mayBegin_88 hQ
      clear hr
      have hr := hz2
      clear hz2
      refine mV_icmp_lt f4_mayBegin_72 (fun h6 => ?_) (fun h6 => ?_)
      · rw [if_pos h6] at hr
        refine mV_push f4_mayBegin_83 ?_
        refine mV_goto f4_mayBegin_84 ?_
        have hr := Option.some.inj hr; subst hr
        refine mV_drop (L' := [.ref 109, mX0, mX0, mX0]) (mSub_k (mSub_x (mSub_x (mSub_x mSub_n)))) ?_
        exact keyz2
      · rw [if_neg h6] at hr
        refine mV_aload f4_mayBegin_75 rfl ?_
        refine mV_push f4_mayBegin_76 ?_
        obtain ⟨z3, hz3, hr⟩ := mBind hr
        refine mV_cV f4_mayBegin_77 tg_m4_blame mCls4 (by decide) kk_109 (mC_deep (c4_blame X I s 3 hz3) (by decide)) rfl rfl (Nat.le_of_ble_eq_true rfl) ?_
        refine mV_if_eq f4_mayBegin_80 (fun h7 => ?_) (fun h7 => ?_)
        · rw [if_pos h7] at hr
          refine mV_push f4_mayBegin_87 ?_
          have hr := Option.some.inj hr; subst hr
          refine mV_drop (L' := [.ref 109, mX0, mX0, mX0]) (mSub_k (mSub_x (mSub_x (mSub_x mSub_n)))) ?_
          exact keyz2
        · rw [if_neg h7] at hr
          refine mV_push f4_mayBegin_83 ?_
          refine mV_goto f4_mayBegin_84 ?_
          have hr := Option.some.inj hr; subst hr
          refine mV_drop (L' := [.ref 109, mX0, mX0, mX0]) (mSub_k (mSub_x (mSub_x (mSub_x mSub_n)))) ?_
          exact keyz2
    · rw [if_pos h5] at hr
      refine mV_aload f4_mayBegin_57 rfl ?_
      refine mV_push f4_mayBegin_58 ?_
      obtain ⟨z4, hz4, hr⟩ := mBind hr
      refine mV_cV f4_mayBegin_59 tg_m4_blame mCls4 (by decide) kk_109 (mC_deep (c4_blame X I s 1 hz4) (by decide)) rfl rfl (Nat.le_of_ble_eq_true rfl) ?_
      have hr := Option.some.inj hr; subst hr
      exact mV_zret rfl f4_mayBegin_62 hQ
  clear hr
  have hr := hz1
  clear hz1
  refine mV_if_ne f4_mayBegin_6 (fun h0 => ?_) (fun h0 => ?_)
  · rw [if_neg h0] at hr
    refine mV_iload f4_mayBegin_22 rfl ?_
    refine mV_push f4_mayBegin_23 ?_
    refine mV_icmp_ne f4_mayBegin_24 (fun h1 => ?_) (fun h1 => ?_)
    · rw [if_neg h1] at hr
      refine mV_iload f4_mayBegin_41 rfl ?_
      refine mV_push f4_mayBegin_42 ?_
      refine mV_icmp_ne f4_mayBegin_44 (fun h2 => ?_) (fun h2 => ?_)
      · rw [if_neg h2] at hr
        refine mV_push f4_mayBegin_51 ?_
        have hr := Option.some.inj hr; subst hr
        refine mV_drop (L' := [.ref 109, mX0, mX0, mX0]) (mSub_k (mSub_x (mSub_x (mSub_x mSub_n)))) ?_
        exact keyz1
      · rw [if_pos h2] at hr
        refine mV_push f4_mayBegin_47 ?_
        refine mV_goto f4_mayBegin_48 ?_
        have hr := Option.some.inj hr; subst hr
        refine mV_drop (L' := [.ref 109, mX0, mX0, mX0]) (mSub_k (mSub_x (mSub_x (mSub_x mSub_n)))) ?_
        exact keyz1
    · rw [if_pos h1] at hr
      refine mV_iload f4_mayBegin_27 rfl ?_
      refine mV_push f4_mayBegin_28 ?_
      refine mV_icmp_ne f4_mayBegin_30 (fun h3 => ?_) (fun h3 => ?_)
      · rw [if_neg h3] at hr
        refine mV_push f4_mayBegin_37 ?_
        refine mV_goto f4_mayBegin_38 ?_
        have hr := Option.some.inj hr; subst hr
        refine mV_drop (L' := [.ref 109, mX0, mX0, mX0]) (mSub_k (mSub_x (mSub_x (mSub_x mSub_n)))) ?_
        exact keyz1
      · rw [if_pos h3] at hr
        refine mV_push f4_mayBegin_33 ?_
        refine mV_goto f4_mayBegin_34 ?_
        have hr := Option.some.inj hr; subst hr
        refine mV_drop (L' := [.ref 109, mX0, mX0, mX0]) (mSub_k (mSub_x (mSub_x (mSub_x mSub_n)))) ?_
        exact keyz1
  · rw [if_pos h0] at hr
    refine mV_iload f4_mayBegin_9 rfl ?_
    refine mV_push f4_mayBegin_10 ?_
    refine mV_icmp_gt f4_mayBegin_11 (fun h4 => ?_) (fun h4 => ?_)
    · rw [if_pos h4] at hr
      refine mV_push f4_mayBegin_18 ?_
      refine mV_goto f4_mayBegin_19 ?_
      have hr := Option.some.inj hr; subst hr
      refine mV_drop (L' := [.ref 109, mX0, mX0, mX0]) (mSub_k (mSub_x (mSub_x (mSub_x mSub_n)))) ?_
      exact keyz1
    · rw [if_neg h4] at hr
      refine mV_push f4_mayBegin_14 ?_
      refine mV_goto f4_mayBegin_15 ?_
      have hr := Option.some.inj hr; subst hr
      refine mV_drop (L' := [.ref 109, mX0, mX0, mX0]) (mSub_k (mSub_x (mSub_x (mSub_x mSub_n)))) ?_
      exact keyz1
theorem c4_mayBegin (X : Nat × (Nat → Int32)) (I : mI) (s : Nat) (x0 : Int32) {res : Int32 × mI} (hr : r4_mayBegin I x0 = some res) : mC X m4_mayBegin 1 0 0 [.ref 109, .int x0] NN KK I (PP s) (mRet (some (.int res.1)) NN KK res.2 (PP s)) :=
  mC_of (L0 := [.ref 109, .int x0, mX0, mX0]) rfl (Nat.le_of_ble_eq_true rfl) (w4_mayBegin X I s x0 _ hr (mRet_ok _ _ _ _ _))
def r4_step (I : mI) : Option (mI) := (if ((I 109 5 - 1) : Int32) ≤ (I 109 6 : Int32) then some I else some (mW I 109 6 (I 109 6 + 1)) : Option (mI)).bind fun z0 => some z0
set_option maxHeartbeats 4000000 in
set_option maxRecDepth 100000 in
theorem w4_step (X : Nat × (Nat → Int32)) (I : mI) (s : Nat) (Q : mQ) {res : mI} (hr : r4_step I = some res) (hQ : Q none NN KK res (PP s)) : mV X m4_step 0 0 0 0 [.ref 109] [] NN KK I (PP s) Q := by
  unfold r4_step at hr
  refine mV_aload f4_step_0 rfl ?_
  refine mV_gI (I 109 6) f4_step_1 (by decide) kk_109 rfl rfl ?_
  refine mV_aload f4_step_4 rfl ?_
  refine mV_gI (I 109 5) f4_step_5 (by decide) kk_109 rfl rfl ?_
  refine mV_push f4_step_8 ?_
  refine mV_isub f4_step_9 ?_
  obtain ⟨z0, hz0, hr⟩ := mBind hr
  have keyz0 : mV X m4_step 0 0 0 23 [.ref 109] [] NN KK z0 (PP s) Q := by
    have hr := Option.some.inj hr; subst hr
    exact mV_vret rfl f4_step_23 hQ
  clear hr
  have hr := hz0
  clear hz0
  refine mV_icmp_ge f4_step_10 (fun h0 => ?_) (fun h0 => ?_)
  · rw [if_pos h0] at hr
    have hr := Option.some.inj hr; subst hr
    exact keyz0
  · rw [if_neg h0] at hr
    refine mV_aload f4_step_13 rfl ?_
    refine mV_dup f4_step_14 rfl ?_
    refine mV_gI (I 109 6) f4_step_15 (by decide) kk_109 rfl rfl ?_
    refine mV_push f4_step_18 ?_
    refine mV_iadd f4_step_19 ?_
    refine mV_putI f4_step_20 (by decide) kk_109 rfl rfl ?_
    have hr := Option.some.inj hr; subst hr
    exact keyz0
theorem c4_step (X : Nat × (Nat → Int32)) (I : mI) (s : Nat) {res : mI} (hr : r4_step I = some res) : mC X m4_step 0 0 0 [.ref 109] NN KK I (PP s) (mRet none NN KK res (PP s)) :=
  mC_of (L0 := [.ref 109]) rfl (Nat.le_of_ble_eq_true rfl) (w4_step X I s _ hr (mRet_ok _ _ _ _ _))
def r4_pass (I : mI) (x0 : Int32) : Option (Int32 × mI) := (r4_kind I).bind fun z0 => if (z0 : Int32) = (x0 : Int32) then (r4_step I).bind fun z1 => some (1, z1) else (r4_blame I 1).bind fun z2 => some ((z2.1 &&& 1), z2.2)
set_option maxHeartbeats 4000000 in
set_option maxRecDepth 100000 in
theorem w4_pass (X : Nat × (Nat → Int32)) (I : mI) (s : Nat) (x0 : Int32) (Q : mQ) {res : Int32 × mI} (hr : r4_pass I x0 = some res) (hQ : Q (some (.int res.1)) NN KK res.2 (PP s)) : mV X m4_pass 1 0 0 0 [.ref 109, .int x0] [] NN KK I (PP s) Q := by
  unfold r4_pass at hr
  refine mV_aload f4_pass_0 rfl ?_
  obtain ⟨z0, hz0, hr⟩ := mBind hr
  refine mV_cV f4_pass_1 tg_m4_kind mCls4 (by decide) kk_109 (mC_deep (c4_kind X I s hz0) (by decide)) rfl rfl (Nat.le_of_ble_eq_true rfl) ?_
  refine mV_iload f4_pass_4 rfl ?_
  refine mV_icmp_eq f4_pass_5 (fun h0 => ?_) (fun h0 => ?_)
  · rw [if_pos h0] at hr
    refine mV_aload f4_pass_14 rfl ?_
    obtain ⟨z1, hz1, hr⟩ := mBind hr
    refine mV_cV f4_pass_15 tg_m4_step mCls4 (by decide) kk_109 (mC_deep (c4_step X I s hz1) (by decide)) rfl rfl (Nat.le_of_ble_eq_true rfl) ?_
    refine mV_push f4_pass_18 ?_
    have hr := Option.some.inj hr; subst hr
    exact mV_iret rfl rfl f4_pass_19 hQ
  · rw [if_neg h0] at hr
    refine mV_aload f4_pass_8 rfl ?_
    refine mV_push f4_pass_9 ?_
    obtain ⟨z2, hz2, hr⟩ := mBind hr
    refine mV_cV f4_pass_10 tg_m4_blame mCls4 (by decide) kk_109 (mC_deep (c4_blame X I s 1 hz2) (by decide)) rfl rfl (Nat.le_of_ble_eq_true rfl) ?_
    have hr := Option.some.inj hr; subst hr
    exact mV_zret rfl f4_pass_13 hQ
theorem c4_pass (X : Nat × (Nat → Int32)) (I : mI) (s : Nat) (x0 : Int32) {res : Int32 × mI} (hr : r4_pass I x0 = some res) : mC X m4_pass 1 0 0 [.ref 109, .int x0] NN KK I (PP s) (mRet (some (.int res.1)) NN KK res.2 (PP s)) :=
  mC_of (L0 := [.ref 109, .int x0]) rfl (Nat.le_of_ble_eq_true rfl) (w4_pass X I s x0 _ hr (mRet_ok _ _ _ _ _))
def r6_write_114 (I : mI) (x0 : Int32) (x1 : Int32) : Option (mI) := (if (((I 114 2 * 9) + x0) : Int32) < (0 : Int32) then some I else if (144 : Int32) ≤ (((I 114 2 * 9) + x0) : Int32) then some I else (mSto I 115 144 ((I 114 2 * 9) + x0) x1).bind fun z1 => some z1 : Option (mI)).bind fun z0 => some z0
set_option maxHeartbeats 4000000 in
set_option maxRecDepth 100000 in
theorem w6_write_114 (X : Nat × (Nat → Int32)) (I : mI) (s : Nat) (x0 : Int32) (x1 : Int32) (Q : mQ) {res : mI} (hr : r6_write_114 I x0 x1 = some res) (hQ : Q none NN KK res (PP s)) : mV X m6_write 0 0 0 0 [.ref 114, .int x0, .int x1, mX0] [] NN KK I (PP s) Q := by
  unfold r6_write_114 at hr
  refine mV_aload f6_write_0 rfl ?_
  refine mV_gI (I 114 2) f6_write_1 (by decide) kk_114 rfl rfl ?_
  refine mV_push f6_write_4 ?_
  refine mV_imul f6_write_6 ?_
  refine mV_iload f6_write_7 rfl ?_
  refine mV_iadd f6_write_8 ?_
  refine mV_istore (L' := [.ref 114, .int x0, .int x1, .int ((I 114 2 * 9) + x0)]) f6_write_9 (by decide) rfl rfl ?_
  refine mV_iload f6_write_10 rfl ?_
  obtain ⟨z0, hz0, hr⟩ := mBind hr
  have keyz0 : mV X m6_write 0 0 0 30 [.ref 114, mX0, mX0, mX0] [] NN KK z0 (PP s) Q := by
    have hr := Option.some.inj hr; subst hr
    exact mV_vret rfl f6_write_30 hQ
  clear hr
  have hr := hz0
  clear hz0
  refine mV_if_lt f6_write_11 (fun h0 => ?_) (fun h0 => ?_)
  · rw [if_pos h0] at hr
    have hr := Option.some.inj hr; subst hr
    refine mV_drop (L' := [.ref 114, mX0, mX0, mX0]) (mSub_k (mSub_x (mSub_x (mSub_x mSub_n)))) ?_
    exact keyz0
  · rw [if_neg h0] at hr
    refine mV_iload f6_write_14 rfl ?_
    refine mV_aload f6_write_15 rfl ?_
    refine mV_getP f6_write_16 (by decide) kk_114 rfl (pp_114_0 _) ?_
    refine mV_alen f6_write_19 (by decide) kk_115 ?_
    refine mV_as 144 (by decide) ?_
    refine mV_icmp_ge f6_write_20 (fun h1 => ?_) (fun h1 => ?_)
    · rw [if_pos h1] at hr
      have hr := Option.some.inj hr; subst hr
      refine mV_drop (L' := [.ref 114, mX0, mX0, mX0]) (mSub_k (mSub_x (mSub_x (mSub_x mSub_n)))) ?_
      exact keyz0
    · rw [if_neg h1] at hr
      refine mV_aload f6_write_23 rfl ?_
      refine mV_getP f6_write_24 (by decide) kk_114 rfl (pp_114_0 _) ?_
      refine mV_iload f6_write_27 rfl ?_
      refine mV_iload f6_write_28 rfl ?_
      obtain ⟨z1, hz1, hr⟩ := mBind hr
      refine mV_stO f6_write_29 (by decide) kk_115 hz1 ?_
      have hr := Option.some.inj hr; subst hr
      refine mV_drop (L' := [.ref 114, mX0, mX0, mX0]) (mSub_k (mSub_x (mSub_x (mSub_x mSub_n)))) ?_
      exact keyz0
theorem c6_write_114 (X : Nat × (Nat → Int32)) (I : mI) (s : Nat) (x0 : Int32) (x1 : Int32) {res : mI} (hr : r6_write_114 I x0 x1 = some res) : mC X m6_write 0 0 0 [.ref 114, .int x0, .int x1] NN KK I (PP s) (mRet none NN KK res (PP s)) :=
  mC_of (L0 := [.ref 114, .int x0, .int x1, mX0]) rfl (Nat.le_of_ble_eq_true rfl) (w6_write_114 X I s x0 x1 _ hr (mRet_ok _ _ _ _ _))
def r4_number (I : mI) (x0 : Int32) (x1 : Int32) (x2 : Int32) : Option (Int32 × mI) := (r4_kind I).bind fun z0 => if (z0 : Int32) = (128 : Int32) then (mLd I 112 401 (I 109 6)).bind fun z1 => if (z1 : Int32) < (x1 : Int32) then (r4_blame I 2).bind fun z2 => some ((z2.1 &&& 1), z2.2) else (mLd I 112 401 (I 109 6)).bind fun z3 => if (z3 : Int32) ≤ (x2 : Int32) then (mLd I 112 401 (I 109 6)).bind fun z4 => (r6_write_114 I x0 z4).bind fun z5 => (r4_step z5).bind fun z6 => some (1, z6) else (r4_blame I 2).bind fun z7 => some ((z7.1 &&& 1), z7.2) else (r4_blame I 1).bind fun z8 => some ((z8.1 &&& 1), z8.2)
set_option maxHeartbeats 4000000 in
set_option maxRecDepth 100000 in
theorem w4_number (X : Nat × (Nat → Int32)) (I : mI) (s : Nat) (x0 : Int32) (x1 : Int32) (x2 : Int32) (Q : mQ) {res : Int32 × mI} (hr : r4_number I x0 x1 x2 = some res) (hQ : Q (some (.int res.1)) NN KK res.2 (PP s)) : mV X m4_number 1 0 0 0 [.ref 109, .int x0, .int x1, .int x2] [] NN KK I (PP s) Q := by
  unfold r4_number at hr
  refine mV_aload f4_number_0 rfl ?_
  obtain ⟨z0, hz0, hr⟩ := mBind hr
  refine mV_cV f4_number_1 tg_m4_kind mCls4 (by decide) kk_109 (mC_deep (c4_kind X I s hz0) (by decide)) rfl rfl (Nat.le_of_ble_eq_true rfl) ?_
  refine mV_push f4_number_4 ?_
  refine mV_icmp_eq f4_number_7 (fun h0 => ?_) (fun h0 => ?_)
  · rw [if_pos h0] at hr
    refine mV_aload f4_number_16 rfl ?_
    refine mV_getP f4_number_17 (by decide) kk_109 rfl (pp_109_3 _) ?_
    refine mV_aload f4_number_20 rfl ?_
    refine mV_gI (I 109 6) f4_number_21 (by decide) kk_109 rfl rfl ?_
    obtain ⟨z1, hz1, hr⟩ := mBind hr
    refine mV_ldO f4_number_24 (by decide) kk_112 hz1 ?_
    refine mV_iload f4_number_25 rfl ?_
    refine mV_icmp_lt f4_number_26 (fun h1 => ?_) (fun h1 => ?_)
    · rw [if_pos h1] at hr
      refine mV_aload f4_number_42 rfl ?_
      refine mV_push f4_number_43 ?_
      obtain ⟨z2, hz2, hr⟩ := mBind hr
      refine mV_cV f4_number_44 tg_m4_blame mCls4 (by decide) kk_109 (mC_deep (c4_blame X I s 2 hz2) (by decide)) rfl rfl (Nat.le_of_ble_eq_true rfl) ?_
      have hr := Option.some.inj hr; subst hr
      exact mV_zret rfl f4_number_47 hQ
    · rw [if_neg h1] at hr
      refine mV_aload f4_number_29 rfl ?_
      refine mV_getP f4_number_30 (by decide) kk_109 rfl (pp_109_3 _) ?_
      refine mV_aload f4_number_33 rfl ?_
      refine mV_gI (I 109 6) f4_number_34 (by decide) kk_109 rfl rfl ?_
      obtain ⟨z3, hz3, hr⟩ := mBind hr
      refine mV_ldO f4_number_37 (by decide) kk_112 hz3 ?_
      refine mV_iload f4_number_38 rfl ?_
      refine mV_icmp_le f4_number_39 (fun h2 => ?_) (fun h2 => ?_)
      · rw [if_pos h2] at hr
        refine mV_aload f4_number_48 rfl ?_
        refine mV_getP f4_number_49 (by decide) kk_109 rfl (pp_109_10 _) ?_
        refine mV_iload f4_number_52 rfl ?_
        refine mV_aload f4_number_53 rfl ?_
        refine mV_getP f4_number_54 (by decide) kk_109 rfl (pp_109_3 _) ?_
        refine mV_aload f4_number_57 rfl ?_
        refine mV_gI (I 109 6) f4_number_58 (by decide) kk_109 rfl rfl ?_
        obtain ⟨z4, hz4, hr⟩ := mBind hr
        refine mV_ldO f4_number_61 (by decide) kk_112 hz4 ?_
        obtain ⟨z5, hz5, hr⟩ := mBind hr
        refine mV_cV f4_number_62 tg_m6_write mCls6 (by decide) kk_114 (mC_deep (c6_write_114 X I s x0 z4 hz5) (by decide)) rfl rfl (Nat.le_of_ble_eq_true rfl) ?_
        refine mV_aload f4_number_65 rfl ?_
        obtain ⟨z6, hz6, hr⟩ := mBind hr
        refine mV_cV f4_number_66 tg_m4_step mCls4 (by decide) kk_109 (mC_deep (c4_step X z5 s hz6) (by decide)) rfl rfl (Nat.le_of_ble_eq_true rfl) ?_
        refine mV_push f4_number_69 ?_
        have hr := Option.some.inj hr; subst hr
        exact mV_iret rfl rfl f4_number_70 hQ
      · rw [if_neg h2] at hr
        refine mV_aload f4_number_42 rfl ?_
        refine mV_push f4_number_43 ?_
        obtain ⟨z7, hz7, hr⟩ := mBind hr
        refine mV_cV f4_number_44 tg_m4_blame mCls4 (by decide) kk_109 (mC_deep (c4_blame X I s 2 hz7) (by decide)) rfl rfl (Nat.le_of_ble_eq_true rfl) ?_
        have hr := Option.some.inj hr; subst hr
        exact mV_zret rfl f4_number_47 hQ
  · rw [if_neg h0] at hr
    refine mV_aload f4_number_10 rfl ?_
    refine mV_push f4_number_11 ?_
    obtain ⟨z8, hz8, hr⟩ := mBind hr
    refine mV_cV f4_number_12 tg_m4_blame mCls4 (by decide) kk_109 (mC_deep (c4_blame X I s 1 hz8) (by decide)) rfl rfl (Nat.le_of_ble_eq_true rfl) ?_
    have hr := Option.some.inj hr; subst hr
    exact mV_zret rfl f4_number_15 hQ
theorem c4_number (X : Nat × (Nat → Int32)) (I : mI) (s : Nat) (x0 : Int32) (x1 : Int32) (x2 : Int32) {res : Int32 × mI} (hr : r4_number I x0 x1 x2 = some res) : mC X m4_number 1 0 0 [.ref 109, .int x0, .int x1, .int x2] NN KK I (PP s) (mRet (some (.int res.1)) NN KK res.2 (PP s)) :=
  mC_of (L0 := [.ref 109, .int x0, .int x1, .int x2]) rfl (Nat.le_of_ble_eq_true rfl) (w4_number X I s x0 x1 x2 _ hr (mRet_ok _ _ _ _ _))
def r6_cell_114 (I : mI) (x0 : Int32) (x1 : Int32) : Option (Int32) := (if (((x0 * 9) + x1) : Int32) < (0 : Int32) then some 0 else if (144 : Int32) ≤ (((x0 * 9) + x1) : Int32) then some 0 else (mLd I 115 144 ((x0 * 9) + x1)).bind fun z1 => some z1 : Option (Int32)).bind fun z0 => some z0
set_option maxHeartbeats 4000000 in
set_option maxRecDepth 100000 in
theorem w6_cell_114 (X : Nat × (Nat → Int32)) (I : mI) (s : Nat) (x0 : Int32) (x1 : Int32) (Q : mQ) {res : Int32} (hr : r6_cell_114 I x0 x1 = some res) (hQ : Q (some (.int res)) NN KK I (PP s)) : mV X m6_cell 0 0 0 0 [.ref 114, .int x0, .int x1, mX0] [] NN KK I (PP s) Q := by
  unfold r6_cell_114 at hr
  refine mV_iload f6_cell_0 rfl ?_
  refine mV_push f6_cell_1 ?_
  refine mV_imul f6_cell_3 ?_
  refine mV_iload f6_cell_4 rfl ?_
  refine mV_iadd f6_cell_5 ?_
  refine mV_istore (L' := [.ref 114, .int x0, .int x1, .int ((x0 * 9) + x1)]) f6_cell_6 (by decide) rfl rfl ?_
  refine mV_iload f6_cell_7 rfl ?_
  obtain ⟨z0, hz0, hr⟩ := mBind hr
  have keyz0 : mV X m6_cell 0 0 0 30 [.ref 114, mX0, mX0, mX0] [.int z0] NN KK I (PP s) Q := by
    have hr := Option.some.inj hr; subst hr
    exact mV_iret rfl rfl f6_cell_30 hQ
  clear hr
  have hr := hz0
  clear hz0
  refine mV_if_lt f6_cell_8 (fun h0 => ?_) (fun h0 => ?_)
  · rw [if_pos h0] at hr
    refine mV_push f6_cell_29 ?_
    have hr := Option.some.inj hr; subst hr
    refine mV_drop (L' := [.ref 114, mX0, mX0, mX0]) (mSub_k (mSub_x (mSub_x (mSub_x mSub_n)))) ?_
    exact keyz0
  · rw [if_neg h0] at hr
    refine mV_iload f6_cell_11 rfl ?_
    refine mV_aload f6_cell_12 rfl ?_
    refine mV_getP f6_cell_13 (by decide) kk_114 rfl (pp_114_0 _) ?_
    refine mV_alen f6_cell_16 (by decide) kk_115 ?_
    refine mV_as 144 (by decide) ?_
    refine mV_icmp_ge f6_cell_17 (fun h1 => ?_) (fun h1 => ?_)
    · rw [if_pos h1] at hr
      refine mV_push f6_cell_29 ?_
      have hr := Option.some.inj hr; subst hr
      refine mV_drop (L' := [.ref 114, mX0, mX0, mX0]) (mSub_k (mSub_x (mSub_x (mSub_x mSub_n)))) ?_
      exact keyz0
    · rw [if_neg h1] at hr
      refine mV_aload f6_cell_20 rfl ?_
      refine mV_getP f6_cell_21 (by decide) kk_114 rfl (pp_114_0 _) ?_
      refine mV_iload f6_cell_24 rfl ?_
      obtain ⟨z1, hz1, hr⟩ := mBind hr
      refine mV_ldO f6_cell_25 (by decide) kk_115 hz1 ?_
      refine mV_goto f6_cell_26 ?_
      have hr := Option.some.inj hr; subst hr
      refine mV_drop (L' := [.ref 114, mX0, mX0, mX0]) (mSub_k (mSub_x (mSub_x (mSub_x mSub_n)))) ?_
      exact keyz0
theorem c6_cell_114 (X : Nat × (Nat → Int32)) (I : mI) (s : Nat) (x0 : Int32) (x1 : Int32) {res : Int32} (hr : r6_cell_114 I x0 x1 = some res) : mC X m6_cell 0 0 0 [.ref 114, .int x0, .int x1] NN KK I (PP s) (mRet (some (.int res)) NN KK I (PP s)) :=
  mC_of (L0 := [.ref 114, .int x0, .int x1, mX0]) rfl (Nat.le_of_ble_eq_true rfl) (w6_cell_114 X I s x0 x1 _ hr (mRet_ok _ _ _ _ _))
def r4_likenessLine (I : mI) : Option (Int32 × mI) := (r4_pass I 21).bind fun z0 => if (z0.1 : Int32) = (0 : Int32) then some (0, z0.2) else (r4_number z0.2 0 0 (z0.2 109 8 - 1)).bind fun z1 => if (z1.1 : Int32) = (0 : Int32) then some (0, z1.2) else (r4_pass z1.2 26).bind fun z2 => if (z2.1 : Int32) = (0 : Int32) then some (0, z2.2) else (r4_kind z2.2).bind fun z3 => if (z3 : Int32) = (128 : Int32) then (mLd z2.2 112 401 (z2.2 109 6)).bind fun z7 => (r6_cell_114 z2.2 (z2.2 114 2) 0).bind fun z8 => if (z7 : Int32) = (z8 : Int32) then (r4_blame z2.2 2).bind fun z12 => some ((z12.1 &&& 1), z12.2) else (r4_number z2.2 1 0 (z2.2 109 8 - 1)).bind fun z9 => (if (z9.1 : Int32) = (0 : Int32) then some (0, z9.2) else (r4_pass z9.2 59).bind fun z11 => if (z11.1 : Int32) = (0 : Int32) then some (0, z11.2) else some (1, z11.2) : Option (Int32 × mI)).bind fun z10 => some ((z10.1 &&& 1), z10.2) else (r4_number z2.2 1 0 (z2.2 109 8 - 1)).bind fun z4 => (if (z4.1 : Int32) = (0 : Int32) then some (0, z4.2) else (r4_pass z4.2 59).bind fun z6 => if (z6.1 : Int32) = (0 : Int32) then some (0, z6.2) else some (1, z6.2) : Option (Int32 × mI)).bind fun z5 => some ((z5.1 &&& 1), z5.2)
set_option maxHeartbeats 4000000 in
set_option maxRecDepth 100000 in
theorem w4_likenessLine (X : Nat × (Nat → Int32)) (I : mI) (s : Nat) (Q : mQ) {res : Int32 × mI} (hr : r4_likenessLine I = some res) (hQ : Q (some (.int res.1)) NN KK res.2 (PP s)) : mV X m4_likenessLine 2 0 0 0 [.ref 109] [] NN KK I (PP s) Q := by
  unfold r4_likenessLine at hr
  refine mV_aload f4_likenessLine_0 rfl ?_
  refine mV_push f4_likenessLine_1 ?_
  obtain ⟨z0, hz0, hr⟩ := mBind hr
  refine mV_cV f4_likenessLine_3 tg_m4_pass mCls4 (by decide) kk_109 (mC_deep (c4_pass X I s 21 hz0) (by decide)) rfl rfl (Nat.le_of_ble_eq_true rfl) ?_
  refine mV_if_eq f4_likenessLine_6 (fun h0 => ?_) (fun h0 => ?_)
  · rw [if_pos h0] at hr
    refine mV_push f4_likenessLine_33 ?_
    have hr := Option.some.inj hr; subst hr
    exact mV_iret rfl rfl f4_likenessLine_34 hQ
  · rw [if_neg h0] at hr
    refine mV_aload f4_likenessLine_9 rfl ?_
    refine mV_push f4_likenessLine_10 ?_
    refine mV_push f4_likenessLine_11 ?_
    refine mV_aload f4_likenessLine_12 rfl ?_
    refine mV_gI (z0.2 109 8) f4_likenessLine_13 (by decide) kk_109 rfl rfl ?_
    refine mV_push f4_likenessLine_16 ?_
    refine mV_isub f4_likenessLine_17 ?_
    obtain ⟨z1, hz1, hr⟩ := mBind hr
    refine mV_cV f4_likenessLine_18 tg_m4_number mCls4 (by decide) kk_109 (mC_deep (c4_number X z0.2 s 0 0 (z0.2 109 8 - 1) hz1) (by decide)) rfl rfl (Nat.le_of_ble_eq_true rfl) ?_
    refine mV_if_eq f4_likenessLine_21 (fun h1 => ?_) (fun h1 => ?_)
    · rw [if_pos h1] at hr
      refine mV_push f4_likenessLine_33 ?_
      have hr := Option.some.inj hr; subst hr
      exact mV_iret rfl rfl f4_likenessLine_34 hQ
    · rw [if_neg h1] at hr
      refine mV_aload f4_likenessLine_24 rfl ?_
      refine mV_push f4_likenessLine_25 ?_
      obtain ⟨z2, hz2, hr⟩ := mBind hr
      refine mV_cV f4_likenessLine_27 tg_m4_pass mCls4 (by decide) kk_109 (mC_deep (c4_pass X z1.2 s 26 hz2) (by decide)) rfl rfl (Nat.le_of_ble_eq_true rfl) ?_
      refine mV_if_ne f4_likenessLine_30 (fun h2 => ?_) (fun h2 => ?_)
      · rw [if_neg h2] at hr
        refine mV_aload f4_likenessLine_35 rfl ?_
        obtain ⟨z3, hz3, hr⟩ := mBind hr
        refine mV_cV f4_likenessLine_36 tg_m4_kind mCls4 (by decide) kk_109 (mC_deep (c4_kind X z2.2 s hz3) (by decide)) rfl rfl (Nat.le_of_ble_eq_true rfl) ?_
        refine mV_push f4_likenessLine_39 ?_
        refine mV_icmp_ne f4_likenessLine_42 (fun h3 => ?_) (fun h3 => ?_)
        · rw [if_neg h3] at hr
          refine mV_aload f4_likenessLine_78 rfl ?_
          refine mV_push f4_likenessLine_79 ?_
          refine mV_push f4_likenessLine_80 ?_
          refine mV_aload f4_likenessLine_81 rfl ?_
          refine mV_gI (z2.2 109 8) f4_likenessLine_82 (by decide) kk_109 rfl rfl ?_
          refine mV_push f4_likenessLine_85 ?_
          refine mV_isub f4_likenessLine_86 ?_
          obtain ⟨z4, hz4, hr⟩ := mBind hr
          refine mV_cV f4_likenessLine_87 tg_m4_number mCls4 (by decide) kk_109 (mC_deep (c4_number X z2.2 s 1 0 (z2.2 109 8 - 1) hz4) (by decide)) rfl rfl (Nat.le_of_ble_eq_true rfl) ?_
          obtain ⟨z5, hz5, hr⟩ := mBind hr
          have keyz5 : mV X m4_likenessLine 2 0 0 107 [.ref 109] [.int z5.1] NN KK z5.2 (PP s) Q := by
            have hr := Option.some.inj hr; subst hr
            exact mV_zret rfl f4_likenessLine_107 hQ
          clear hr
          have hr := hz5
          clear hz5
          refine mV_if_eq f4_likenessLine_90 (fun h4 => ?_) (fun h4 => ?_)
          · rw [if_pos h4] at hr
            refine mV_push f4_likenessLine_106 ?_
            have hr := Option.some.inj hr; subst hr
            exact keyz5
          · rw [if_neg h4] at hr
            refine mV_aload f4_likenessLine_93 rfl ?_
            refine mV_push f4_likenessLine_94 ?_
            obtain ⟨z6, hz6, hr⟩ := mBind hr
            refine mV_cV f4_likenessLine_96 tg_m4_pass mCls4 (by decide) kk_109 (mC_deep (c4_pass X z4.2 s 59 hz6) (by decide)) rfl rfl (Nat.le_of_ble_eq_true rfl) ?_
            refine mV_if_eq f4_likenessLine_99 (fun h5 => ?_) (fun h5 => ?_)
            · rw [if_pos h5] at hr
              refine mV_push f4_likenessLine_106 ?_
              have hr := Option.some.inj hr; subst hr
              exact keyz5
            · rw [if_neg h5] at hr
              refine mV_push f4_likenessLine_102 ?_
              refine mV_goto f4_likenessLine_103 ?_
              have hr := Option.some.inj hr; subst hr
              exact keyz5
        · rw [if_pos h3] at hr
          refine mV_aload f4_likenessLine_45 rfl ?_
          refine mV_getP f4_likenessLine_46 (by decide) kk_109 rfl (pp_109_3 _) ?_
          refine mV_aload f4_likenessLine_49 rfl ?_
          refine mV_gI (z2.2 109 6) f4_likenessLine_50 (by decide) kk_109 rfl rfl ?_
          obtain ⟨z7, hz7, hr⟩ := mBind hr
          refine mV_ldO f4_likenessLine_53 (by decide) kk_112 hz7 ?_
          refine mV_aload f4_likenessLine_54 rfl ?_
          refine mV_getP f4_likenessLine_55 (by decide) kk_109 rfl (pp_109_10 _) ?_
          refine mV_aload f4_likenessLine_58 rfl ?_
          refine mV_getP f4_likenessLine_59 (by decide) kk_109 rfl (pp_109_10 _) ?_
          refine mV_gI (z2.2 114 2) f4_likenessLine_62 (by decide) kk_114 rfl rfl ?_
          refine mV_push f4_likenessLine_65 ?_
          obtain ⟨z8, hz8, hr⟩ := mBind hr
          refine mV_cV f4_likenessLine_66 tg_m6_cell mCls6 (by decide) kk_114 (mC_deep (c6_cell_114 X z2.2 s (z2.2 114 2) 0 hz8) (by decide)) rfl rfl (Nat.le_of_ble_eq_true rfl) ?_
          refine mV_icmp_ne f4_likenessLine_69 (fun h6 => ?_) (fun h6 => ?_)
          · rw [if_neg h6] at hr
            refine mV_aload f4_likenessLine_78 rfl ?_
            refine mV_push f4_likenessLine_79 ?_
            refine mV_push f4_likenessLine_80 ?_
            refine mV_aload f4_likenessLine_81 rfl ?_
            refine mV_gI (z2.2 109 8) f4_likenessLine_82 (by decide) kk_109 rfl rfl ?_
            refine mV_push f4_likenessLine_85 ?_
            refine mV_isub f4_likenessLine_86 ?_
            obtain ⟨z9, hz9, hr⟩ := mBind hr
            refine mV_cV f4_likenessLine_87 tg_m4_number mCls4 (by decide) kk_109 (mC_deep (c4_number X z2.2 s 1 0 (z2.2 109 8 - 1) hz9) (by decide)) rfl rfl (Nat.le_of_ble_eq_true rfl) ?_
            obtain ⟨z10, hz10, hr⟩ := mBind hr
            have keyz10 : mV X m4_likenessLine 2 0 0 107 [.ref 109] [.int z10.1] NN KK z10.2 (PP s) Q := by
              have hr := Option.some.inj hr; subst hr
              exact mV_zret rfl f4_likenessLine_107 hQ
            clear hr
            have hr := hz10
            clear hz10
            refine mV_if_eq f4_likenessLine_90 (fun h7 => ?_) (fun h7 => ?_)
            · rw [if_pos h7] at hr
              refine mV_push f4_likenessLine_106 ?_
              have hr := Option.some.inj hr; subst hr
              exact keyz10
            · rw [if_neg h7] at hr
              refine mV_aload f4_likenessLine_93 rfl ?_
              refine mV_push f4_likenessLine_94 ?_
              obtain ⟨z11, hz11, hr⟩ := mBind hr
              refine mV_cV f4_likenessLine_96 tg_m4_pass mCls4 (by decide) kk_109 (mC_deep (c4_pass X z9.2 s 59 hz11) (by decide)) rfl rfl (Nat.le_of_ble_eq_true rfl) ?_
              refine mV_if_eq f4_likenessLine_99 (fun h8 => ?_) (fun h8 => ?_)
              · rw [if_pos h8] at hr
                refine mV_push f4_likenessLine_106 ?_
                have hr := Option.some.inj hr; subst hr
                exact keyz10
              · rw [if_neg h8] at hr
                refine mV_push f4_likenessLine_102 ?_
                refine mV_goto f4_likenessLine_103 ?_
                have hr := Option.some.inj hr; subst hr
                exact keyz10
          · rw [if_pos h6] at hr
            refine mV_aload f4_likenessLine_72 rfl ?_
            refine mV_push f4_likenessLine_73 ?_
            obtain ⟨z12, hz12, hr⟩ := mBind hr
            refine mV_cV f4_likenessLine_74 tg_m4_blame mCls4 (by decide) kk_109 (mC_deep (c4_blame X z2.2 s 2 hz12) (by decide)) rfl rfl (Nat.le_of_ble_eq_true rfl) ?_
            have hr := Option.some.inj hr; subst hr
            exact mV_zret rfl f4_likenessLine_77 hQ
      · rw [if_pos h2] at hr
        refine mV_push f4_likenessLine_33 ?_
        have hr := Option.some.inj hr; subst hr
        exact mV_iret rfl rfl f4_likenessLine_34 hQ
theorem c4_likenessLine (X : Nat × (Nat → Int32)) (I : mI) (s : Nat) {res : Int32 × mI} (hr : r4_likenessLine I = some res) : mC X m4_likenessLine 2 0 0 [.ref 109] NN KK I (PP s) (mRet (some (.int res.1)) NN KK res.2 (PP s)) :=
  mC_of (L0 := [.ref 109]) rfl (Nat.le_of_ble_eq_true rfl) (w4_likenessLine X I s _ hr (mRet_ok _ _ _ _ _))
def r4_careLine (I : mI) : Option (Int32 × mI) := (r4_pass I 19).bind fun z0 => if (z0.1 : Int32) = (0 : Int32) then some (0, z0.2) else (r4_number z0.2 0 0 999).bind fun z1 => if (z1.1 : Int32) = (0 : Int32) then some (0, z1.2) else (r4_kind z1.2).bind fun z2 => (r6_write_114 z1.2 1 z2).bind fun z3 => if (22 : Int32) ≤ (z2 : Int32) then if (z2 : Int32) ≤ (25 : Int32) then (r4_step z3).bind fun z4 => (if (z2 : Int32) = 15 then (r4_number z4 2 0 9).bind fun z6 => some (z6.1, z6.2) else if (z2 : Int32) = 22 then (r4_number z4 2 0 7).bind fun z7 => some (z7.1, z7.2) else if (z2 : Int32) = 24 then (r4_number z4 2 1 99).bind fun z8 => some (z8.1, z8.2) else if (z2 : Int32) = 25 then (r4_number z4 2 0 99).bind fun z9 => some (z9.1, z9.2) else some (1, z4) : Option (Int32 × mI)).bind fun z5 => (if (z5.1 : Int32) = (0 : Int32) then some (0, z5.2) else (r4_pass z5.2 59).bind fun z11 => if (z11.1 : Int32) = (0 : Int32) then some (0, z11.2) else some (1, z11.2) : Option (Int32 × mI)).bind fun z10 => some ((z10.1 &&& 1), z10.2) else (r4_blame z3 1).bind fun z12 => some ((z12.1 &&& 1), z12.2) else if (z2 : Int32) = (15 : Int32) then if (z2 : Int32) ≤ (25 : Int32) then (r4_step z3).bind fun z14 => (if (z2 : Int32) = 15 then (r4_number z14 2 0 9).bind fun z16 => some (z16.1, z16.2) else if (z2 : Int32) = 22 then (r4_number z14 2 0 7).bind fun z17 => some (z17.1, z17.2) else if (z2 : Int32) = 24 then (r4_number z14 2 1 99).bind fun z18 => some (z18.1, z18.2) else if (z2 : Int32) = 25 then (r4_number z14 2 0 99).bind fun z19 => some (z19.1, z19.2) else some (1, z14) : Option (Int32 × mI)).bind fun z15 => (if (z15.1 : Int32) = (0 : Int32) then some (0, z15.2) else (r4_pass z15.2 59).bind fun z21 => if (z21.1 : Int32) = (0 : Int32) then some (0, z21.2) else some (1, z21.2) : Option (Int32 × mI)).bind fun z20 => some ((z20.1 &&& 1), z20.2) else (r4_blame z3 1).bind fun z22 => some ((z22.1 &&& 1), z22.2) else (r4_blame z3 1).bind fun z13 => some ((z13.1 &&& 1), z13.2)
set_option maxHeartbeats 4000000 in
set_option maxRecDepth 100000 in
theorem w4_careLine (X : Nat × (Nat → Int32)) (I : mI) (s : Nat) (Q : mQ) {res : Int32 × mI} (hr : r4_careLine I = some res) (hQ : Q (some (.int res.1)) NN KK res.2 (PP s)) : mV X m4_careLine 2 0 0 0 [.ref 109, mX0, mX0] [] NN KK I (PP s) Q := by
  unfold r4_careLine at hr
  refine mV_aload f4_careLine_0 rfl ?_
  refine mV_push f4_careLine_1 ?_
  obtain ⟨z0, hz0, hr⟩ := mBind hr
  refine mV_cV f4_careLine_3 tg_m4_pass mCls4 (by decide) kk_109 (mC_deep (c4_pass X I s 19 hz0) (by decide)) rfl rfl (Nat.le_of_ble_eq_true rfl) ?_
  refine mV_if_eq f4_careLine_6 (fun h0 => ?_) (fun h0 => ?_)
  · rw [if_pos h0] at hr
    refine mV_push f4_careLine_21 ?_
    have hr := Option.some.inj hr; subst hr
    exact mV_iret rfl rfl f4_careLine_22 hQ
  · rw [if_neg h0] at hr
    refine mV_aload f4_careLine_9 rfl ?_
    refine mV_push f4_careLine_10 ?_
    refine mV_push f4_careLine_11 ?_
    refine mV_push f4_careLine_12 ?_
    obtain ⟨z1, hz1, hr⟩ := mBind hr
    refine mV_cV f4_careLine_15 tg_m4_number mCls4 (by decide) kk_109 (mC_deep (c4_number X z0.2 s 0 0 999 hz1) (by decide)) rfl rfl (Nat.le_of_ble_eq_true rfl) ?_
    refine mV_if_ne f4_careLine_18 (fun h1 => ?_) (fun h1 => ?_)
    · rw [if_neg h1] at hr
      refine mV_aload f4_careLine_23 rfl ?_
      obtain ⟨z2, hz2, hr⟩ := mBind hr
      refine mV_cV f4_careLine_24 tg_m4_kind mCls4 (by decide) kk_109 (mC_deep (c4_kind X z1.2 s hz2) (by decide)) rfl rfl (Nat.le_of_ble_eq_true rfl) ?_
      refine mV_istore (L' := [.ref 109, .int z2, mX0]) f4_careLine_27 (by decide) rfl rfl ?_
      refine mV_aload f4_careLine_28 rfl ?_
      refine mV_getP f4_careLine_29 (by decide) kk_109 rfl (pp_109_10 _) ?_
      refine mV_push f4_careLine_32 ?_
      refine mV_iload f4_careLine_33 rfl ?_
      obtain ⟨z3, hz3, hr⟩ := mBind hr
      refine mV_cV f4_careLine_34 tg_m6_write mCls6 (by decide) kk_114 (mC_deep (c6_write_114 X z1.2 s 1 z2 hz3) (by decide)) rfl rfl (Nat.le_of_ble_eq_true rfl) ?_
      refine mV_iload f4_careLine_37 rfl ?_
      refine mV_push f4_careLine_38 ?_
      refine mV_icmp_ge f4_careLine_40 (fun h2 => ?_) (fun h2 => ?_)
      · rw [if_pos h2] at hr
        refine mV_iload f4_careLine_49 rfl ?_
        refine mV_push f4_careLine_50 ?_
        refine mV_icmp_le f4_careLine_52 (fun h3 => ?_) (fun h3 => ?_)
        · rw [if_pos h3] at hr
          refine mV_aload f4_careLine_61 rfl ?_
          obtain ⟨z4, hz4, hr⟩ := mBind hr
          refine mV_cV f4_careLine_62 tg_m4_step mCls4 (by decide) kk_109 (mC_deep (c4_step X z3 s hz4) (by decide)) rfl rfl (Nat.le_of_ble_eq_true rfl) ?_
          refine mV_push f4_careLine_65 ?_
          refine mV_istore (L' := [.ref 109, .int z2, .int 1]) f4_careLine_66 (by decide) rfl rfl ?_
          refine mV_iload f4_careLine_67 rfl ?_
          obtain ⟨z5, hz5, hr⟩ := mBind hr
          have keyz5 : mV X m4_careLine 2 0 0 160 [.ref 109, mX0, .int z5.1] [] NN KK z5.2 (PP s) Q := by
            refine mV_iload f4_careLine_160 rfl ?_
            obtain ⟨z10, hz10, hr⟩ := mBind hr
            have keyz10 : mV X m4_careLine 2 0 0 178 [.ref 109, mX0, mX0] [.int z10.1] NN KK z10.2 (PP s) Q := by
              have hr := Option.some.inj hr; subst hr
              exact mV_zret rfl f4_careLine_178 hQ
            clear hr
            have hr := hz10
            clear hz10
            refine mV_if_eq f4_careLine_161 (fun h8 => ?_) (fun h8 => ?_)
            · rw [if_pos h8] at hr
              refine mV_push f4_careLine_177 ?_
              have hr := Option.some.inj hr; subst hr
              refine mV_drop (L' := [.ref 109, mX0, mX0]) (mSub_k (mSub_x (mSub_x mSub_n))) ?_
              exact keyz10
            · rw [if_neg h8] at hr
              refine mV_aload f4_careLine_164 rfl ?_
              refine mV_push f4_careLine_165 ?_
              obtain ⟨z11, hz11, hr⟩ := mBind hr
              refine mV_cV f4_careLine_167 tg_m4_pass mCls4 (by decide) kk_109 (mC_deep (c4_pass X z5.2 s 59 hz11) (by decide)) rfl rfl (Nat.le_of_ble_eq_true rfl) ?_
              refine mV_if_eq f4_careLine_170 (fun h9 => ?_) (fun h9 => ?_)
              · rw [if_pos h9] at hr
                refine mV_push f4_careLine_177 ?_
                have hr := Option.some.inj hr; subst hr
                refine mV_drop (L' := [.ref 109, mX0, mX0]) (mSub_k (mSub_x (mSub_x mSub_n))) ?_
                exact keyz10
              · rw [if_neg h9] at hr
                refine mV_push f4_careLine_173 ?_
                refine mV_goto f4_careLine_174 ?_
                have hr := Option.some.inj hr; subst hr
                refine mV_drop (L' := [.ref 109, mX0, mX0]) (mSub_k (mSub_x (mSub_x mSub_n))) ?_
                exact keyz10
          clear hr
          have hr := hz5
          clear hz5
          by_cases h4 : z2 = 15
          · rw [if_pos h4] at hr
            refine mV_lookEq (v := 15) f4_careLine_68 (by decide) h4 (by decide) (by decide : (68 : Int) + 68 = (136 : Nat)) ?_
            refine mV_aload f4_careLine_136 rfl ?_
            refine mV_push f4_careLine_137 ?_
            refine mV_push f4_careLine_138 ?_
            refine mV_push f4_careLine_139 ?_
            obtain ⟨z6, hz6, hr⟩ := mBind hr
            refine mV_cV f4_careLine_141 tg_m4_number mCls4 (by decide) kk_109 (mC_deep (c4_number X z4 s 2 0 9 hz6) (by decide)) rfl rfl (Nat.le_of_ble_eq_true rfl) ?_
            refine mV_istore (L' := [.ref 109, .int z2, .int z6.1]) f4_careLine_144 (by decide) rfl rfl ?_
            refine mV_goto f4_careLine_145 ?_
            have hr := Option.some.inj hr; subst hr
            refine mV_drop (L' := [.ref 109, mX0, .int z6.1]) (mSub_k (mSub_x (mSub_k mSub_n))) ?_
            exact keyz5
          rw [if_neg h4] at hr
          by_cases h5 : z2 = 22
          · rw [if_pos h5] at hr
            refine mV_lookEq (v := 22) f4_careLine_68 (by decide) h5 (by decide) (by decide : (68 : Int) + 44 = (112 : Nat)) ?_
            refine mV_aload f4_careLine_112 rfl ?_
            refine mV_push f4_careLine_113 ?_
            refine mV_push f4_careLine_114 ?_
            refine mV_push f4_careLine_115 ?_
            obtain ⟨z7, hz7, hr⟩ := mBind hr
            refine mV_cV f4_careLine_117 tg_m4_number mCls4 (by decide) kk_109 (mC_deep (c4_number X z4 s 2 0 7 hz7) (by decide)) rfl rfl (Nat.le_of_ble_eq_true rfl) ?_
            refine mV_istore (L' := [.ref 109, .int z2, .int z7.1]) f4_careLine_120 (by decide) rfl rfl ?_
            refine mV_goto f4_careLine_121 ?_
            have hr := Option.some.inj hr; subst hr
            refine mV_drop (L' := [.ref 109, mX0, .int z7.1]) (mSub_k (mSub_x (mSub_k mSub_n))) ?_
            exact keyz5
          rw [if_neg h5] at hr
          by_cases h6 : z2 = 24
          · rw [if_pos h6] at hr
            refine mV_lookEq (v := 24) f4_careLine_68 (by decide) h6 (by decide) (by decide : (68 : Int) + 56 = (124 : Nat)) ?_
            refine mV_aload f4_careLine_124 rfl ?_
            refine mV_push f4_careLine_125 ?_
            refine mV_push f4_careLine_126 ?_
            refine mV_push f4_careLine_127 ?_
            obtain ⟨z8, hz8, hr⟩ := mBind hr
            refine mV_cV f4_careLine_129 tg_m4_number mCls4 (by decide) kk_109 (mC_deep (c4_number X z4 s 2 1 99 hz8) (by decide)) rfl rfl (Nat.le_of_ble_eq_true rfl) ?_
            refine mV_istore (L' := [.ref 109, .int z2, .int z8.1]) f4_careLine_132 (by decide) rfl rfl ?_
            refine mV_goto f4_careLine_133 ?_
            have hr := Option.some.inj hr; subst hr
            refine mV_drop (L' := [.ref 109, mX0, .int z8.1]) (mSub_k (mSub_x (mSub_k mSub_n))) ?_
            exact keyz5
          rw [if_neg h6] at hr
          by_cases h7 : z2 = 25
          · rw [if_pos h7] at hr
            refine mV_lookEq (v := 25) f4_careLine_68 (by decide) h7 (by decide) (by decide : (68 : Int) + 80 = (148 : Nat)) ?_
            refine mV_aload f4_careLine_148 rfl ?_
            refine mV_push f4_careLine_149 ?_
            refine mV_push f4_careLine_150 ?_
            refine mV_push f4_careLine_151 ?_
            obtain ⟨z9, hz9, hr⟩ := mBind hr
            refine mV_cV f4_careLine_153 tg_m4_number mCls4 (by decide) kk_109 (mC_deep (c4_number X z4 s 2 0 99 hz9) (by decide)) rfl rfl (Nat.le_of_ble_eq_true rfl) ?_
            refine mV_istore (L' := [.ref 109, .int z2, .int z9.1]) f4_careLine_156 (by decide) rfl rfl ?_
            refine mV_goto f4_careLine_157 ?_
            have hr := Option.some.inj hr; subst hr
            refine mV_drop (L' := [.ref 109, mX0, .int z9.1]) (mSub_k (mSub_x (mSub_k mSub_n))) ?_
            exact keyz5
          rw [if_neg h7] at hr
          refine mV_lookNo f4_careLine_68 (by decide) [15, 22, 24, 25] (by decide) (List.forall_mem_cons.mpr ⟨h4, (List.forall_mem_cons.mpr ⟨h5, (List.forall_mem_cons.mpr ⟨h6, (List.forall_mem_cons.mpr ⟨h7, (fun _ hc => absurd hc List.not_mem_nil)⟩)⟩)⟩)⟩) (by decide : (68 : Int) + 92 = (160 : Nat)) ?_
          have hr := Option.some.inj hr; subst hr
          refine mV_drop (L' := [.ref 109, mX0, .int 1]) (mSub_k (mSub_x (mSub_k mSub_n))) ?_
          exact keyz5
        · rw [if_neg h3] at hr
          refine mV_aload f4_careLine_55 rfl ?_
          refine mV_push f4_careLine_56 ?_
          obtain ⟨z12, hz12, hr⟩ := mBind hr
          refine mV_cV f4_careLine_57 tg_m4_blame mCls4 (by decide) kk_109 (mC_deep (c4_blame X z3 s 1 hz12) (by decide)) rfl rfl (Nat.le_of_ble_eq_true rfl) ?_
          have hr := Option.some.inj hr; subst hr
          exact mV_zret rfl f4_careLine_60 hQ
      · rw [if_neg h2] at hr
        refine mV_iload f4_careLine_43 rfl ?_
        refine mV_push f4_careLine_44 ?_
        refine mV_icmp_ne f4_careLine_46 (fun h10 => ?_) (fun h10 => ?_)
        · rw [if_neg h10] at hr
          refine mV_aload f4_careLine_55 rfl ?_
          refine mV_push f4_careLine_56 ?_
          obtain ⟨z13, hz13, hr⟩ := mBind hr
          refine mV_cV f4_careLine_57 tg_m4_blame mCls4 (by decide) kk_109 (mC_deep (c4_blame X z3 s 1 hz13) (by decide)) rfl rfl (Nat.le_of_ble_eq_true rfl) ?_
          have hr := Option.some.inj hr; subst hr
          exact mV_zret rfl f4_careLine_60 hQ
        · rw [if_pos h10] at hr
          refine mV_iload f4_careLine_49 rfl ?_
          refine mV_push f4_careLine_50 ?_
          refine mV_icmp_le f4_careLine_52 (fun h11 => ?_) (fun h11 => ?_)
          · rw [if_pos h11] at hr
            refine mV_aload f4_careLine_61 rfl ?_
            obtain ⟨z14, hz14, hr⟩ := mBind hr
            refine mV_cV f4_careLine_62 tg_m4_step mCls4 (by decide) kk_109 (mC_deep (c4_step X z3 s hz14) (by decide)) rfl rfl (Nat.le_of_ble_eq_true rfl) ?_
            refine mV_push f4_careLine_65 ?_
            refine mV_istore (L' := [.ref 109, .int z2, .int 1]) f4_careLine_66 (by decide) rfl rfl ?_
            refine mV_iload f4_careLine_67 rfl ?_
            obtain ⟨z15, hz15, hr⟩ := mBind hr
            have keyz15 : mV X m4_careLine 2 0 0 160 [.ref 109, mX0, .int z15.1] [] NN KK z15.2 (PP s) Q := by
              refine mV_iload f4_careLine_160 rfl ?_
              obtain ⟨z20, hz20, hr⟩ := mBind hr
              have keyz20 : mV X m4_careLine 2 0 0 178 [.ref 109, mX0, mX0] [.int z20.1] NN KK z20.2 (PP s) Q := by
                have hr := Option.some.inj hr; subst hr
                exact mV_zret rfl f4_careLine_178 hQ
              clear hr
              have hr := hz20
              clear hz20
              refine mV_if_eq f4_careLine_161 (fun h16 => ?_) (fun h16 => ?_)
              · rw [if_pos h16] at hr
                refine mV_push f4_careLine_177 ?_
                have hr := Option.some.inj hr; subst hr
                refine mV_drop (L' := [.ref 109, mX0, mX0]) (mSub_k (mSub_x (mSub_x mSub_n))) ?_
                exact keyz20
              · rw [if_neg h16] at hr
                refine mV_aload f4_careLine_164 rfl ?_
                refine mV_push f4_careLine_165 ?_
                obtain ⟨z21, hz21, hr⟩ := mBind hr
                refine mV_cV f4_careLine_167 tg_m4_pass mCls4 (by decide) kk_109 (mC_deep (c4_pass X z15.2 s 59 hz21) (by decide)) rfl rfl (Nat.le_of_ble_eq_true rfl) ?_
                refine mV_if_eq f4_careLine_170 (fun h17 => ?_) (fun h17 => ?_)
                · rw [if_pos h17] at hr
                  refine mV_push f4_careLine_177 ?_
                  have hr := Option.some.inj hr; subst hr
                  refine mV_drop (L' := [.ref 109, mX0, mX0]) (mSub_k (mSub_x (mSub_x mSub_n))) ?_
                  exact keyz20
                · rw [if_neg h17] at hr
                  refine mV_push f4_careLine_173 ?_
                  refine mV_goto f4_careLine_174 ?_
                  have hr := Option.some.inj hr; subst hr
                  refine mV_drop (L' := [.ref 109, mX0, mX0]) (mSub_k (mSub_x (mSub_x mSub_n))) ?_
                  exact keyz20
            clear hr
            have hr := hz15
            clear hz15
            by_cases h12 : z2 = 15
            · rw [if_pos h12] at hr
              refine mV_lookEq (v := 15) f4_careLine_68 (by decide) h12 (by decide) (by decide : (68 : Int) + 68 = (136 : Nat)) ?_
              refine mV_aload f4_careLine_136 rfl ?_
              refine mV_push f4_careLine_137 ?_
              refine mV_push f4_careLine_138 ?_
              refine mV_push f4_careLine_139 ?_
              obtain ⟨z16, hz16, hr⟩ := mBind hr
              refine mV_cV f4_careLine_141 tg_m4_number mCls4 (by decide) kk_109 (mC_deep (c4_number X z14 s 2 0 9 hz16) (by decide)) rfl rfl (Nat.le_of_ble_eq_true rfl) ?_
              refine mV_istore (L' := [.ref 109, .int z2, .int z16.1]) f4_careLine_144 (by decide) rfl rfl ?_
              refine mV_goto f4_careLine_145 ?_
              have hr := Option.some.inj hr; subst hr
              refine mV_drop (L' := [.ref 109, mX0, .int z16.1]) (mSub_k (mSub_x (mSub_k mSub_n))) ?_
              exact keyz15
            rw [if_neg h12] at hr
            by_cases h13 : z2 = 22
            · rw [if_pos h13] at hr
              refine mV_lookEq (v := 22) f4_careLine_68 (by decide) h13 (by decide) (by decide : (68 : Int) + 44 = (112 : Nat)) ?_
              refine mV_aload f4_careLine_112 rfl ?_
              refine mV_push f4_careLine_113 ?_
              refine mV_push f4_careLine_114 ?_
              refine mV_push f4_careLine_115 ?_
              obtain ⟨z17, hz17, hr⟩ := mBind hr
              refine mV_cV f4_careLine_117 tg_m4_number mCls4 (by decide) kk_109 (mC_deep (c4_number X z14 s 2 0 7 hz17) (by decide)) rfl rfl (Nat.le_of_ble_eq_true rfl) ?_
              refine mV_istore (L' := [.ref 109, .int z2, .int z17.1]) f4_careLine_120 (by decide) rfl rfl ?_
              refine mV_goto f4_careLine_121 ?_
              have hr := Option.some.inj hr; subst hr
              refine mV_drop (L' := [.ref 109, mX0, .int z17.1]) (mSub_k (mSub_x (mSub_k mSub_n))) ?_
              exact keyz15
            rw [if_neg h13] at hr
            by_cases h14 : z2 = 24
            · rw [if_pos h14] at hr
              refine mV_lookEq (v := 24) f4_careLine_68 (by decide) h14 (by decide) (by decide : (68 : Int) + 56 = (124 : Nat)) ?_
              refine mV_aload f4_careLine_124 rfl ?_
              refine mV_push f4_careLine_125 ?_
              refine mV_push f4_careLine_126 ?_
              refine mV_push f4_careLine_127 ?_
              obtain ⟨z18, hz18, hr⟩ := mBind hr
              refine mV_cV f4_careLine_129 tg_m4_number mCls4 (by decide) kk_109 (mC_deep (c4_number X z14 s 2 1 99 hz18) (by decide)) rfl rfl (Nat.le_of_ble_eq_true rfl) ?_
              refine mV_istore (L' := [.ref 109, .int z2, .int z18.1]) f4_careLine_132 (by decide) rfl rfl ?_
              refine mV_goto f4_careLine_133 ?_
              have hr := Option.some.inj hr; subst hr
              refine mV_drop (L' := [.ref 109, mX0, .int z18.1]) (mSub_k (mSub_x (mSub_k mSub_n))) ?_
              exact keyz15
            rw [if_neg h14] at hr
            by_cases h15 : z2 = 25
            · rw [if_pos h15] at hr
              refine mV_lookEq (v := 25) f4_careLine_68 (by decide) h15 (by decide) (by decide : (68 : Int) + 80 = (148 : Nat)) ?_
              refine mV_aload f4_careLine_148 rfl ?_
              refine mV_push f4_careLine_149 ?_
              refine mV_push f4_careLine_150 ?_
              refine mV_push f4_careLine_151 ?_
              obtain ⟨z19, hz19, hr⟩ := mBind hr
              refine mV_cV f4_careLine_153 tg_m4_number mCls4 (by decide) kk_109 (mC_deep (c4_number X z14 s 2 0 99 hz19) (by decide)) rfl rfl (Nat.le_of_ble_eq_true rfl) ?_
              refine mV_istore (L' := [.ref 109, .int z2, .int z19.1]) f4_careLine_156 (by decide) rfl rfl ?_
              refine mV_goto f4_careLine_157 ?_
              have hr := Option.some.inj hr; subst hr
              refine mV_drop (L' := [.ref 109, mX0, .int z19.1]) (mSub_k (mSub_x (mSub_k mSub_n))) ?_
              exact keyz15
            rw [if_neg h15] at hr
            refine mV_lookNo f4_careLine_68 (by decide) [15, 22, 24, 25] (by decide) (List.forall_mem_cons.mpr ⟨h12, (List.forall_mem_cons.mpr ⟨h13, (List.forall_mem_cons.mpr ⟨h14, (List.forall_mem_cons.mpr ⟨h15, (fun _ hc => absurd hc List.not_mem_nil)⟩)⟩)⟩)⟩) (by decide : (68 : Int) + 92 = (160 : Nat)) ?_
            have hr := Option.some.inj hr; subst hr
            refine mV_drop (L' := [.ref 109, mX0, .int 1]) (mSub_k (mSub_x (mSub_k mSub_n))) ?_
            exact keyz15
          · rw [if_neg h11] at hr
            refine mV_aload f4_careLine_55 rfl ?_
            refine mV_push f4_careLine_56 ?_
            obtain ⟨z22, hz22, hr⟩ := mBind hr
            refine mV_cV f4_careLine_57 tg_m4_blame mCls4 (by decide) kk_109 (mC_deep (c4_blame X z3 s 1 hz22) (by decide)) rfl rfl (Nat.le_of_ble_eq_true rfl) ?_
            have hr := Option.some.inj hr; subst hr
            exact mV_zret rfl f4_careLine_60 hQ
    · rw [if_pos h1] at hr
      refine mV_push f4_careLine_21 ?_
      have hr := Option.some.inj hr; subst hr
      exact mV_iret rfl rfl f4_careLine_22 hQ
theorem c4_careLine (X : Nat × (Nat → Int32)) (I : mI) (s : Nat) {res : Int32 × mI} (hr : r4_careLine I = some res) : mC X m4_careLine 2 0 0 [.ref 109] NN KK I (PP s) (mRet (some (.int res.1)) NN KK res.2 (PP s)) :=
  mC_of (L0 := [.ref 109, mX0, mX0]) rfl (Nat.le_of_ble_eq_true rfl) (w4_careLine X I s _ hr (mRet_ok _ _ _ _ _))

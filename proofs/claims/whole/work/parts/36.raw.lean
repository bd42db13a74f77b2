def rJ6_bitCount (x0 : Int32) : Int32 := ((((((((x0 - ((mUsh x0 1) &&& 1431655765)) &&& 858993459) + ((mUsh (x0 - ((mUsh x0 1) &&& 1431655765)) 2) &&& 858993459)) + (mUsh (((x0 - ((mUsh x0 1) &&& 1431655765)) &&& 858993459) + ((mUsh (x0 - ((mUsh x0 1) &&& 1431655765)) 2) &&& 858993459)) 4)) &&& 252645135) + (mUsh (((((x0 - ((mUsh x0 1) &&& 1431655765)) &&& 858993459) + ((mUsh (x0 - ((mUsh x0 1) &&& 1431655765)) 2) &&& 858993459)) + (mUsh (((x0 - ((mUsh x0 1) &&& 1431655765)) &&& 858993459) + ((mUsh (x0 - ((mUsh x0 1) &&& 1431655765)) 2) &&& 858993459)) 4)) &&& 252645135) 8)) + (mUsh ((((((x0 - ((mUsh x0 1) &&& 1431655765)) &&& 858993459) + ((mUsh (x0 - ((mUsh x0 1) &&& 1431655765)) 2) &&& 858993459)) + (mUsh (((x0 - ((mUsh x0 1) &&& 1431655765)) &&& 858993459) + ((mUsh (x0 - ((mUsh x0 1) &&& 1431655765)) 2) &&& 858993459)) 4)) &&& 252645135) + (mUsh (((((x0 - ((mUsh x0 1) &&& 1431655765)) &&& 858993459) + ((mUsh (x0 - ((mUsh x0 1) &&& 1431655765)) 2) &&& 858993459)) + (mUsh (((x0 - ((mUsh x0 1) &&& 1431655765)) &&& 858993459) + ((mUsh (x0 - ((mUsh x0 1) &&& 1431655765)) 2) &&& 858993459)) 4)) &&& 252645135) 8)) 16)) &&& 63)
set_option maxHeartbeats 4000000 in
set_option maxRecDepth 100000 in
theorem wJ6_bitCount (X : Nat × (Nat → Int32)) (I : mI) (s : Nat) (x0 : Int32) (Q : mQ) {res : Int32} (hr : rJ6_bitCount x0 = res) (hQ : Q (some (.int res)) NN KK I (PP s)) : mV X mJ6_bitCount 0 0 0 0 [.int x0] [] NN KK I (PP s) Q := by
  unfold rJ6_bitCount at hr
  refine mV_iload fJ6_bitCount_0 rfl ?_
  refine mV_iload fJ6_bitCount_1 rfl ?_
  refine mV_push fJ6_bitCount_2 ?_
  refine mV_ushC fJ6_bitCount_3 ?_
  refine mV_push fJ6_bitCount_4 ?_
  refine mV_iand fJ6_bitCount_7 ?_
  refine mV_isub fJ6_bitCount_8 ?_
  refine mV_istore (L' := [.int (x0 - ((mUsh x0 1) &&& 1431655765))]) fJ6_bitCount_9 (by decide) rfl rfl ?_
  refine mV_iload fJ6_bitCount_10 rfl ?_
  refine mV_push fJ6_bitCount_11 ?_
  refine mV_iand fJ6_bitCount_14 ?_
  refine mV_iload fJ6_bitCount_15 rfl ?_
  refine mV_push fJ6_bitCount_16 ?_
  refine mV_ushC fJ6_bitCount_17 ?_
  refine mV_push fJ6_bitCount_18 ?_
  refine mV_iand fJ6_bitCount_21 ?_
  refine mV_iadd fJ6_bitCount_22 ?_
  refine mV_istore (L' := [.int (((x0 - ((mUsh x0 1) &&& 1431655765)) &&& 858993459) + ((mUsh (x0 - ((mUsh x0 1) &&& 1431655765)) 2) &&& 858993459))]) fJ6_bitCount_23 (by decide) rfl rfl ?_
  refine mV_iload fJ6_bitCount_24 rfl ?_
  refine mV_iload fJ6_bitCount_25 rfl ?_
  refine mV_push fJ6_bitCount_26 ?_
  refine mV_ushC fJ6_bitCount_27 ?_
  refine mV_iadd fJ6_bitCount_28 ?_
  refine mV_push fJ6_bitCount_29 ?_
  refine mV_iand fJ6_bitCount_32 ?_
  refine mV_istore (L' := [.int (((((x0 - ((mUsh x0 1) &&& 1431655765)) &&& 858993459) + ((mUsh (x0 - ((mUsh x0 1) &&& 1431655765)) 2) &&& 858993459)) + (mUsh (((x0 - ((mUsh x0 1) &&& 1431655765)) &&& 858993459) + ((mUsh (x0 - ((mUsh x0 1) &&& 1431655765)) 2) &&& 858993459)) 4)) &&& 252645135)]) fJ6_bitCount_33 (by decide) rfl rfl ?_
  refine mV_iload fJ6_bitCount_34 rfl ?_
  refine mV_iload fJ6_bitCount_35 rfl ?_
  refine mV_push fJ6_bitCount_36 ?_
  refine mV_ushC fJ6_bitCount_38 ?_
  refine mV_iadd fJ6_bitCount_39 ?_
  refine mV_istore (L' := [.int ((((((x0 - ((mUsh x0 1) &&& 1431655765)) &&& 858993459) + ((mUsh (x0 - ((mUsh x0 1) &&& 1431655765)) 2) &&& 858993459)) + (mUsh (((x0 - ((mUsh x0 1) &&& 1431655765)) &&& 858993459) + ((mUsh (x0 - ((mUsh x0 1) &&& 1431655765)) 2) &&& 858993459)) 4)) &&& 252645135) + (mUsh (((((x0 - ((mUsh x0 1) &&& 1431655765)) &&& 858993459) + ((mUsh (x0 - ((mUsh x0 1) &&& 1431655765)) 2) &&& 858993459)) + (mUsh (((x0 - ((mUsh x0 1) &&& 1431655765)) &&& 858993459) + ((mUsh (x0 - ((mUsh x0 1) &&& 1431655765)) 2) &&& 858993459)) 4)) &&& 252645135) 8))]) fJ6_bitCount_40 (by decide) rfl rfl ?_
  refine mV_iload fJ6_bitCount_41 rfl ?_
  refine mV_iload fJ6_bitCount_42 rfl ?_
  refine mV_push fJ6_bitCount_43 ?_
  refine mV_ushC fJ6_bitCount_45 ?_
  refine mV_iadd fJ6_bitCount_46 ?_
  refine mV_istore (L' := [.int (((((((x0 - ((mUsh x0 1) &&& 1431655765)) &&& 858993459) + ((mUsh (x0 - ((mUsh x0 1) &&& 1431655765)) 2) &&& 858993459)) + (mUsh (((x0 - ((mUsh x0 1) &&& 1431655765)) &&& 858993459) + ((mUsh (x0 - ((mUsh x0 1) &&& 1431655765)) 2) &&& 858993459)) 4)) &&& 252645135) + (mUsh (((((x0 - ((mUsh x0 1) &&& 1431655765)) &&& 858993459) + ((mUsh (x0 - ((mUsh x0 1) &&& 1431655765)) 2) &&& 858993459)) + (mUsh (((x0 - ((mUsh x0 1) &&& 1431655765)) &&& 858993459) + ((mUsh (x0 - ((mUsh x0 1) &&& 1431655765)) 2) &&& 858993459)) 4)) &&& 252645135) 8)) + (mUsh ((((((x0 - ((mUsh x0 1) &&& 1431655765)) &&& 858993459) + ((mUsh (x0 - ((mUsh x0 1) &&& 1431655765)) 2) &&& 858993459)) + (mUsh (((x0 - ((mUsh x0 1) &&& 1431655765)) &&& 858993459) + ((mUsh (x0 - ((mUsh x0 1) &&& 1431655765)) 2) &&& 858993459)) 4)) &&& 252645135) + (mUsh (((((x0 - ((mUsh x0 1) &&& 1431655765)) &&& 858993459) + ((mUsh (x0 - ((mUsh x0 1) &&& 1431655765)) 2) &&& 858993459)) + (mUsh (((x0 - ((mUsh x0 1) &&& 1431655765)) &&& 858993459) + ((mUsh (x0 - ((mUsh x0 1) &&& 1431655765)) 2) &&& 858993459)) 4)) &&& 252645135) 8)) 16))]) fJ6_bitCount_47 (by decide) rfl rfl ?_
  refine mV_iload fJ6_bitCount_48 rfl ?_
  refine mV_push fJ6_bitCount_49 ?_
  refine mV_iand fJ6_bitCount_51 ?_
  subst hr
  exact mV_iret rfl rfl fJ6_bitCount_52 hQ
theorem cJ6_bitCount (X : Nat × (Nat → Int32)) (I : mI) (s : Nat) (x0 : Int32) {res : Int32} (hr : rJ6_bitCount x0 = res) : mC X mJ6_bitCount 0 0 0 [.int x0] NN KK I (PP s) (mRet (some (.int res)) NN KK I (PP s)) :=
  mC_of (L0 := [.int x0]) rfl (Nat.le_of_ble_eq_true rfl) (wJ6_bitCount X I s x0 _ hr (mRet_ok _ _ _ _ _))
def r0_allPieces (I : mI) : Int32 := (((1 : Int32) <<< (I 8 6 &&& 31)) - 1)
set_option maxHeartbeats 4000000 in
set_option maxRecDepth 100000 in
theorem w0_allPieces (X : Nat × (Nat → Int32)) (I : mI) (s : Nat) (Q : mQ) {res : Int32} (hr : r0_allPieces I = res) (hQ : Q (some (.int res)) NN KK I (PP s)) : mV X m0_allPieces 0 0 0 0 [.ref 8] [] NN KK I (PP s) Q := by
  unfold r0_allPieces at hr
  refine mV_push f0_allPieces_0 ?_
  refine mV_aload f0_allPieces_1 rfl ?_
  refine mV_gI (I 8 6) f0_allPieces_2 (by decide) kk_8 rfl rfl ?_
  refine mV_ishl f0_allPieces_5 ?_
  refine mV_push f0_allPieces_6 ?_
  refine mV_isub f0_allPieces_7 ?_
  subst hr
  exact mV_iret rfl rfl f0_allPieces_8 hQ
theorem c0_allPieces (X : Nat × (Nat → Int32)) (I : mI) (s : Nat) {res : Int32} (hr : r0_allPieces I = res) : mC X m0_allPieces 0 0 0 [.ref 8] NN KK I (PP s) (mRet (some (.int res)) NN KK I (PP s)) :=
  mC_of (L0 := [.ref 8]) rfl (Nat.le_of_ble_eq_true rfl) (w0_allPieces X I s _ hr (mRet_ok _ _ _ _ _))
def lB5_tryOrders_36 (rc : mI → Int32 → Int32 → Int32 → Int32 → Option (mI)) (s : Nat) (k1 : Int32) (k2 : Int32) (k3 : Int32) (k4 : Int32) (k5 : Int32) (k6 : Int32) : Nat → Int32 → mI → Option ((mI) ⊕ (mI))
  | 0, _, _ => none
  | f + 1, y7, I => if (12 : Int32) ≤ (y7 : Int32) then some (.inr I) else if ((k2 &&& ((1 : Int32) <<< (y7 &&& 31))) : Int32) = (0 : Int32) then lB5_tryOrders_36 rc s k1 k2 k3 k4 k5 k6 f (y7 + 1) I else (mSto I 42 5 k3 y7).bind fun z0 => if (k2 : Int32) = (((1 : Int32) <<< (y7 &&& 31)) : Int32) then (mCpO (mW z0 1 8 k4) 42 5 43 5 0 0 5).bind fun z6 => some (.inl z6) else (r5_perform z0 s k1 y7 0).bind fun z1 => (r5_waitBehind z1.2 s y7).bind fun z2 => (rc z2.2 k1 (k2 &&& (((1 : Int32) <<< (y7 &&& 31)) ^^^ (-1))) (k3 + 1) (k4 + z2.1)).bind fun z3 => (mLd z3 36 12 y7).bind fun z4 => (mSto z3 36 12 y7 (z4 - 1)).bind fun z5 => lB5_tryOrders_36 rc s k1 k2 k3 k4 k5 k6 f (y7 + 1) (mW (mW z5 35 4 k5) 35 5 k6)
def rB5_tryOrders (rc : mI → Int32 → Int32 → Int32 → Int32 → Option (mI)) (I : mI) (s : Nat) (x0 : Int32) (x1 : Int32) (x2 : Int32) (x3 : Int32) : Option (mI) := if (5 : Int32) ≤ (x2 : Int32) then some I else if (x3 : Int32) < (I 1 8 : Int32) then (lB5_tryOrders_36 rc s x0 x1 x2 x3 (I 35 4) (I 35 5) FU 0 I).bind fun z0 => match z0 with | .inl rz0 => some rz0 | .inr wz0 => some wz0 else some I
set_option maxHeartbeats 4000000 in
set_option maxRecDepth 100000 in
theorem tB5_tryOrders_36 (X : Nat × (Nat → Int32)) (Q : mQ) (s : Nat) (rc : mI → Int32 → Int32 → Int32 → Int32 → Option (mI)) (dr : Nat) (hrc : ∀ (I : mI) (x0 x1 x2 x3 : Int32) (res : mI), rc I x0 x1 x2 x3 = some res → mC X m5_tryOrders dr 0 0 [.ref 1, .int x0, .int x1, .int x2, .int x3] NN KK I (PP s) (mRet none NN KK res (PP s))) (hs : mStg s) (k1 : Int32) (k2 : Int32) (k3 : Int32) (k4 : Int32) (k5 : Int32) (k6 : Int32) : ∀ (f : Nat) (y7 : Int32) (I : mI) (z : (mI) ⊕ (mI)), lB5_tryOrders_36 rc s k1 k2 k3 k4 k5 k6 f y7 I = some z → (∀ res, z = .inl res → Q none NN KK res (PP s)) → (∀ w, z = .inr w → mV X m5_tryOrders (dr + 5) 0 0 168 [.ref 1, .int k1, .int k2, .int k3, .int k4, .int k5, .int k6, mX0, mX0, mX0] [] NN KK w (PP s) Q) → mV X m5_tryOrders (dr + 5) 0 0 36 [.ref 1, .int k1, .int k2, .int k3, .int k4, .int k5, .int k6, .int y7, mX0, mX0] [] NN KK I (PP s) Q := by
  intro f
  induction f with
  | zero => intro y7 I z hr hret hk; cases hr
  | succ f ih =>
    intro y7 I z hr hret hk
    unfold lB5_tryOrders_36 at hr
    refine mV_iload f5_tryOrders_36 rfl ?_
    refine mV_push f5_tryOrders_38 ?_
    refine mV_icmp_ge f5_tryOrders_40 (fun h0 => ?_) (fun h0 => ?_)
    · rw [if_pos h0] at hr
      have hr := Option.some.inj hr; subst hr
      refine mV_drop (L' := [.ref 1, .int k1, .int k2, .int k3, .int k4, .int k5, .int k6, mX0, mX0, mX0]) (mSub_k (mSub_k (mSub_k (mSub_k (mSub_k (mSub_k (mSub_k (mSub_x (mSub_x (mSub_x mSub_n)))))))))) ?_
      exact hk _ rfl
    · rw [if_neg h0] at hr
      refine mV_push f5_tryOrders_43 ?_
      refine mV_iload f5_tryOrders_44 rfl ?_
      refine mV_ishl f5_tryOrders_46 ?_
      refine mV_istore (L' := [.ref 1, .int k1, .int k2, .int k3, .int k4, .int k5, .int k6, .int y7, .int ((1 : Int32) <<< (y7 &&& 31)), mX0]) f5_tryOrders_47 (by decide) rfl rfl ?_
      refine mV_iload f5_tryOrders_49 rfl ?_
      refine mV_iload f5_tryOrders_50 rfl ?_
      refine mV_iand f5_tryOrders_52 ?_
      refine mV_if_ne f5_tryOrders_53 (fun h1 => ?_) (fun h1 => ?_)
      · rw [if_neg h1] at hr
        refine mV_aload f5_tryOrders_59 rfl ?_
        refine mV_getP f5_tryOrders_60 (by decide) kk_1 rfl (pp_1_6 _) ?_
        refine mV_iload f5_tryOrders_63 rfl ?_
        refine mV_iload f5_tryOrders_64 rfl ?_
        obtain ⟨z0, hz0, hr⟩ := mBind hr
        refine mV_stO f5_tryOrders_66 (by decide) kk_42 hz0 ?_
        refine mV_iload f5_tryOrders_67 rfl ?_
        refine mV_iload f5_tryOrders_68 rfl ?_
        refine mV_icmp_ne f5_tryOrders_70 (fun h2 => ?_) (fun h2 => ?_)
        · rw [if_neg h2] at hr
          refine mV_aload f5_tryOrders_94 rfl ?_
          refine mV_iload f5_tryOrders_95 rfl ?_
          refine mV_iload f5_tryOrders_96 rfl ?_
          refine mV_push f5_tryOrders_98 ?_
          obtain ⟨z1, hz1, hr⟩ := mBind hr
          refine mV_cV f5_tryOrders_99 tg_m5_perform mCls5 (by decide) kk_1 (mC_deep (c5_perform X z0 s hs k1 y7 0 hz1) (by omega)) rfl rfl (Nat.le_of_ble_eq_true rfl) ?_
          refine mV_pop f5_tryOrders_102 rfl ?_
          refine mV_aload f5_tryOrders_103 rfl ?_
          refine mV_iload f5_tryOrders_104 rfl ?_
          obtain ⟨z2, hz2, hr⟩ := mBind hr
          refine mV_cV f5_tryOrders_106 tg_m5_waitBehind mCls5 (by decide) kk_1 (mC_deep (c5_waitBehind X z1.2 s hs y7 hz2) (by omega)) rfl rfl (Nat.le_of_ble_eq_true rfl) ?_
          refine mV_istore (L' := [.ref 1, .int k1, .int k2, .int k3, .int k4, .int k5, .int k6, .int y7, .int ((1 : Int32) <<< (y7 &&& 31)), .int z2.1]) f5_tryOrders_109 (by decide) rfl rfl ?_
          refine mV_aload f5_tryOrders_111 rfl ?_
          refine mV_iload f5_tryOrders_112 rfl ?_
          refine mV_iload f5_tryOrders_113 rfl ?_
          refine mV_iload f5_tryOrders_114 rfl ?_
          refine mV_push f5_tryOrders_116 ?_
          refine mV_ixor f5_tryOrders_117 ?_
          refine mV_iand f5_tryOrders_118 ?_
          refine mV_iload f5_tryOrders_119 rfl ?_
          refine mV_push f5_tryOrders_120 ?_
          refine mV_iadd f5_tryOrders_121 ?_
          refine mV_iload f5_tryOrders_122 rfl ?_
          refine mV_iload f5_tryOrders_124 rfl ?_
          refine mV_iadd f5_tryOrders_126 ?_
          obtain ⟨z3, hz3, hr⟩ := mBind hr
          refine mV_cV f5_tryOrders_127 tg_m5_tryOrders mCls5 (by decide) kk_1 (mC_deep (hrc z2.2 k1 (k2 &&& (((1 : Int32) <<< (y7 &&& 31)) ^^^ (-1))) (k3 + 1) (k4 + z2.1) z3 hz3) (by omega)) rfl rfl (Nat.le_of_ble_eq_true rfl) ?_
          refine mV_aload f5_tryOrders_130 rfl ?_
          refine mV_getP f5_tryOrders_131 (by decide) kk_1 rfl (pp_1_1 _) ?_
          refine mV_getP f5_tryOrders_134 (by decide) kk_35 rfl (pp_35_0 _) ?_
          refine mV_iload f5_tryOrders_137 rfl ?_
          refine mV_dup2 f5_tryOrders_139 rfl rfl ?_
          obtain ⟨z4, hz4, hr⟩ := mBind hr
          refine mV_ldO f5_tryOrders_140 (by decide) kk_36 hz4 ?_
          refine mV_push f5_tryOrders_141 ?_
          refine mV_isub f5_tryOrders_142 ?_
          obtain ⟨z5, hz5, hr⟩ := mBind hr
          refine mV_stO f5_tryOrders_143 (by decide) kk_36 hz5 ?_
          refine mV_aload f5_tryOrders_144 rfl ?_
          refine mV_getP f5_tryOrders_145 (by decide) kk_1 rfl (pp_1_1 _) ?_
          refine mV_iload f5_tryOrders_148 rfl ?_
          refine mV_putI f5_tryOrders_150 (by decide) kk_35 rfl rfl ?_
          refine mV_aload f5_tryOrders_153 rfl ?_
          refine mV_getP f5_tryOrders_154 (by decide) kk_1 rfl (pp_1_1 _) ?_
          refine mV_iload f5_tryOrders_157 rfl ?_
          refine mV_putI f5_tryOrders_159 (by decide) kk_35 rfl rfl ?_
          refine mV_iinc (y := (y7 + 1)) (L' := [.ref 1, .int k1, .int k2, .int k3, .int k4, .int k5, .int k6, .int (y7 + 1), .int ((1 : Int32) <<< (y7 &&& 31)), .int z2.1]) f5_tryOrders_162 rfl rfl (by decide) rfl rfl ?_
          refine mV_goto f5_tryOrders_165 ?_
          refine mV_drop (L' := [.ref 1, .int k1, .int k2, .int k3, .int k4, .int k5, .int k6, .int (y7 + 1), mX0, mX0]) (mSub_k (mSub_k (mSub_k (mSub_k (mSub_k (mSub_k (mSub_k (mSub_k (mSub_x (mSub_x mSub_n)))))))))) ?_
          exact ih (y7 + 1) (mW (mW z5 35 4 k5) 35 5 k6) _ hr hret hk
        · rw [if_pos h2] at hr
          refine mV_aload f5_tryOrders_73 rfl ?_
          refine mV_iload f5_tryOrders_74 rfl ?_
          refine mV_putI f5_tryOrders_76 (by decide) kk_1 rfl rfl ?_
          refine mV_aload f5_tryOrders_79 rfl ?_
          refine mV_getP f5_tryOrders_80 (by decide) kk_1 rfl (pp_1_6 _) ?_
          refine mV_push f5_tryOrders_83 ?_
          refine mV_aload f5_tryOrders_84 rfl ?_
          refine mV_getP f5_tryOrders_85 (by decide) kk_1 rfl (pp_1_7 _) ?_
          refine mV_push f5_tryOrders_88 ?_
          refine mV_push f5_tryOrders_89 ?_
          obtain ⟨z6, hz6, hr⟩ := mBind hr
          refine mV_cpO f5_tryOrders_90 (by decide) (by decide) kk_42 kk_43 hz6 (Nat.le_of_ble_eq_true rfl) ?_
          have hr := Option.some.inj hr; subst hr; have hQ := hret _ rfl
          exact mV_vret rfl f5_tryOrders_93 hQ
      · rw [if_pos h1] at hr
        refine mV_goto f5_tryOrders_56 ?_
        refine mV_iinc (y := (y7 + 1)) (L' := [.ref 1, .int k1, .int k2, .int k3, .int k4, .int k5, .int k6, .int (y7 + 1), .int ((1 : Int32) <<< (y7 &&& 31)), mX0]) f5_tryOrders_162 rfl rfl (by decide) rfl rfl ?_
        refine mV_goto f5_tryOrders_165 ?_
        refine mV_drop (L' := [.ref 1, .int k1, .int k2, .int k3, .int k4, .int k5, .int k6, .int (y7 + 1), mX0, mX0]) (mSub_k (mSub_k (mSub_k (mSub_k (mSub_k (mSub_k (mSub_k (mSub_k (mSub_x (mSub_x mSub_n)))))))))) ?_
        exact ih (y7 + 1) I _ hr hret hk
set_option maxHeartbeats 4000000 in
set_option maxRecDepth 100000 in
theorem wB5_tryOrders (X : Nat × (Nat → Int32)) (I : mI) (s : Nat) (hs : mStg s) (rc : mI → Int32 → Int32 → Int32 → Int32 → Option (mI)) (dr : Nat) (hrc : ∀ (I : mI) (x0 x1 x2 x3 : Int32) (res : mI), rc I x0 x1 x2 x3 = some res → mC X m5_tryOrders dr 0 0 [.ref 1, .int x0, .int x1, .int x2, .int x3] NN KK I (PP s) (mRet none NN KK res (PP s))) (x0 : Int32) (x1 : Int32) (x2 : Int32) (x3 : Int32) (Q : mQ) {res : mI} (hr : rB5_tryOrders rc I s x0 x1 x2 x3 = some res) (hQ : Q none NN KK res (PP s)) : mV X m5_tryOrders (dr + 5) 0 0 0 [.ref 1, .int x0, .int x1, .int x2, .int x3, mX0, mX0, mX0, mX0, mX0] [] NN KK I (PP s) Q := by
  unfold rB5_tryOrders at hr
  refine mV_iload f5_tryOrders_0 rfl ?_
  refine mV_push f5_tryOrders_1 ?_
  refine mV_icmp_ge f5_tryOrders_2 (fun h0 => ?_) (fun h0 => ?_)
  · rw [if_pos h0] at hr
    have hr := Option.some.inj hr; subst hr
    exact mV_vret rfl f5_tryOrders_14 hQ
  · rw [if_neg h0] at hr
    refine mV_iload f5_tryOrders_5 rfl ?_
    refine mV_aload f5_tryOrders_7 rfl ?_
    refine mV_gI (I 1 8) f5_tryOrders_8 (by decide) kk_1 rfl rfl ?_
    refine mV_icmp_lt f5_tryOrders_11 (fun h1 => ?_) (fun h1 => ?_)
    · rw [if_pos h1] at hr
      refine mV_aload f5_tryOrders_15 rfl ?_
      refine mV_getP f5_tryOrders_16 (by decide) kk_1 rfl (pp_1_1 _) ?_
      refine mV_gI (I 35 4) f5_tryOrders_19 (by decide) kk_35 rfl rfl ?_
      refine mV_istore (L' := [.ref 1, .int x0, .int x1, .int x2, .int x3, .int (I 35 4), mX0, mX0, mX0, mX0]) f5_tryOrders_22 (by decide) rfl rfl ?_
      refine mV_aload f5_tryOrders_24 rfl ?_
      refine mV_getP f5_tryOrders_25 (by decide) kk_1 rfl (pp_1_1 _) ?_
      refine mV_gI (I 35 5) f5_tryOrders_28 (by decide) kk_35 rfl rfl ?_
      refine mV_istore (L' := [.ref 1, .int x0, .int x1, .int x2, .int x3, .int (I 35 4), .int (I 35 5), mX0, mX0, mX0]) f5_tryOrders_31 (by decide) rfl rfl ?_
      refine mV_push f5_tryOrders_33 ?_
      refine mV_istore (L' := [.ref 1, .int x0, .int x1, .int x2, .int x3, .int (I 35 4), .int (I 35 5), .int 0, mX0, mX0]) f5_tryOrders_34 (by decide) rfl rfl ?_
      obtain ⟨z0, hz0, hr⟩ := mBind hr
      refine tB5_tryOrders_36 X Q s rc dr hrc hs x0 x1 x2 x3 (I 35 4) (I 35 5) FU 0 I _ hz0 (fun res ez0 => ?_) (fun wz0 ez0 => ?_)
      · rw [ez0] at hr; have hr := Option.some.inj hr; subst hr; exact hQ
      rw [ez0] at hr
      dsimp only at hr
      have hr := Option.some.inj hr; subst hr
      exact mV_vret rfl f5_tryOrders_168 hQ
    · rw [if_neg h1] at hr
      have hr := Option.some.inj hr; subst hr
      exact mV_vret rfl f5_tryOrders_14 hQ
theorem cB5_tryOrders (X : Nat × (Nat → Int32)) (I : mI) (s : Nat) (hs : mStg s) (rc : mI → Int32 → Int32 → Int32 → Int32 → Option (mI)) (dr : Nat) (hrc : ∀ (I : mI) (x0 x1 x2 x3 : Int32) (res : mI), rc I x0 x1 x2 x3 = some res → mC X m5_tryOrders dr 0 0 [.ref 1, .int x0, .int x1, .int x2, .int x3] NN KK I (PP s) (mRet none NN KK res (PP s))) (x0 : Int32) (x1 : Int32) (x2 : Int32) (x3 : Int32) {res : mI} (hr : rB5_tryOrders rc I s x0 x1 x2 x3 = some res) : mC X m5_tryOrders (dr + 5) 0 0 [.ref 1, .int x0, .int x1, .int x2, .int x3] NN KK I (PP s) (mRet none NN KK res (PP s)) :=
  mC_of (L0 := [.ref 1, .int x0, .int x1, .int x2, .int x3, mX0, mX0, mX0, mX0, mX0]) rfl (Nat.le_of_ble_eq_true rfl) (wB5_tryOrders X I s hs rc dr hrc x0 x1 x2 x3 _ hr (mRet_ok _ _ _ _ _))
def r5_tryOrders : Nat → mI → Nat → Int32 → Int32 → Int32 → Int32 → Option (mI)
  | 0, _, _, _, _, _, _ => none
  | f + 1, I, s, x0, x1, x2, x3 => rB5_tryOrders (fun I x0 x1 x2 x3 => r5_tryOrders f I s x0 x1 x2 x3) I s x0 x1 x2 x3
theorem c5_tryOrders (X : Nat × (Nat → Int32)) (s : Nat) (hs : mStg s) : ∀ (f : Nat) (I : mI) (x0 x1 x2 x3 : Int32) (res : mI), r5_tryOrders f I s x0 x1 x2 x3 = some res → mC X m5_tryOrders (5 * f) 0 0 [.ref 1, .int x0, .int x1, .int x2, .int x3] NN KK I (PP s) (mRet none NN KK res (PP s)) := by
  intro f
  induction f with
  | zero => intro I x0 x1 x2 x3 res hr; cases hr
  | succ f ih =>
    intro I x0 x1 x2 x3 res hr
    have := cB5_tryOrders X I s hs (fun I x0 x1 x2 x3 => r5_tryOrders f I s x0 x1 x2 x3) (5 * f) ih x0 x1 x2 x3 hr
    exact this
def l5_shortestOf_28 (I : mI) (s : Nat) (k2 : Int32) : Nat → Int32 → Int32 → Option (Int32)
  | 0, _, _ => none
  | f + 1, y3, y4 => if (12 : Int32) ≤ (y4 : Int32) then some y3 else (if ((((k2 : Int32) >>> (y4 &&& 31)) &&& 1) : Int32) = (0 : Int32) then some y3 else (mLd I 9 12 y4).bind fun z1 => some (y3 + z1) : Option (Int32)).bind fun z0 => l5_shortestOf_28 I s k2 f z0 (y4 + 1)
def r5_shortestOf (I : mI) (s : Nat) (x0 : Int32) (x1 : Int32) : Option (Int32 × mI) := (r5_fallAsleep I s).bind fun z0 => (rB5_tryOrders (fun J y0 y1 y2 y3 => r5_tryOrders 7 J 35 y0 y1 y2 y3) (mW z0 1 8 300) 35 x0 x1 0 0).bind fun z1 => (l5_shortestOf_28 z1 35 x1 FU (z1 1 8) 0).bind fun z2 => some (z2, z1)
set_option maxHeartbeats 4000000 in
set_option maxRecDepth 100000 in
theorem t5_shortestOf_28 (X : Nat × (Nat → Int32)) (Q : mQ) (s : Nat) (I : mI) (hs : mStg s) (k2 : Int32) : ∀ (f : Nat) (y3 : Int32) (y4 : Int32) (z : Int32), l5_shortestOf_28 I s k2 f y3 y4 = some z → mV X m5_shortestOf 41 0 0 66 [.ref 1, mX0, .int k2, .int z, mX0] [] NN KK I (PP 35) Q → mV X m5_shortestOf 41 0 0 28 [.ref 1, mX0, .int k2, .int y3, .int y4] [] NN KK I (PP 35) Q := by
  intro f
  induction f with
  | zero => intro y3 y4 z hr hk; cases hr
  | succ f ih =>
    intro y3 y4 z hr hk
    unfold l5_shortestOf_28 at hr
    refine mV_iload f5_shortestOf_28 rfl ?_
    refine mV_push f5_shortestOf_30 ?_
    refine mV_icmp_ge f5_shortestOf_32 (fun h0 => ?_) (fun h0 => ?_)
    · rw [if_pos h0] at hr
      have hr := Option.some.inj hr; subst hr
      refine mV_drop (L' := [.ref 1, mX0, .int k2, .int y3, mX0]) (mSub_k (mSub_x (mSub_k (mSub_k (mSub_x mSub_n))))) ?_
      exact hk
    · rw [if_neg h0] at hr
      refine mV_iload f5_shortestOf_35 rfl ?_
      refine mV_iload f5_shortestOf_36 rfl ?_
      refine mV_ishr f5_shortestOf_38 ?_
      refine mV_push f5_shortestOf_39 ?_
      refine mV_iand f5_shortestOf_40 ?_
      obtain ⟨z0, hz0, hr⟩ := mBind hr
      have keyz0 : mV X m5_shortestOf 41 0 0 60 [.ref 1, mX0, .int k2, .int z0, .int y4] [] NN KK I (PP 35) Q := by
        refine mV_iinc (y := (y4 + 1)) (L' := [.ref 1, mX0, .int k2, .int z0, .int (y4 + 1)]) f5_shortestOf_60 rfl rfl (by decide) rfl rfl ?_
        refine mV_goto f5_shortestOf_63 ?_
        exact ih z0 (y4 + 1) _ hr hk
      clear hr
      have hr := hz0
      clear hz0
      refine mV_if_eq f5_shortestOf_41 (fun h1 => ?_) (fun h1 => ?_)
      · rw [if_pos h1] at hr
        have hr := Option.some.inj hr; subst hr
        exact keyz0
      · rw [if_neg h1] at hr
        refine mV_iload f5_shortestOf_44 rfl ?_
        refine mV_aload f5_shortestOf_45 rfl ?_
        refine mV_getP f5_shortestOf_46 (by decide) kk_1 rfl (pp_1_0 _) ?_
        refine mV_getP f5_shortestOf_49 (by decide) kk_2 rfl (pp_2_1 _) ?_
        refine mV_getP f5_shortestOf_52 (by decide) kk_8 rfl (pp_8_0 _) ?_
        refine mV_iload f5_shortestOf_55 rfl ?_
        obtain ⟨z1, hz1, hr⟩ := mBind hr
        refine mV_ldO f5_shortestOf_57 (by decide) kk_9 hz1 ?_
        refine mV_iadd f5_shortestOf_58 ?_
        refine mV_istore (L' := [.ref 1, mX0, .int k2, .int (y3 + z1), .int y4]) f5_shortestOf_59 (by decide) rfl rfl ?_
        have hr := Option.some.inj hr; subst hr
        exact keyz0
set_option maxHeartbeats 4000000 in
set_option maxRecDepth 100000 in
theorem w5_shortestOf (X : Nat × (Nat → Int32)) (I : mI) (s : Nat) (hs : mStg s) (x0 : Int32) (x1 : Int32) (Q : mQ) {res : Int32 × mI} (hr : r5_shortestOf I s x0 x1 = some res) (hQ : Q (some (.int res.1)) NN KK res.2 (PP 35)) : mV X m5_shortestOf 41 0 0 0 [.ref 1, .int x0, .int x1, mX0, mX0] [] NN KK I (PP s) Q := by
  unfold r5_shortestOf at hr
  refine mV_aload f5_shortestOf_0 rfl ?_
  obtain ⟨z0, hz0, hr⟩ := mBind hr
  refine mV_cV f5_shortestOf_1 tg_m5_fallAsleep mCls5 (by decide) kk_1 (mC_deep (c5_fallAsleep X I s hz0) (by decide)) rfl rfl (Nat.le_of_ble_eq_true rfl) ?_
  refine mV_pop f5_shortestOf_4 rfl ?_
  refine mV_aload f5_shortestOf_5 rfl ?_
  refine mV_push f5_shortestOf_6 ?_
  refine mV_putI f5_shortestOf_9 (by decide) kk_1 rfl rfl ?_
  refine mV_aload f5_shortestOf_12 rfl ?_
  refine mV_iload f5_shortestOf_13 rfl ?_
  refine mV_iload f5_shortestOf_14 rfl ?_
  refine mV_push f5_shortestOf_15 ?_
  refine mV_push f5_shortestOf_16 ?_
  obtain ⟨z1, hz1, hr⟩ := mBind hr
  refine mV_cV f5_shortestOf_17 tg_m5_tryOrders mCls5 (by decide) kk_1 (mC_deep (cB5_tryOrders X (mW z0 1 8 300) 35 mStg_35 (fun J y0 y1 y2 y3 => r5_tryOrders 7 J 35 y0 y1 y2 y3) (5 * 7) (c5_tryOrders X 35 mStg_35 7) x0 x1 0 0 hz1) (by omega)) rfl rfl (Nat.le_of_ble_eq_true rfl) ?_
  refine mV_aload f5_shortestOf_20 rfl ?_
  refine mV_gI (z1 1 8) f5_shortestOf_21 (by decide) kk_1 rfl rfl ?_
  refine mV_istore (L' := [.ref 1, .int x0, .int x1, .int (z1 1 8), mX0]) f5_shortestOf_24 (by decide) rfl rfl ?_
  refine mV_push f5_shortestOf_25 ?_
  refine mV_istore (L' := [.ref 1, .int x0, .int x1, .int (z1 1 8), .int 0]) f5_shortestOf_26 (by decide) rfl rfl ?_
  obtain ⟨z2, hz2, hr⟩ := mBind hr
  refine mV_drop (L' := [.ref 1, mX0, .int x1, .int (z1 1 8), .int 0]) (mSub_k (mSub_x (mSub_k (mSub_k (mSub_k mSub_n))))) ?_
  refine t5_shortestOf_28 X Q 35 z1 mStg_35 x1 FU (z1 1 8) 0 _ hz2 ?_
  refine mV_iload f5_shortestOf_66 rfl ?_
  have hr := Option.some.inj hr; subst hr
  exact mV_iret rfl rfl f5_shortestOf_67 hQ
theorem c5_shortestOf (X : Nat × (Nat → Int32)) (I : mI) (s : Nat) (hs : mStg s) (x0 : Int32) (x1 : Int32) {res : Int32 × mI} (hr : r5_shortestOf I s x0 x1 = some res) : mC X m5_shortestOf 41 0 0 [.ref 1, .int x0, .int x1] NN KK I (PP s) (mRet (some (.int res.1)) NN KK res.2 (PP 35)) :=
  mC_of (L0 := [.ref 1, .int x0, .int x1, mX0, mX0]) rfl (Nat.le_of_ble_eq_true rfl) (w5_shortestOf X I s hs x0 x1 _ hr (mRet_ok _ _ _ _ _))
def r9_lasts (I : mI) (s : Nat) (x0 : Int32) (x1 : Int32) (x2 : Int32) : Option (Int32 × mI × Nat) := if ((r0_hasPlayer I x0) : Int32) = (0 : Int32) then some ((-1), I, s) else if ((x1 &&& ((r0_allPieces I) ^^^ (-1))) : Int32) = (0 : Int32) then if ((rJ6_bitCount x1) : Int32) < (1 : Int32) then some ((-1), I, s) else if (5 : Int32) < ((rJ6_bitCount x1) : Int32) then some ((-1), I, s) else if (x2 : Int32) = (0 : Int32) then (r5_shortestOf I s x0 x1).bind fun z0 => (if (x2 : Int32) = (0 : Int32) then some z0.1 else (mLd z0.2 43 5 (x2 - 10)).bind fun z2 => some z2 : Option (Int32)).bind fun z1 => some (z1, z0.2, 35) else if (x2 : Int32) < (10 : Int32) then some ((-1), I, s) else if (x2 : Int32) < ((10 + (rJ6_bitCount x1)) : Int32) then (r5_shortestOf I s x0 x1).bind fun z3 => (if (x2 : Int32) = (0 : Int32) then some z3.1 else (mLd z3.2 43 5 (x2 - 10)).bind fun z5 => some z5 : Option (Int32)).bind fun z4 => some (z4, z3.2, 35) else some ((-1), I, s) else some ((-1), I, s)
set_option maxHeartbeats 4000000 in
set_option maxRecDepth 100000 in
theorem w9_lasts (X : Nat × (Nat → Int32)) (I : mI) (s : Nat) (hs : mStg s) (x0 : Int32) (x1 : Int32) (x2 : Int32) (Q : mQ) {res : Int32 × mI × Nat} (hr : r9_lasts I s x0 x1 x2 = some res) (hQ : Q (some (.int res.1)) NN KK res.2.1 (PP res.2.2)) : mV X m9_lasts 42 0 0 0 [.ref 0, .int x0, .int x1, .int x2, mX0, mX0] [] NN KK I (PP s) Q := by
  unfold r9_lasts at hr
  refine mV_iload f9_lasts_0 rfl ?_
  refine mV_cS f9_lasts_1 tg_mJ6_bitCount (mC_deep (cJ6_bitCount X I s x1 rfl) (by decide)) rfl rfl (Nat.le_of_ble_eq_true rfl) ?_
  refine mV_istore (L' := [.ref 0, .int x0, .int x1, .int x2, .int (rJ6_bitCount x1), mX0]) f9_lasts_4 (by decide) rfl rfl ?_
  refine mV_aload f9_lasts_6 rfl ?_
  refine mV_getP f9_lasts_7 (by decide) kk_0 rfl (pp_0_1 _) ?_
  refine mV_getP f9_lasts_10 (by decide) kk_2 rfl (pp_2_1 _) ?_
  refine mV_iload f9_lasts_13 rfl ?_
  refine mV_cV f9_lasts_14 tg_m0_hasPlayer mCls0 (by decide) kk_8 (mC_deep (c0_hasPlayer X I s x0 rfl) (by decide)) rfl rfl (Nat.le_of_ble_eq_true rfl) ?_
  refine mV_if_eq f9_lasts_17 (fun h0 => ?_) (fun h0 => ?_)
  · rw [if_pos h0] at hr
    refine mV_push f9_lasts_37 ?_
    have hr := Option.some.inj hr; subst hr
    exact mV_iret rfl rfl f9_lasts_38 hQ
  · rw [if_neg h0] at hr
    refine mV_iload f9_lasts_20 rfl ?_
    refine mV_aload f9_lasts_21 rfl ?_
    refine mV_getP f9_lasts_22 (by decide) kk_0 rfl (pp_0_1 _) ?_
    refine mV_getP f9_lasts_25 (by decide) kk_2 rfl (pp_2_1 _) ?_
    refine mV_cV f9_lasts_28 tg_m0_allPieces mCls0 (by decide) kk_8 (mC_deep (c0_allPieces X I s rfl) (by decide)) rfl rfl (Nat.le_of_ble_eq_true rfl) ?_
    refine mV_push f9_lasts_31 ?_
    refine mV_ixor f9_lasts_32 ?_
    refine mV_iand f9_lasts_33 ?_
    refine mV_if_eq f9_lasts_34 (fun h1 => ?_) (fun h1 => ?_)
    · rw [if_pos h1] at hr
      refine mV_iload f9_lasts_39 rfl ?_
      refine mV_push f9_lasts_41 ?_
      refine mV_icmp_lt f9_lasts_42 (fun h2 => ?_) (fun h2 => ?_)
      · rw [if_pos h2] at hr
        refine mV_push f9_lasts_70 ?_
        have hr := Option.some.inj hr; subst hr
        exact mV_iret rfl rfl f9_lasts_71 hQ
      · rw [if_neg h2] at hr
        refine mV_iload f9_lasts_45 rfl ?_
        refine mV_push f9_lasts_47 ?_
        refine mV_icmp_gt f9_lasts_48 (fun h3 => ?_) (fun h3 => ?_)
        · rw [if_pos h3] at hr
          refine mV_push f9_lasts_70 ?_
          have hr := Option.some.inj hr; subst hr
          exact mV_iret rfl rfl f9_lasts_71 hQ
        · rw [if_neg h3] at hr
          refine mV_iload f9_lasts_51 rfl ?_
          refine mV_if_eq f9_lasts_52 (fun h4 => ?_) (fun h4 => ?_)
          · rw [if_pos h4] at hr
            refine mV_aload f9_lasts_72 rfl ?_
            refine mV_getP f9_lasts_73 (by decide) kk_0 rfl (pp_0_0 _) ?_
            refine mV_iload f9_lasts_76 rfl ?_
            refine mV_iload f9_lasts_77 rfl ?_
            obtain ⟨z0, hz0, hr⟩ := mBind hr
            refine mV_cV f9_lasts_78 tg_m5_shortestOf mCls5 (by decide) kk_1 (mC_deep (c5_shortestOf X I s hs x0 x1 hz0) (by decide)) rfl rfl (Nat.le_of_ble_eq_true rfl) ?_
            refine mV_istore (L' := [.ref 0, .int x0, .int x1, .int x2, .int (rJ6_bitCount x1), .int z0.1]) f9_lasts_81 (by decide) rfl rfl ?_
            refine mV_iload f9_lasts_83 rfl ?_
            obtain ⟨z1, hz1, hr⟩ := mBind hr
            have keyz1 : mV X m9_lasts 42 0 0 104 [.ref 0, mX0, mX0, mX0, mX0, mX0] [.int z1] NN KK z0.2 (PP 35) Q := by
              have hr := Option.some.inj hr; subst hr
              exact mV_iret rfl rfl f9_lasts_104 hQ
            clear hr
            have hr := hz1
            clear hz1
            refine mV_if_ne f9_lasts_84 (fun h5 => ?_) (fun h5 => ?_)
            · rw [if_neg h5] at hr
              refine mV_aload f9_lasts_92 rfl ?_
              refine mV_getP f9_lasts_93 (by decide) kk_0 rfl (pp_0_0 _) ?_
              refine mV_getP f9_lasts_96 (by decide) kk_1 rfl (pp_1_7 _) ?_
              refine mV_iload f9_lasts_99 rfl ?_
              refine mV_push f9_lasts_100 ?_
              refine mV_isub f9_lasts_102 ?_
              obtain ⟨z2, hz2, hr⟩ := mBind hr
              refine mV_ldO f9_lasts_103 (by decide) kk_43 hz2 ?_
              have hr := Option.some.inj hr; subst hr
              refine mV_drop (L' := [.ref 0, mX0, mX0, mX0, mX0, mX0]) (mSub_k (mSub_x (mSub_x (mSub_x (mSub_x (mSub_x mSub_n)))))) ?_
              exact keyz1
            · rw [if_pos h5] at hr
              refine mV_iload f9_lasts_87 rfl ?_
              refine mV_goto f9_lasts_89 ?_
              have hr := Option.some.inj hr; subst hr
              refine mV_drop (L' := [.ref 0, mX0, mX0, mX0, mX0, mX0]) (mSub_k (mSub_x (mSub_x (mSub_x (mSub_x (mSub_x mSub_n)))))) ?_
              exact keyz1
          · rw [if_neg h4] at hr
            refine mV_iload f9_lasts_55 rfl ?_
            refine mV_push f9_lasts_56 ?_
            refine mV_icmp_lt f9_lasts_58 (fun h6 => ?_) (fun h6 => ?_)
            · rw [if_pos h6] at hr
              refine mV_push f9_lasts_70 ?_
              have hr := Option.some.inj hr; subst hr
              exact mV_iret rfl rfl f9_lasts_71 hQ
            · rw [if_neg h6] at hr
              refine mV_iload f9_lasts_61 rfl ?_
              refine mV_push f9_lasts_62 ?_
              refine mV_iload f9_lasts_64 rfl ?_
              refine mV_iadd f9_lasts_66 ?_
              refine mV_icmp_lt f9_lasts_67 (fun h7 => ?_) (fun h7 => ?_)
              · rw [if_pos h7] at hr
                refine mV_aload f9_lasts_72 rfl ?_
                refine mV_getP f9_lasts_73 (by decide) kk_0 rfl (pp_0_0 _) ?_
                refine mV_iload f9_lasts_76 rfl ?_
                refine mV_iload f9_lasts_77 rfl ?_
                obtain ⟨z3, hz3, hr⟩ := mBind hr
                refine mV_cV f9_lasts_78 tg_m5_shortestOf mCls5 (by decide) kk_1 (mC_deep (c5_shortestOf X I s hs x0 x1 hz3) (by decide)) rfl rfl (Nat.le_of_ble_eq_true rfl) ?_
                refine mV_istore (L' := [.ref 0, .int x0, .int x1, .int x2, .int (rJ6_bitCount x1), .int z3.1]) f9_lasts_81 (by decide) rfl rfl ?_
                refine mV_iload f9_lasts_83 rfl ?_
                obtain ⟨z4, hz4, hr⟩ := mBind hr
                have keyz4 : mV X m9_lasts 42 0 0 104 [.ref 0, mX0, mX0, mX0, mX0, mX0] [.int z4] NN KK z3.2 (PP 35) Q := by
                  have hr := Option.some.inj hr; subst hr
                  exact mV_iret rfl rfl f9_lasts_104 hQ
                clear hr
                have hr := hz4
                clear hz4
                refine mV_if_ne f9_lasts_84 (fun h8 => ?_) (fun h8 => ?_)
                · rw [if_neg h8] at hr
                  refine mV_aload f9_lasts_92 rfl ?_
                  refine mV_getP f9_lasts_93 (by decide) kk_0 rfl (pp_0_0 _) ?_
                  refine mV_getP f9_lasts_96 (by decide) kk_1 rfl (pp_1_7 _) ?_
                  refine mV_iload f9_lasts_99 rfl ?_
                  refine mV_push f9_lasts_100 ?_
                  refine mV_isub f9_lasts_102 ?_
                  obtain ⟨z5, hz5, hr⟩ := mBind hr
                  refine mV_ldO f9_lasts_103 (by decide) kk_43 hz5 ?_
                  have hr := Option.some.inj hr; subst hr
                  refine mV_drop (L' := [.ref 0, mX0, mX0, mX0, mX0, mX0]) (mSub_k (mSub_x (mSub_x (mSub_x (mSub_x (mSub_x mSub_n)))))) ?_
                  exact keyz4
                · rw [if_pos h8] at hr
                  refine mV_iload f9_lasts_87 rfl ?_
                  refine mV_goto f9_lasts_89 ?_
                  have hr := Option.some.inj hr; subst hr
                  refine mV_drop (L' := [.ref 0, mX0, mX0, mX0, mX0, mX0]) (mSub_k (mSub_x (mSub_x (mSub_x (mSub_x (mSub_x mSub_n)))))) ?_
                  exact keyz4
              · rw [if_neg h7] at hr
                refine mV_push f9_lasts_70 ?_
                have hr := Option.some.inj hr; subst hr
                exact mV_iret rfl rfl f9_lasts_71 hQ
    · rw [if_neg h1] at hr
      refine mV_push f9_lasts_37 ?_
      have hr := Option.some.inj hr; subst hr
      exact mV_iret rfl rfl f9_lasts_38 hQ
theorem c9_lasts (X : Nat × (Nat → Int32)) (I : mI) (s : Nat) (hs : mStg s) (x0 : Int32) (x1 : Int32) (x2 : Int32) {res : Int32 × mI × Nat} (hr : r9_lasts I s x0 x1 x2 = some res) : mC X m9_lasts 42 0 0 [.ref 0, .int x0, .int x1, .int x2] NN KK I (PP s) (mRet (some (.int res.1)) NN KK res.2.1 (PP res.2.2)) :=
  mC_of (L0 := [.ref 0, .int x0, .int x1, .int x2, mX0, mX0]) rfl (Nat.le_of_ble_eq_true rfl) (w9_lasts X I s hs x0 x1 x2 _ hr (mRet_ok _ _ _ _ _))
def r2_isChord (x0 : Int32) : Int32 := if (x0 : Int32) ≤ (0 : Int32) then 0 else if (4095 : Int32) < (x0 : Int32) then 0 else 1
set_option maxHeartbeats 4000000 in
set_option maxRecDepth 100000 in
theorem w2_isChord (X : Nat × (Nat → Int32)) (I : mI) (s : Nat) (x0 : Int32) (Q : mQ) {res : Int32} (hr : r2_isChord x0 = res) (hQ : Q (some (.int res)) NN KK I (PP s)) : mV X m2_isChord 0 0 0 0 [.int x0] [] NN KK I (PP s) Q := by
  unfold r2_isChord at hr
  refine mV_iload f2_isChord_0 rfl ?_
  refine mV_if_le f2_isChord_1 (fun h0 => ?_) (fun h0 => ?_)
  · rw [if_pos h0] at hr
    refine mV_push f2_isChord_15 ?_
    subst hr
    exact mV_iret rfl rfl f2_isChord_16 hQ
  · rw [if_neg h0] at hr
    refine mV_iload f2_isChord_4 rfl ?_
    refine mV_push f2_isChord_5 ?_
    refine mV_icmp_gt f2_isChord_8 (fun h1 => ?_) (fun h1 => ?_)
    · rw [if_pos h1] at hr
      refine mV_push f2_isChord_15 ?_
      subst hr
      exact mV_iret rfl rfl f2_isChord_16 hQ
    · rw [if_neg h1] at hr
      refine mV_push f2_isChord_11 ?_
      refine mV_goto f2_isChord_12 ?_
      subst hr
      exact mV_iret rfl rfl f2_isChord_16 hQ
theorem c2_isChord (X : Nat × (Nat → Int32)) (I : mI) (s : Nat) (x0 : Int32) {res : Int32} (hr : r2_isChord x0 = res) : mC X m2_isChord 0 0 0 [.int x0] NN KK I (PP s) (mRet (some (.int res)) NN KK I (PP s)) :=
  mC_of (L0 := [.int x0]) rfl (Nat.le_of_ble_eq_true rfl) (w2_isChord X I s x0 _ hr (mRet_ok _ _ _ _ _))
def r2_movedBy (x0 : Int32) (x1 : Int32) : Int32 := ((((x0 : Int32) <<< (x1 &&& 31)) ||| ((x0 : Int32) >>> ((12 - x1) &&& 31))) &&& 4095)
set_option maxHeartbeats 4000000 in
set_option maxRecDepth 100000 in
theorem w2_movedBy (X : Nat × (Nat → Int32)) (I : mI) (s : Nat) (x0 : Int32) (x1 : Int32) (Q : mQ) {res : Int32} (hr : r2_movedBy x0 x1 = res) (hQ : Q (some (.int res)) NN KK I (PP s)) : mV X m2_movedBy 0 0 0 0 [.int x0, .int x1] [] NN KK I (PP s) Q := by
  unfold r2_movedBy at hr
  refine mV_iload f2_movedBy_0 rfl ?_
  refine mV_iload f2_movedBy_1 rfl ?_
  refine mV_ishl f2_movedBy_2 ?_
  refine mV_iload f2_movedBy_3 rfl ?_
  refine mV_push f2_movedBy_4 ?_
  refine mV_iload f2_movedBy_6 rfl ?_
  refine mV_isub f2_movedBy_7 ?_
  refine mV_ishr f2_movedBy_8 ?_
  refine mV_ior f2_movedBy_9 ?_
  refine mV_push f2_movedBy_10 ?_
  refine mV_iand f2_movedBy_13 ?_
  subst hr
  exact mV_iret rfl rfl f2_movedBy_14 hQ
theorem c2_movedBy (X : Nat × (Nat → Int32)) (I : mI) (s : Nat) (x0 : Int32) (x1 : Int32) {res : Int32} (hr : r2_movedBy x0 x1 = res) : mC X m2_movedBy 0 0 0 [.int x0, .int x1] NN KK I (PP s) (mRet (some (.int res)) NN KK I (PP s)) :=
  mC_of (L0 := [.int x0, .int x1]) rfl (Nat.le_of_ble_eq_true rfl) (w2_movedBy X I s x0 x1 _ hr (mRet_ok _ _ _ _ _))
def l2_highestOf_4 (k0 : Int32) : Nat → Int32 → Int32 → Option (Int32)
  | 0, _, _ => none
  | f + 1, y1, y2 => if (12 : Int32) ≤ (y2 : Int32) then some y1 else (if ((((k0 : Int32) >>> (y2 &&& 31)) &&& 1) : Int32) = (0 : Int32) then some y1 else some y2 : Option (Int32)).bind fun z0 => l2_highestOf_4 k0 f z0 (y2 + 1)
def r2_highestOf (x0 : Int32) : Option (Int32) := (l2_highestOf_4 x0 FU 0 1).bind fun z0 => some z0
set_option maxHeartbeats 4000000 in
set_option maxRecDepth 100000 in
theorem t2_highestOf_4 (X : Nat × (Nat → Int32)) (Q : mQ) (s : Nat) (I : mI) (k0 : Int32) : ∀ (f : Nat) (y1 : Int32) (y2 : Int32) (z : Int32), l2_highestOf_4 k0 f y1 y2 = some z → mV X m2_highestOf 0 0 0 30 [.int k0, .int z, mX0] [] NN KK I (PP s) Q → mV X m2_highestOf 0 0 0 4 [.int k0, .int y1, .int y2] [] NN KK I (PP s) Q := by
  intro f
  induction f with
  | zero => intro y1 y2 z hr hk; cases hr
  | succ f ih =>
    intro y1 y2 z hr hk
    unfold l2_highestOf_4 at hr
    refine mV_iload f2_highestOf_4 rfl ?_
    refine mV_push f2_highestOf_5 ?_
    refine mV_icmp_ge f2_highestOf_7 (fun h0 => ?_) (fun h0 => ?_)
    · rw [if_pos h0] at hr
      have hr := Option.some.inj hr; subst hr
      refine mV_drop (L' := [.int k0, .int y1, mX0]) (mSub_k (mSub_k (mSub_x mSub_n))) ?_
      exact hk
    · rw [if_neg h0] at hr
      refine mV_iload f2_highestOf_10 rfl ?_
      refine mV_iload f2_highestOf_11 rfl ?_
      refine mV_ishr f2_highestOf_12 ?_
      refine mV_push f2_highestOf_13 ?_
      refine mV_iand f2_highestOf_14 ?_
      obtain ⟨z0, hz0, hr⟩ := mBind hr
      have keyz0 : mV X m2_highestOf 0 0 0 23 [.int k0, mX0, .int y2] [.int z0] NN KK I (PP s) Q := by
        refine mV_istore (L' := [.int k0, .int z0, .int y2]) f2_highestOf_23 (by decide) rfl rfl ?_
        refine mV_iinc (y := (y2 + 1)) (L' := [.int k0, .int z0, .int (y2 + 1)]) f2_highestOf_24 rfl rfl (by decide) rfl rfl ?_
        refine mV_goto f2_highestOf_27 ?_
        exact ih z0 (y2 + 1) _ hr hk
      clear hr
      have hr := hz0
      clear hz0
      refine mV_if_eq f2_highestOf_15 (fun h1 => ?_) (fun h1 => ?_)
      · rw [if_pos h1] at hr
        refine mV_iload f2_highestOf_22 rfl ?_
        have hr := Option.some.inj hr; subst hr
        refine mV_drop (L' := [.int k0, mX0, .int y2]) (mSub_k (mSub_x (mSub_k mSub_n))) ?_
        exact keyz0
      · rw [if_neg h1] at hr
        refine mV_iload f2_highestOf_18 rfl ?_
        refine mV_goto f2_highestOf_19 ?_
        have hr := Option.some.inj hr; subst hr
        refine mV_drop (L' := [.int k0, mX0, .int y2]) (mSub_k (mSub_x (mSub_k mSub_n))) ?_
        exact keyz0
set_option maxHeartbeats 4000000 in
set_option maxRecDepth 100000 in
theorem w2_highestOf (X : Nat × (Nat → Int32)) (I : mI) (s : Nat) (x0 : Int32) (Q : mQ) {res : Int32} (hr : r2_highestOf x0 = some res) (hQ : Q (some (.int res)) NN KK I (PP s)) : mV X m2_highestOf 0 0 0 0 [.int x0, mX0, mX0] [] NN KK I (PP s) Q := by
  unfold r2_highestOf at hr
  refine mV_push f2_highestOf_0 ?_
  refine mV_istore (L' := [.int x0, .int 0, mX0]) f2_highestOf_1 (by decide) rfl rfl ?_
  refine mV_push f2_highestOf_2 ?_
  refine mV_istore (L' := [.int x0, .int 0, .int 1]) f2_highestOf_3 (by decide) rfl rfl ?_
  obtain ⟨z0, hz0, hr⟩ := mBind hr
  refine t2_highestOf_4 X Q s I x0 FU 0 1 _ hz0 ?_
  refine mV_iload f2_highestOf_30 rfl ?_
  have hr := Option.some.inj hr; subst hr
  exact mV_iret rfl rfl f2_highestOf_31 hQ
theorem c2_highestOf (X : Nat × (Nat → Int32)) (I : mI) (s : Nat) (x0 : Int32) {res : Int32} (hr : r2_highestOf x0 = some res) : mC X m2_highestOf 0 0 0 [.int x0] NN KK I (PP s) (mRet (some (.int res)) NN KK I (PP s)) :=
  mC_of (L0 := [.int x0, mX0, mX0]) rfl (Nat.le_of_ble_eq_true rfl) (w2_highestOf X I s x0 _ hr (mRet_ok _ _ _ _ _))
def l2_spanOf_5 (k0 : Int32) : Nat → Int32 → Int32 → Option (Int32)
  | 0, _, _ => none
  | f + 1, y1, y2 => if (12 : Int32) ≤ (y2 : Int32) then some y1 else (if ((((k0 : Int32) >>> (y2 &&& 31)) &&& 1) : Int32) = (0 : Int32) then some y1 else (r2_highestOf (r2_movedBy k0 (mRm (12 - y2) 12))).bind fun z1 => some (mMin y1 z1) : Option (Int32)).bind fun z0 => l2_spanOf_5 k0 f z0 (y2 + 1)
def r2_spanOf (x0 : Int32) : Option (Int32) := (l2_spanOf_5 x0 FU 12 0).bind fun z0 => some z0
set_option maxHeartbeats 4000000 in
set_option maxRecDepth 100000 in
theorem t2_spanOf_5 (X : Nat × (Nat → Int32)) (Q : mQ) (s : Nat) (I : mI) (k0 : Int32) : ∀ (f : Nat) (y1 : Int32) (y2 : Int32) (z : Int32), l2_spanOf_5 k0 f y1 y2 = some z → mV X m2_spanOf 1 0 0 44 [.int k0, .int z, mX0] [] NN KK I (PP s) Q → mV X m2_spanOf 1 0 0 5 [.int k0, .int y1, .int y2] [] NN KK I (PP s) Q := by
  intro f
  induction f with
  | zero => intro y1 y2 z hr hk; cases hr
  | succ f ih =>
    intro y1 y2 z hr hk
    unfold l2_spanOf_5 at hr
    refine mV_iload f2_spanOf_5 rfl ?_
    refine mV_push f2_spanOf_6 ?_
    refine mV_icmp_ge f2_spanOf_8 (fun h0 => ?_) (fun h0 => ?_)
    · rw [if_pos h0] at hr
      have hr := Option.some.inj hr; subst hr
      refine mV_drop (L' := [.int k0, .int y1, mX0]) (mSub_k (mSub_k (mSub_x mSub_n))) ?_
      exact hk
    · rw [if_neg h0] at hr
      refine mV_iload f2_spanOf_11 rfl ?_
      refine mV_iload f2_spanOf_12 rfl ?_
      refine mV_ishr f2_spanOf_13 ?_
      refine mV_push f2_spanOf_14 ?_
      refine mV_iand f2_spanOf_15 ?_
      obtain ⟨z0, hz0, hr⟩ := mBind hr
      have keyz0 : mV X m2_spanOf 1 0 0 38 [.int k0, .int z0, .int y2] [] NN KK I (PP s) Q := by
        refine mV_iinc (y := (y2 + 1)) (L' := [.int k0, .int z0, .int (y2 + 1)]) f2_spanOf_38 rfl rfl (by decide) rfl rfl ?_
        refine mV_goto f2_spanOf_41 ?_
        exact ih z0 (y2 + 1) _ hr hk
      clear hr
      have hr := hz0
      clear hz0
      refine mV_if_eq f2_spanOf_16 (fun h1 => ?_) (fun h1 => ?_)
      · rw [if_pos h1] at hr
        have hr := Option.some.inj hr; subst hr
        exact keyz0
      · rw [if_neg h1] at hr
        refine mV_iload f2_spanOf_19 rfl ?_
        refine mV_iload f2_spanOf_20 rfl ?_
        refine mV_push f2_spanOf_21 ?_
        refine mV_iload f2_spanOf_23 rfl ?_
        refine mV_isub f2_spanOf_24 ?_
        refine mV_push f2_spanOf_25 ?_
        refine mV_remC f2_spanOf_27 (by decide) ?_
        refine mV_cS f2_spanOf_28 tg_m2_movedBy (mC_deep (c2_movedBy X I s k0 (mRm (12 - y2) 12) rfl) (by decide)) rfl rfl (Nat.le_of_ble_eq_true rfl) ?_
        obtain ⟨z1, hz1, hr⟩ := mBind hr
        refine mV_cS f2_spanOf_31 tg_m2_highestOf (mC_deep (c2_highestOf X I s (r2_movedBy k0 (mRm (12 - y2) 12)) hz1) (by decide)) rfl rfl (Nat.le_of_ble_eq_true rfl) ?_
        refine mV_minC fm2_spanOf_34 (Nat.le_of_ble_eq_true rfl) ?_
        refine mV_istore (L' := [.int k0, .int (mMin y1 z1), .int y2]) f2_spanOf_37 (by decide) rfl rfl ?_
        have hr := Option.some.inj hr; subst hr
        exact keyz0
set_option maxHeartbeats 4000000 in
set_option maxRecDepth 100000 in
theorem w2_spanOf (X : Nat × (Nat → Int32)) (I : mI) (s : Nat) (x0 : Int32) (Q : mQ) {res : Int32} (hr : r2_spanOf x0 = some res) (hQ : Q (some (.int res)) NN KK I (PP s)) : mV X m2_spanOf 1 0 0 0 [.int x0, mX0, mX0] [] NN KK I (PP s) Q := by
  unfold r2_spanOf at hr
  refine mV_push f2_spanOf_0 ?_
  refine mV_istore (L' := [.int x0, .int 12, mX0]) f2_spanOf_2 (by decide) rfl rfl ?_
  refine mV_push f2_spanOf_3 ?_
  refine mV_istore (L' := [.int x0, .int 12, .int 0]) f2_spanOf_4 (by decide) rfl rfl ?_
  obtain ⟨z0, hz0, hr⟩ := mBind hr
  refine t2_spanOf_5 X Q s I x0 FU 12 0 _ hz0 ?_
  refine mV_iload f2_spanOf_44 rfl ?_
  have hr := Option.some.inj hr; subst hr
  exact mV_iret rfl rfl f2_spanOf_45 hQ
theorem c2_spanOf (X : Nat × (Nat → Int32)) (I : mI) (s : Nat) (x0 : Int32) {res : Int32} (hr : r2_spanOf x0 = some res) : mC X m2_spanOf 1 0 0 [.int x0] NN KK I (PP s) (mRet (some (.int res)) NN KK I (PP s)) :=
  mC_of (L0 := [.int x0, mX0, mX0]) rfl (Nat.le_of_ble_eq_true rfl) (w2_spanOf X I s x0 _ hr (mRet_ok _ _ _ _ _))
def r2_heldBy (x0 : Int32) (x1 : Int32) : Int32 := (rJ6_bitCount (x0 &&& (r2_movedBy x0 x1)))
set_option maxHeartbeats 4000000 in
set_option maxRecDepth 100000 in
theorem w2_heldBy (X : Nat × (Nat → Int32)) (I : mI) (s : Nat) (x0 : Int32) (x1 : Int32) (Q : mQ) {res : Int32} (hr : r2_heldBy x0 x1 = res) (hQ : Q (some (.int res)) NN KK I (PP s)) : mV X m2_heldBy 1 0 0 0 [.int x0, .int x1] [] NN KK I (PP s) Q := by
  unfold r2_heldBy at hr
  refine mV_iload f2_heldBy_0 rfl ?_
  refine mV_iload f2_heldBy_1 rfl ?_
  refine mV_iload f2_heldBy_2 rfl ?_
  refine mV_cS f2_heldBy_3 tg_m2_movedBy (mC_deep (c2_movedBy X I s x0 x1 rfl) (by decide)) rfl rfl (Nat.le_of_ble_eq_true rfl) ?_
  refine mV_iand f2_heldBy_6 ?_
  refine mV_cS f2_heldBy_7 tg_mJ6_bitCount (mC_deep (cJ6_bitCount X I s (x0 &&& (r2_movedBy x0 x1)) rfl) (by decide)) rfl rfl (Nat.le_of_ble_eq_true rfl) ?_
  subst hr
  exact mV_iret rfl rfl f2_heldBy_10 hQ
theorem c2_heldBy (X : Nat × (Nat → Int32)) (I : mI) (s : Nat) (x0 : Int32) (x1 : Int32) {res : Int32} (hr : r2_heldBy x0 x1 = res) : mC X m2_heldBy 1 0 0 [.int x0, .int x1] NN KK I (PP s) (mRet (some (.int res)) NN KK I (PP s)) :=
  mC_of (L0 := [.int x0, .int x1]) rfl (Nat.le_of_ble_eq_true rfl) (w2_heldBy X I s x0 x1 _ hr (mRet_ok _ _ _ _ _))
def l2_bestHold_4 (k0 : Int32) : Nat → Int32 → Int32 → Option (Int32)
  | 0, _, _ => none
  | f + 1, y1, y2 => if (12 : Int32) ≤ (y2 : Int32) then some y1 else (if ((r2_heldBy k0 y2) : Int32) ≤ ((r2_heldBy k0 y1) : Int32) then some y1 else some y2 : Option (Int32)).bind fun z0 => l2_bestHold_4 k0 f z0 (y2 + 1)
def r2_bestHold (x0 : Int32) : Option (Int32) := (l2_bestHold_4 x0 FU 1 2).bind fun z0 => some z0
set_option maxHeartbeats 4000000 in
set_option maxRecDepth 100000 in
theorem t2_bestHold_4 (X : Nat × (Nat → Int32)) (Q : mQ) (s : Nat) (I : mI) (k0 : Int32) : ∀ (f : Nat) (y1 : Int32) (y2 : Int32) (z : Int32), l2_bestHold_4 k0 f y1 y2 = some z → mV X m2_bestHold 2 0 0 31 [.int k0, .int z, mX0] [] NN KK I (PP s) Q → mV X m2_bestHold 2 0 0 4 [.int k0, .int y1, .int y2] [] NN KK I (PP s) Q := by
  intro f
  induction f with
  | zero => intro y1 y2 z hr hk; cases hr
  | succ f ih =>
    intro y1 y2 z hr hk
    unfold l2_bestHold_4 at hr
    refine mV_iload f2_bestHold_4 rfl ?_
    refine mV_push f2_bestHold_5 ?_
    refine mV_icmp_ge f2_bestHold_7 (fun h0 => ?_) (fun h0 => ?_)
    · rw [if_pos h0] at hr
      have hr := Option.some.inj hr; subst hr
      refine mV_drop (L' := [.int k0, .int y1, mX0]) (mSub_k (mSub_k (mSub_x mSub_n))) ?_
      exact hk
    · rw [if_neg h0] at hr
      refine mV_iload f2_bestHold_10 rfl ?_
      refine mV_iload f2_bestHold_11 rfl ?_
      refine mV_cS f2_bestHold_12 tg_m2_heldBy (mC_deep (c2_heldBy X I s k0 y2 rfl) (by decide)) rfl rfl (Nat.le_of_ble_eq_true rfl) ?_
      refine mV_iload f2_bestHold_15 rfl ?_
      refine mV_iload f2_bestHold_16 rfl ?_
      refine mV_cS f2_bestHold_17 tg_m2_heldBy (mC_deep (c2_heldBy X I s k0 y1 rfl) (by decide)) rfl rfl (Nat.le_of_ble_eq_true rfl) ?_
      obtain ⟨z0, hz0, hr⟩ := mBind hr
      have keyz0 : mV X m2_bestHold 2 0 0 25 [.int k0, .int z0, .int y2] [] NN KK I (PP s) Q := by
        refine mV_iinc (y := (y2 + 1)) (L' := [.int k0, .int z0, .int (y2 + 1)]) f2_bestHold_25 rfl rfl (by decide) rfl rfl ?_
        refine mV_goto f2_bestHold_28 ?_
        exact ih z0 (y2 + 1) _ hr hk
      clear hr
      have hr := hz0
      clear hz0
      refine mV_icmp_le f2_bestHold_20 (fun h1 => ?_) (fun h1 => ?_)
      · rw [if_pos h1] at hr
        have hr := Option.some.inj hr; subst hr
        exact keyz0
      · rw [if_neg h1] at hr
        refine mV_iload f2_bestHold_23 rfl ?_
        refine mV_istore (L' := [.int k0, .int y2, .int y2]) f2_bestHold_24 (by decide) rfl rfl ?_
        have hr := Option.some.inj hr; subst hr
        exact keyz0
set_option maxHeartbeats 4000000 in
set_option maxRecDepth 100000 in
theorem w2_bestHold (X : Nat × (Nat → Int32)) (I : mI) (s : Nat) (x0 : Int32) (Q : mQ) {res : Int32} (hr : r2_bestHold x0 = some res) (hQ : Q (some (.int res)) NN KK I (PP s)) : mV X m2_bestHold 2 0 0 0 [.int x0, mX0, mX0] [] NN KK I (PP s) Q := by
  unfold r2_bestHold at hr
  refine mV_push f2_bestHold_0 ?_
  refine mV_istore (L' := [.int x0, .int 1, mX0]) f2_bestHold_1 (by decide) rfl rfl ?_
  refine mV_push f2_bestHold_2 ?_
  refine mV_istore (L' := [.int x0, .int 1, .int 2]) f2_bestHold_3 (by decide) rfl rfl ?_
  obtain ⟨z0, hz0, hr⟩ := mBind hr
  refine t2_bestHold_4 X Q s I x0 FU 1 2 _ hz0 ?_
  refine mV_iload f2_bestHold_31 rfl ?_
  have hr := Option.some.inj hr; subst hr
  exact mV_iret rfl rfl f2_bestHold_32 hQ
theorem c2_bestHold (X : Nat × (Nat → Int32)) (I : mI) (s : Nat) (x0 : Int32) {res : Int32} (hr : r2_bestHold x0 = some res) : mC X m2_bestHold 2 0 0 [.int x0] NN KK I (PP s) (mRet (some (.int res)) NN KK I (PP s)) :=
  mC_of (L0 := [.int x0, mX0, mX0]) rfl (Nat.le_of_ble_eq_true rfl) (w2_bestHold X I s x0 _ hr (mRet_ok _ _ _ _ _))
def l2_turnedOver_4 (k0 : Int32) : Nat → Int32 → Int32 → Option (Int32)
  | 0, _, _ => none
  | f + 1, y1, y2 => if (12 : Int32) ≤ (y2 : Int32) then some y1 else (if ((((k0 : Int32) >>> (y2 &&& 31)) &&& 1) : Int32) = (0 : Int32) then some y1 else some (y1 ||| ((1 : Int32) <<< ((mRm (12 - y2) 12) &&& 31))) : Option (Int32)).bind fun z0 => l2_turnedOver_4 k0 f z0 (y2 + 1)
def r2_turnedOver (x0 : Int32) : Option (Int32) := (l2_turnedOver_4 x0 FU 0 0).bind fun z0 => some z0
set_option maxHeartbeats 4000000 in
set_option maxRecDepth 100000 in
theorem t2_turnedOver_4 (X : Nat × (Nat → Int32)) (Q : mQ) (s : Nat) (I : mI) (k0 : Int32) : ∀ (f : Nat) (y1 : Int32) (y2 : Int32) (z : Int32), l2_turnedOver_4 k0 f y1 y2 = some z → mV X m2_turnedOver 0 0 0 36 [.int k0, .int z, mX0] [] NN KK I (PP s) Q → mV X m2_turnedOver 0 0 0 4 [.int k0, .int y1, .int y2] [] NN KK I (PP s) Q := by
  intro f
  induction f with
  | zero => intro y1 y2 z hr hk; cases hr
  | succ f ih =>
    intro y1 y2 z hr hk
    unfold l2_turnedOver_4 at hr
    refine mV_iload f2_turnedOver_4 rfl ?_
    refine mV_push f2_turnedOver_5 ?_
    refine mV_icmp_ge f2_turnedOver_7 (fun h0 => ?_) (fun h0 => ?_)
    · rw [if_pos h0] at hr
      have hr := Option.some.inj hr; subst hr
      refine mV_drop (L' := [.int k0, .int y1, mX0]) (mSub_k (mSub_k (mSub_x mSub_n))) ?_
      exact hk
    · rw [if_neg h0] at hr
      refine mV_iload f2_turnedOver_10 rfl ?_
      refine mV_iload f2_turnedOver_11 rfl ?_
      refine mV_ishr f2_turnedOver_12 ?_
      refine mV_push f2_turnedOver_13 ?_
      refine mV_iand f2_turnedOver_14 ?_
      obtain ⟨z0, hz0, hr⟩ := mBind hr
      have keyz0 : mV X m2_turnedOver 0 0 0 30 [.int k0, .int z0, .int y2] [] NN KK I (PP s) Q := by
        refine mV_iinc (y := (y2 + 1)) (L' := [.int k0, .int z0, .int (y2 + 1)]) f2_turnedOver_30 rfl rfl (by decide) rfl rfl ?_
        refine mV_goto f2_turnedOver_33 ?_
        exact ih z0 (y2 + 1) _ hr hk
      clear hr
      have hr := hz0
      clear hz0
      refine mV_if_eq f2_turnedOver_15 (fun h1 => ?_) (fun h1 => ?_)
      · rw [if_pos h1] at hr
        have hr := Option.some.inj hr; subst hr
        exact keyz0
      · rw [if_neg h1] at hr
        refine mV_iload f2_turnedOver_18 rfl ?_
        refine mV_push f2_turnedOver_19 ?_
        refine mV_push f2_turnedOver_20 ?_
        refine mV_iload f2_turnedOver_22 rfl ?_
        refine mV_isub f2_turnedOver_23 ?_
        refine mV_push f2_turnedOver_24 ?_
        refine mV_remC f2_turnedOver_26 (by decide) ?_
        refine mV_ishl f2_turnedOver_27 ?_
        refine mV_ior f2_turnedOver_28 ?_
        refine mV_istore (L' := [.int k0, .int (y1 ||| ((1 : Int32) <<< ((mRm (12 - y2) 12) &&& 31))), .int y2]) f2_turnedOver_29 (by decide) rfl rfl ?_
        have hr := Option.some.inj hr; subst hr
        exact keyz0
set_option maxHeartbeats 4000000 in
set_option maxRecDepth 100000 in
theorem w2_turnedOver (X : Nat × (Nat → Int32)) (I : mI) (s : Nat) (x0 : Int32) (Q : mQ) {res : Int32} (hr : r2_turnedOver x0 = some res) (hQ : Q (some (.int res)) NN KK I (PP s)) : mV X m2_turnedOver 0 0 0 0 [.int x0, mX0, mX0] [] NN KK I (PP s) Q := by
  unfold r2_turnedOver at hr
  refine mV_push f2_turnedOver_0 ?_
  refine mV_istore (L' := [.int x0, .int 0, mX0]) f2_turnedOver_1 (by decide) rfl rfl ?_
  refine mV_push f2_turnedOver_2 ?_
  refine mV_istore (L' := [.int x0, .int 0, .int 0]) f2_turnedOver_3 (by decide) rfl rfl ?_
  obtain ⟨z0, hz0, hr⟩ := mBind hr
  refine t2_turnedOver_4 X Q s I x0 FU 0 0 _ hz0 ?_
  refine mV_iload f2_turnedOver_36 rfl ?_
  have hr := Option.some.inj hr; subst hr
  exact mV_iret rfl rfl f2_turnedOver_37 hQ
theorem c2_turnedOver (X : Nat × (Nat → Int32)) (I : mI) (s : Nat) (x0 : Int32) {res : Int32} (hr : r2_turnedOver x0 = some res) : mC X m2_turnedOver 0 0 0 [.int x0] NN KK I (PP s) (mRet (some (.int res)) NN KK I (PP s)) :=
  mC_of (L0 := [.int x0, mX0, mX0]) rfl (Nat.le_of_ble_eq_true rfl) (w2_turnedOver X I s x0 _ hr (mRet_ok _ _ _ _ _))
def l2_movedTo_2 (k0 : Int32) (k1 : Int32) : Nat → Int32 → Option ((Int32) ⊕ (Unit))
  | 0, _ => none
  | f + 1, y2 => if (12 : Int32) ≤ (y2 : Int32) then some (.inr ()) else if ((r2_movedBy k0 y2) : Int32) = (k1 : Int32) then some (.inl y2) else l2_movedTo_2 k0 k1 f (y2 + 1)
def r2_movedTo (x0 : Int32) (x1 : Int32) : Option (Int32) := (l2_movedTo_2 x0 x1 FU 0).bind fun z0 => match z0 with | .inl rz0 => some rz0 | .inr wz0 => some (-1)
set_option maxHeartbeats 4000000 in
set_option maxRecDepth 100000 in
theorem t2_movedTo_2 (X : Nat × (Nat → Int32)) (Q : mQ) (s : Nat) (I : mI) (k0 : Int32) (k1 : Int32) : ∀ (f : Nat) (y2 : Int32) (z : (Int32) ⊕ (Unit)), l2_movedTo_2 k0 k1 f y2 = some z → (∀ res, z = .inl res → Q (some (.int res)) NN KK I (PP s)) → (∀ w, z = .inr w → mV X m2_movedTo 1 0 0 25 [.int k0, .int k1, mX0] [] NN KK I (PP s) Q) → mV X m2_movedTo 1 0 0 2 [.int k0, .int k1, .int y2] [] NN KK I (PP s) Q := by
  intro f
  induction f with
  | zero => intro y2 z hr hret hk; cases hr
  | succ f ih =>
    intro y2 z hr hret hk
    unfold l2_movedTo_2 at hr
    refine mV_iload f2_movedTo_2 rfl ?_
    refine mV_push f2_movedTo_3 ?_
    refine mV_icmp_ge f2_movedTo_5 (fun h0 => ?_) (fun h0 => ?_)
    · rw [if_pos h0] at hr
      have hr := Option.some.inj hr; subst hr
      refine mV_drop (L' := [.int k0, .int k1, mX0]) (mSub_k (mSub_k (mSub_x mSub_n))) ?_
      exact hk _ rfl
    · rw [if_neg h0] at hr
      refine mV_iload f2_movedTo_8 rfl ?_
      refine mV_iload f2_movedTo_9 rfl ?_
      refine mV_cS f2_movedTo_10 tg_m2_movedBy (mC_deep (c2_movedBy X I s k0 y2 rfl) (by decide)) rfl rfl (Nat.le_of_ble_eq_true rfl) ?_
      refine mV_iload f2_movedTo_13 rfl ?_
      refine mV_icmp_ne f2_movedTo_14 (fun h1 => ?_) (fun h1 => ?_)
      · rw [if_neg h1] at hr
        refine mV_iinc (y := (y2 + 1)) (L' := [.int k0, .int k1, .int (y2 + 1)]) f2_movedTo_19 rfl rfl (by decide) rfl rfl ?_
        refine mV_goto f2_movedTo_22 ?_
        exact ih (y2 + 1) _ hr hret hk
      · rw [if_pos h1] at hr
        refine mV_iload f2_movedTo_17 rfl ?_
        have hr := Option.some.inj hr; subst hr; have hQ := hret _ rfl
        exact mV_iret rfl rfl f2_movedTo_18 hQ
set_option maxHeartbeats 4000000 in
set_option maxRecDepth 100000 in
theorem w2_movedTo (X : Nat × (Nat → Int32)) (I : mI) (s : Nat) (x0 : Int32) (x1 : Int32) (Q : mQ) {res : Int32} (hr : r2_movedTo x0 x1 = some res) (hQ : Q (some (.int res)) NN KK I (PP s)) : mV X m2_movedTo 1 0 0 0 [.int x0, .int x1, mX0] [] NN KK I (PP s) Q := by
  unfold r2_movedTo at hr
  refine mV_push f2_movedTo_0 ?_
  refine mV_istore (L' := [.int x0, .int x1, .int 0]) f2_movedTo_1 (by decide) rfl rfl ?_
  obtain ⟨z0, hz0, hr⟩ := mBind hr
  refine t2_movedTo_2 X Q s I x0 x1 FU 0 _ hz0 (fun res ez0 => ?_) (fun wz0 ez0 => ?_)
  · rw [ez0] at hr; have hr := Option.some.inj hr; subst hr; exact hQ
  rw [ez0] at hr
  dsimp only at hr
  refine mV_push f2_movedTo_25 ?_
  have hr := Option.some.inj hr; subst hr
  exact mV_iret rfl rfl f2_movedTo_26 hQ
theorem c2_movedTo (X : Nat × (Nat → Int32)) (I : mI) (s : Nat) (x0 : Int32) (x1 : Int32) {res : Int32} (hr : r2_movedTo x0 x1 = some res) : mC X m2_movedTo 1 0 0 [.int x0, .int x1] NN KK I (PP s) (mRet (some (.int res)) NN KK I (PP s)) :=
  mC_of (L0 := [.int x0, .int x1, mX0]) rfl (Nat.le_of_ble_eq_true rfl) (w2_movedTo X I s x0 x1 _ hr (mRet_ok _ _ _ _ _))
def r9_chords (x0 : Int32) (x1 : Int32) (x2 : Int32) : Option (Int32) := if ((r2_isChord x0) : Int32) = (0 : Int32) then some (-1) else if (x2 : Int32) < (0 : Int32) then some (-1) else if (4 : Int32) < (x2 : Int32) then some (-1) else if (2 : Int32) ≤ (x2 : Int32) then if (x2 : Int32) = 0 then (r2_movedTo x0 x1).bind fun z0 => some z0 else if (x2 : Int32) = 1 then (r2_turnedOver x0).bind fun z1 => (r2_movedTo z1 x1).bind fun z2 => some z2 else if (x2 : Int32) = 2 then (r2_bestHold x0).bind fun z3 => some (r2_heldBy x0 z3) else if (x2 : Int32) = 3 then (r2_bestHold x0).bind fun z4 => some z4 else (r2_spanOf x0).bind fun z5 => some z5 else if ((r2_isChord x1) : Int32) = (0 : Int32) then some (-1) else if (x2 : Int32) = 0 then (r2_movedTo x0 x1).bind fun z6 => some z6 else if (x2 : Int32) = 1 then (r2_turnedOver x0).bind fun z7 => (r2_movedTo z7 x1).bind fun z8 => some z8 else if (x2 : Int32) = 2 then (r2_bestHold x0).bind fun z9 => some (r2_heldBy x0 z9) else if (x2 : Int32) = 3 then (r2_bestHold x0).bind fun z10 => some z10 else (r2_spanOf x0).bind fun z11 => some z11
set_option maxHeartbeats 4000000 in
set_option maxRecDepth 100000 in
theorem w9_chords (X : Nat × (Nat → Int32)) (I : mI) (s : Nat) (x0 : Int32) (x1 : Int32) (x2 : Int32) (Q : mQ) {res : Int32} (hr : r9_chords x0 x1 x2 = some res) (hQ : Q (some (.int res)) NN KK I (PP s)) : mV X m9_chords 3 0 0 0 [.ref 0, .int x0, .int x1, .int x2] [] NN KK I (PP s) Q := by
  unfold r9_chords at hr
  refine mV_iload f9_chords_0 rfl ?_
  refine mV_cS f9_chords_1 tg_m2_isChord (mC_deep (c2_isChord X I s x0 rfl) (by decide)) rfl rfl (Nat.le_of_ble_eq_true rfl) ?_
  refine mV_if_eq f9_chords_4 (fun h0 => ?_) (fun h0 => ?_)
  · rw [if_pos h0] at hr
    refine mV_push f9_chords_28 ?_
    have hr := Option.some.inj hr; subst hr
    exact mV_iret rfl rfl f9_chords_29 hQ
  · rw [if_neg h0] at hr
    refine mV_iload f9_chords_7 rfl ?_
    refine mV_if_lt f9_chords_8 (fun h1 => ?_) (fun h1 => ?_)
    · rw [if_pos h1] at hr
      refine mV_push f9_chords_28 ?_
      have hr := Option.some.inj hr; subst hr
      exact mV_iret rfl rfl f9_chords_29 hQ
    · rw [if_neg h1] at hr
      refine mV_iload f9_chords_11 rfl ?_
      refine mV_push f9_chords_12 ?_
      refine mV_icmp_gt f9_chords_13 (fun h2 => ?_) (fun h2 => ?_)
      · rw [if_pos h2] at hr
        refine mV_push f9_chords_28 ?_
        have hr := Option.some.inj hr; subst hr
        exact mV_iret rfl rfl f9_chords_29 hQ
      · rw [if_neg h2] at hr
        refine mV_iload f9_chords_16 rfl ?_
        refine mV_push f9_chords_17 ?_
        refine mV_icmp_ge f9_chords_18 (fun h3 => ?_) (fun h3 => ?_)
        · rw [if_pos h3] at hr
          refine mV_iload f9_chords_30 rfl ?_
          by_cases h4 : x2 = 0
          · rw [if_pos h4] at hr
            refine mV_tabEq (v := 0) f9_chords_31 h4 (by decide) (by decide) (by decide) (by decide : (31 : Int) + 29 = (60 : Nat)) ?_
            refine mV_iload f9_chords_60 rfl ?_
            refine mV_iload f9_chords_61 rfl ?_
            obtain ⟨z0, hz0, hr⟩ := mBind hr
            refine mV_cS f9_chords_62 tg_m2_movedTo (mC_deep (c2_movedTo X I s x0 x1 hz0) (by decide)) rfl rfl (Nat.le_of_ble_eq_true rfl) ?_
            have hr := Option.some.inj hr; subst hr
            exact mV_iret rfl rfl f9_chords_65 hQ
          rw [if_neg h4] at hr
          by_cases h5 : x2 = 1
          · rw [if_pos h5] at hr
            refine mV_tabEq (v := 1) f9_chords_31 h5 (by decide) (by decide) (by decide) (by decide : (31 : Int) + 35 = (66 : Nat)) ?_
            refine mV_iload f9_chords_66 rfl ?_
            obtain ⟨z1, hz1, hr⟩ := mBind hr
            refine mV_cS f9_chords_67 tg_m2_turnedOver (mC_deep (c2_turnedOver X I s x0 hz1) (by decide)) rfl rfl (Nat.le_of_ble_eq_true rfl) ?_
            refine mV_iload f9_chords_70 rfl ?_
            obtain ⟨z2, hz2, hr⟩ := mBind hr
            refine mV_cS f9_chords_71 tg_m2_movedTo (mC_deep (c2_movedTo X I s z1 x1 hz2) (by decide)) rfl rfl (Nat.le_of_ble_eq_true rfl) ?_
            have hr := Option.some.inj hr; subst hr
            exact mV_iret rfl rfl f9_chords_74 hQ
          rw [if_neg h5] at hr
          by_cases h6 : x2 = 2
          · rw [if_pos h6] at hr
            refine mV_tabEq (v := 2) f9_chords_31 h6 (by decide) (by decide) (by decide) (by decide : (31 : Int) + 44 = (75 : Nat)) ?_
            refine mV_iload f9_chords_75 rfl ?_
            refine mV_iload f9_chords_76 rfl ?_
            obtain ⟨z3, hz3, hr⟩ := mBind hr
            refine mV_cS f9_chords_77 tg_m2_bestHold (mC_deep (c2_bestHold X I s x0 hz3) (by decide)) rfl rfl (Nat.le_of_ble_eq_true rfl) ?_
            refine mV_cS f9_chords_80 tg_m2_heldBy (mC_deep (c2_heldBy X I s x0 z3 rfl) (by decide)) rfl rfl (Nat.le_of_ble_eq_true rfl) ?_
            have hr := Option.some.inj hr; subst hr
            exact mV_iret rfl rfl f9_chords_83 hQ
          rw [if_neg h6] at hr
          by_cases h7 : x2 = 3
          · rw [if_pos h7] at hr
            refine mV_tabEq (v := 3) f9_chords_31 h7 (by decide) (by decide) (by decide) (by decide : (31 : Int) + 53 = (84 : Nat)) ?_
            refine mV_iload f9_chords_84 rfl ?_
            obtain ⟨z4, hz4, hr⟩ := mBind hr
            refine mV_cS f9_chords_85 tg_m2_bestHold (mC_deep (c2_bestHold X I s x0 hz4) (by decide)) rfl rfl (Nat.le_of_ble_eq_true rfl) ?_
            have hr := Option.some.inj hr; subst hr
            exact mV_iret rfl rfl f9_chords_88 hQ
          rw [if_neg h7] at hr
          refine mV_tabNo f9_chords_31 [0, 1, 2, 3] (by decide) (List.forall_mem_cons.mpr ⟨h4, (List.forall_mem_cons.mpr ⟨h5, (List.forall_mem_cons.mpr ⟨h6, (List.forall_mem_cons.mpr ⟨h7, (fun _ hc => absurd hc List.not_mem_nil)⟩)⟩)⟩)⟩) (by decide : (31 : Int) + 58 = (89 : Nat)) ?_
          refine mV_iload f9_chords_89 rfl ?_
          obtain ⟨z5, hz5, hr⟩ := mBind hr
          refine mV_cS f9_chords_90 tg_m2_spanOf (mC_deep (c2_spanOf X I s x0 hz5) (by decide)) rfl rfl (Nat.le_of_ble_eq_true rfl) ?_
          have hr := Option.some.inj hr; subst hr
          exact mV_iret rfl rfl f9_chords_93 hQ
        · rw [if_neg h3] at hr
          refine mV_iload f9_chords_21 rfl ?_
          refine mV_cS f9_chords_22 tg_m2_isChord (mC_deep (c2_isChord X I s x1 rfl) (by decide)) rfl rfl (Nat.le_of_ble_eq_true rfl) ?_
          refine mV_if_ne f9_chords_25 (fun h8 => ?_) (fun h8 => ?_)
          · rw [if_neg h8] at hr
            refine mV_iload f9_chords_30 rfl ?_
            by_cases h9 : x2 = 0
            · rw [if_pos h9] at hr
              refine mV_tabEq (v := 0) f9_chords_31 h9 (by decide) (by decide) (by decide) (by decide : (31 : Int) + 29 = (60 : Nat)) ?_
              refine mV_iload f9_chords_60 rfl ?_
              refine mV_iload f9_chords_61 rfl ?_
              obtain ⟨z6, hz6, hr⟩ := mBind hr
              refine mV_cS f9_chords_62 tg_m2_movedTo (mC_deep (c2_movedTo X I s x0 x1 hz6) (by decide)) rfl rfl (Nat.le_of_ble_eq_true rfl) ?_
              have hr := Option.some.inj hr; subst hr
              exact mV_iret rfl rfl f9_chords_65 hQ
            rw [if_neg h9] at hr
            by_cases h10 : x2 = 1
            · rw [if_pos h10] at hr
              refine mV_tabEq (v := 1) f9_chords_31 h10 (by decide) (by decide) (by decide) (by decide : (31 : Int) + 35 = (66 : Nat)) ?_
              refine mV_iload f9_chords_66 rfl ?_
              obtain ⟨z7, hz7, hr⟩ := mBind hr
              refine mV_cS f9_chords_67 tg_m2_turnedOver (mC_deep (c2_turnedOver X I s x0 hz7) (by decide)) rfl rfl (Nat.le_of_ble_eq_true rfl) ?_
              refine mV_iload f9_chords_70 rfl ?_
              obtain ⟨z8, hz8, hr⟩ := mBind hr
              refine mV_cS f9_chords_71 tg_m2_movedTo (mC_deep (c2_movedTo X I s z7 x1 hz8) (by decide)) rfl rfl (Nat.le_of_ble_eq_true rfl) ?_
              have hr := Option.some.inj hr; subst hr
              exact mV_iret rfl rfl f9_chords_74 hQ
            rw [if_neg h10] at hr
            by_cases h11 : x2 = 2
            · rw [if_pos h11] at hr
              refine mV_tabEq (v := 2) f9_chords_31 h11 (by decide) (by decide) (by decide) (by decide : (31 : Int) + 44 = (75 : Nat)) ?_
              refine mV_iload f9_chords_75 rfl ?_
              refine mV_iload f9_chords_76 rfl ?_
              obtain ⟨z9, hz9, hr⟩ := mBind hr
              refine mV_cS f9_chords_77 tg_m2_bestHold (mC_deep (c2_bestHold X I s x0 hz9) (by decide)) rfl rfl (Nat.le_of_ble_eq_true rfl) ?_
              refine mV_cS f9_chords_80 tg_m2_heldBy (mC_deep (c2_heldBy X I s x0 z9 rfl) (by decide)) rfl rfl (Nat.le_of_ble_eq_true rfl) ?_
              have hr := Option.some.inj hr; subst hr
              exact mV_iret rfl rfl f9_chords_83 hQ
            rw [if_neg h11] at hr
            by_cases h12 : x2 = 3
            · rw [if_pos h12] at hr
              refine mV_tabEq (v := 3) f9_chords_31 h12 (by decide) (by decide) (by decide) (by decide : (31 : Int) + 53 = (84 : Nat)) ?_
              refine mV_iload f9_chords_84 rfl ?_
              obtain ⟨z10, hz10, hr⟩ := mBind hr
              refine mV_cS f9_chords_85 tg_m2_bestHold (mC_deep (c2_bestHold X I s x0 hz10) (by decide)) rfl rfl (Nat.le_of_ble_eq_true rfl) ?_
              have hr := Option.some.inj hr; subst hr
              exact mV_iret rfl rfl f9_chords_88 hQ
            rw [if_neg h12] at hr
            refine mV_tabNo f9_chords_31 [0, 1, 2, 3] (by decide) (List.forall_mem_cons.mpr ⟨h9, (List.forall_mem_cons.mpr ⟨h10, (List.forall_mem_cons.mpr ⟨h11, (List.forall_mem_cons.mpr ⟨h12, (fun _ hc => absurd hc List.not_mem_nil)⟩)⟩)⟩)⟩) (by decide : (31 : Int) + 58 = (89 : Nat)) ?_
            refine mV_iload f9_chords_89 rfl ?_
            obtain ⟨z11, hz11, hr⟩ := mBind hr
            refine mV_cS f9_chords_90 tg_m2_spanOf (mC_deep (c2_spanOf X I s x0 hz11) (by decide)) rfl rfl (Nat.le_of_ble_eq_true rfl) ?_
            have hr := Option.some.inj hr; subst hr
            exact mV_iret rfl rfl f9_chords_93 hQ
          · rw [if_pos h8] at hr
            refine mV_push f9_chords_28 ?_
            have hr := Option.some.inj hr; subst hr
            exact mV_iret rfl rfl f9_chords_29 hQ
theorem c9_chords (X : Nat × (Nat → Int32)) (I : mI) (s : Nat) (x0 : Int32) (x1 : Int32) (x2 : Int32) {res : Int32} (hr : r9_chords x0 x1 x2 = some res) : mC X m9_chords 3 0 0 [.ref 0, .int x0, .int x1, .int x2] NN KK I (PP s) (mRet (some (.int res)) NN KK I (PP s)) :=
  mC_of (L0 := [.ref 0, .int x0, .int x1, .int x2]) rfl (Nat.le_of_ble_eq_true rfl) (w9_chords X I s x0 x1 x2 _ hr (mRet_ok _ _ _ _ _))
def r1_addTone (I : mI) (x0 : Int32) : Option (Int32 × mI) := if (x0 : Int32) = ((-1) : Int32) then some (0, (mW I 27 5 0)) else if (x0 : Int32) < (0 : Int32) then some ((-1), I) else if (60 : Int32) < (x0 : Int32) then some ((-1), I) else if (I 27 5 : Int32) < (16 : Int32) then (mSto I 28 16 (I 27 5) x0).bind fun z0 => some ((z0 27 5 + 1), (mW z0 27 5 (z0 27 5 + 1))) else some ((-1), I)
set_option maxHeartbeats 4000000 in
set_option maxRecDepth 100000 in
theorem w1_addTone (X : Nat × (Nat → Int32)) (I : mI) (s : Nat) (x0 : Int32) (Q : mQ) {res : Int32 × mI} (hr : r1_addTone I x0 = some res) (hQ : Q (some (.int res.1)) NN KK res.2 (PP s)) : mV X m1_addTone 0 0 0 0 [.ref 27, .int x0] [] NN KK I (PP s) Q := by
  unfold r1_addTone at hr
  refine mV_iload f1_addTone_0 rfl ?_
  refine mV_push f1_addTone_1 ?_
  refine mV_icmp_ne f1_addTone_2 (fun h0 => ?_) (fun h0 => ?_)
  · rw [if_neg h0] at hr
    refine mV_iload f1_addTone_12 rfl ?_
    refine mV_if_lt f1_addTone_13 (fun h1 => ?_) (fun h1 => ?_)
    · rw [if_pos h1] at hr
      refine mV_push f1_addTone_31 ?_
      have hr := Option.some.inj hr; subst hr
      exact mV_iret rfl rfl f1_addTone_32 hQ
    · rw [if_neg h1] at hr
      refine mV_iload f1_addTone_16 rfl ?_
      refine mV_push f1_addTone_17 ?_
      refine mV_icmp_gt f1_addTone_19 (fun h2 => ?_) (fun h2 => ?_)
      · rw [if_pos h2] at hr
        refine mV_push f1_addTone_31 ?_
        have hr := Option.some.inj hr; subst hr
        exact mV_iret rfl rfl f1_addTone_32 hQ
      · rw [if_neg h2] at hr
        refine mV_aload f1_addTone_22 rfl ?_
        refine mV_gI (I 27 5) f1_addTone_23 (by decide) kk_27 rfl rfl ?_
        refine mV_push f1_addTone_26 ?_
        refine mV_icmp_lt f1_addTone_28 (fun h3 => ?_) (fun h3 => ?_)
        · rw [if_pos h3] at hr
          refine mV_aload f1_addTone_33 rfl ?_
          refine mV_getP f1_addTone_34 (by decide) kk_27 rfl (pp_27_0 _) ?_
          refine mV_aload f1_addTone_37 rfl ?_
          refine mV_gI (I 27 5) f1_addTone_38 (by decide) kk_27 rfl rfl ?_
          refine mV_iload f1_addTone_41 rfl ?_
          obtain ⟨z0, hz0, hr⟩ := mBind hr
          refine mV_stO f1_addTone_42 (by decide) kk_28 hz0 ?_
          refine mV_aload f1_addTone_43 rfl ?_
          refine mV_dup f1_addTone_44 rfl ?_
          refine mV_gI (z0 27 5) f1_addTone_45 (by decide) kk_27 rfl rfl ?_
          refine mV_push f1_addTone_48 ?_
          refine mV_iadd f1_addTone_49 ?_
          refine mV_putI f1_addTone_50 (by decide) kk_27 rfl rfl ?_
          refine mV_aload f1_addTone_53 rfl ?_
          refine mV_gI (z0 27 5 + 1) f1_addTone_54 (by decide) kk_27 rfl rfl ?_
          have hr := Option.some.inj hr; subst hr
          exact mV_iret rfl rfl f1_addTone_57 hQ
        · rw [if_neg h3] at hr
          refine mV_push f1_addTone_31 ?_
          have hr := Option.some.inj hr; subst hr
          exact mV_iret rfl rfl f1_addTone_32 hQ
  · rw [if_pos h0] at hr
    refine mV_aload f1_addTone_5 rfl ?_
    refine mV_push f1_addTone_6 ?_
    refine mV_putI f1_addTone_7 (by decide) kk_27 rfl rfl ?_
    refine mV_push f1_addTone_10 ?_
    have hr := Option.some.inj hr; subst hr
    exact mV_iret rfl rfl f1_addTone_11 hQ
theorem c1_addTone (X : Nat × (Nat → Int32)) (I : mI) (s : Nat) (x0 : Int32) {res : Int32 × mI} (hr : r1_addTone I x0 = some res) : mC X m1_addTone 0 0 0 [.ref 27, .int x0] NN KK I (PP s) (mRet (some (.int res.1)) NN KK res.2 (PP s)) :=
  mC_of (L0 := [.ref 27, .int x0]) rfl (Nat.le_of_ble_eq_true rfl) (w1_addTone X I s x0 _ hr (mRet_ok _ _ _ _ _))
def r9_tone (I : mI) (x0 : Int32) : Option (Int32 × mI) := (r1_addTone I x0).bind fun z0 => some (z0.1, z0.2)
set_option maxHeartbeats 4000000 in
set_option maxRecDepth 100000 in
theorem w9_tone (X : Nat × (Nat → Int32)) (I : mI) (s : Nat) (x0 : Int32) (Q : mQ) {res : Int32 × mI} (hr : r9_tone I x0 = some res) (hQ : Q (some (.int res.1)) NN KK res.2 (PP s)) : mV X m9_tone 1 0 0 0 [.ref 0, .int x0] [] NN KK I (PP s) Q := by
  unfold r9_tone at hr
  refine mV_aload f9_tone_0 rfl ?_
  refine mV_getP f9_tone_1 (by decide) kk_0 rfl (pp_0_1 _) ?_
  refine mV_getP f9_tone_4 (by decide) kk_2 rfl (pp_2_6 _) ?_
  refine mV_iload f9_tone_7 rfl ?_
  obtain ⟨z0, hz0, hr⟩ := mBind hr
  refine mV_cV f9_tone_8 tg_m1_addTone mCls1 (by decide) kk_27 (mC_deep (c1_addTone X I s x0 hz0) (by decide)) rfl rfl (Nat.le_of_ble_eq_true rfl) ?_
  have hr := Option.some.inj hr; subst hr
  exact mV_iret rfl rfl f9_tone_11 hQ
theorem c9_tone (X : Nat × (Nat → Int32)) (I : mI) (s : Nat) (x0 : Int32) {res : Int32 × mI} (hr : r9_tone I x0 = some res) : mC X m9_tone 1 0 0 [.ref 0, .int x0] NN KK I (PP s) (mRet (some (.int res.1)) NN KK res.2 (PP s)) :=
  mC_of (L0 := [.ref 0, .int x0]) rfl (Nat.le_of_ble_eq_true rfl) (w9_tone X I s x0 _ hr (mRet_ok _ _ _ _ _))
def r1_stepCost (I : mI) (x0 : Int32) (x1 : Int32) (x2 : Int32) : Option (Int32) := (mLd I 28 16 (x0 + 1)).bind fun z0 => (mLd I 28 16 x0).bind fun z1 => (if (x1 : Int32) = (x2 : Int32) then if ((z0 - z1) : Int32) = (0 : Int32) then some (mAbs ((z0 - z1) - (2 * (x2 - x1)))) else some ((mAbs ((z0 - z1) - (2 * (x2 - x1)))) + 9) else some (mAbs ((z0 - z1) - (2 * (x2 - x1)))) : Option (Int32)).bind fun z2 => some z2
set_option maxHeartbeats 4000000 in
set_option maxRecDepth 100000 in
theorem w1_stepCost (X : Nat × (Nat → Int32)) (I : mI) (s : Nat) (x0 : Int32) (x1 : Int32) (x2 : Int32) (Q : mQ) {res : Int32} (hr : r1_stepCost I x0 x1 x2 = some res) (hQ : Q (some (.int res)) NN KK I (PP s)) : mV X m1_stepCost 1 0 0 0 [.ref 27, .int x0, .int x1, .int x2, mX0, mX0] [] NN KK I (PP s) Q := by
  unfold r1_stepCost at hr
  refine mV_aload f1_stepCost_0 rfl ?_
  refine mV_getP f1_stepCost_1 (by decide) kk_27 rfl (pp_27_0 _) ?_
  refine mV_iload f1_stepCost_4 rfl ?_
  refine mV_push f1_stepCost_5 ?_
  refine mV_iadd f1_stepCost_6 ?_
  obtain ⟨z0, hz0, hr⟩ := mBind hr
  refine mV_ldO f1_stepCost_7 (by decide) kk_28 hz0 ?_
  refine mV_aload f1_stepCost_8 rfl ?_
  refine mV_getP f1_stepCost_9 (by decide) kk_27 rfl (pp_27_0 _) ?_
  refine mV_iload f1_stepCost_12 rfl ?_
  obtain ⟨z1, hz1, hr⟩ := mBind hr
  refine mV_ldO f1_stepCost_13 (by decide) kk_28 hz1 ?_
  refine mV_isub f1_stepCost_14 ?_
  refine mV_istore (L' := [.ref 27, .int x0, .int x1, .int x2, .int (z0 - z1), mX0]) f1_stepCost_15 (by decide) rfl rfl ?_
  refine mV_iload f1_stepCost_17 rfl ?_
  refine mV_push f1_stepCost_19 ?_
  refine mV_iload f1_stepCost_20 rfl ?_
  refine mV_iload f1_stepCost_21 rfl ?_
  refine mV_isub f1_stepCost_22 ?_
  refine mV_imul f1_stepCost_23 ?_
  refine mV_isub f1_stepCost_24 ?_
  refine mV_absC fm1_stepCost_25 (Nat.le_of_ble_eq_true rfl) ?_
  refine mV_istore (L' := [.ref 27, .int x0, .int x1, .int x2, .int (z0 - z1), .int (mAbs ((z0 - z1) - (2 * (x2 - x1))))]) f1_stepCost_28 (by decide) rfl rfl ?_
  refine mV_iload f1_stepCost_30 rfl ?_
  refine mV_iload f1_stepCost_31 rfl ?_
  obtain ⟨z2, hz2, hr⟩ := mBind hr
  have keyz2 : mV X m1_stepCost 1 0 0 50 [.ref 27, mX0, mX0, mX0, mX0, mX0] [.int z2] NN KK I (PP s) Q := by
    have hr := Option.some.inj hr; subst hr
    exact mV_iret rfl rfl f1_stepCost_50 hQ
  clear hr
  have hr := hz2
  clear hz2
  refine mV_icmp_ne f1_stepCost_32 (fun h0 => ?_) (fun h0 => ?_)
  · rw [if_neg h0] at hr
    refine mV_iload f1_stepCost_48 rfl ?_
    have hr := Option.some.inj hr; subst hr
    refine mV_drop (L' := [.ref 27, mX0, mX0, mX0, mX0, mX0]) (mSub_k (mSub_x (mSub_x (mSub_x (mSub_x (mSub_x mSub_n)))))) ?_
    exact keyz2
  · rw [if_pos h0] at hr
    refine mV_iload f1_stepCost_35 rfl ?_
    refine mV_if_eq f1_stepCost_37 (fun h1 => ?_) (fun h1 => ?_)
    · rw [if_pos h1] at hr
      refine mV_iload f1_stepCost_48 rfl ?_
      have hr := Option.some.inj hr; subst hr
      refine mV_drop (L' := [.ref 27, mX0, mX0, mX0, mX0, mX0]) (mSub_k (mSub_x (mSub_x (mSub_x (mSub_x (mSub_x mSub_n)))))) ?_
      exact keyz2
    · rw [if_neg h1] at hr
      refine mV_iload f1_stepCost_40 rfl ?_
      refine mV_push f1_stepCost_42 ?_
      refine mV_iadd f1_stepCost_44 ?_
      refine mV_goto f1_stepCost_45 ?_
      have hr := Option.some.inj hr; subst hr
      refine mV_drop (L' := [.ref 27, mX0, mX0, mX0, mX0, mX0]) (mSub_k (mSub_x (mSub_x (mSub_x (mSub_x (mSub_x mSub_n)))))) ?_
      exact keyz2
theorem c1_stepCost (X : Nat × (Nat → Int32)) (I : mI) (s : Nat) (x0 : Int32) (x1 : Int32) (x2 : Int32) {res : Int32} (hr : r1_stepCost I x0 x1 x2 = some res) : mC X m1_stepCost 1 0 0 [.ref 27, .int x0, .int x1, .int x2] NN KK I (PP s) (mRet (some (.int res)) NN KK I (PP s)) :=
  mC_of (L0 := [.ref 27, .int x0, .int x1, .int x2, mX0, mX0]) rfl (Nat.le_of_ble_eq_true rfl) (w1_stepCost X I s x0 x1 x2 _ hr (mRet_ok _ _ _ _ _))
def l1_costFrom_18 (I : mI) (k1 : Int32) (k2 : Int32) : Nat → Int32 → Int32 → Option (Int32)
  | 0, _, _ => none
  | f + 1, y3, y4 => if (5 : Int32) ≤ (y4 : Int32) then some y3 else (r1_stepCost I k1 k2 y4).bind fun z0 => (mLd I 33 80 (((k1 + 1) * 5) + y4)).bind fun z1 => l1_costFrom_18 I k1 k2 f (mMin y3 (z0 + z1)) (y4 + 1)
def r1_costFrom (I : mI) (x0 : Int32) (x1 : Int32) : Option (Int32) := if ((x0 + 1) : Int32) < (I 27 5 : Int32) then (l1_costFrom_18 I x0 x1 FU 1000000 0).bind fun z0 => some z0 else some 0
set_option maxHeartbeats 4000000 in
set_option maxRecDepth 100000 in
theorem t1_costFrom_18 (X : Nat × (Nat → Int32)) (Q : mQ) (s : Nat) (I : mI) (k1 : Int32) (k2 : Int32) : ∀ (f : Nat) (y3 : Int32) (y4 : Int32) (z : Int32), l1_costFrom_18 I k1 k2 f y3 y4 = some z → mV X m1_costFrom 2 0 0 57 [.ref 27, .int k1, .int k2, .int z, mX0] [] NN KK I (PP s) Q → mV X m1_costFrom 2 0 0 18 [.ref 27, .int k1, .int k2, .int y3, .int y4] [] NN KK I (PP s) Q := by
  intro f
  induction f with
  | zero => intro y3 y4 z hr hk; cases hr
  | succ f ih =>
    intro y3 y4 z hr hk
    unfold l1_costFrom_18 at hr
    refine mV_iload f1_costFrom_18 rfl ?_
    refine mV_push f1_costFrom_20 ?_
    refine mV_icmp_ge f1_costFrom_21 (fun h0 => ?_) (fun h0 => ?_)
    · rw [if_pos h0] at hr
      have hr := Option.some.inj hr; subst hr
      refine mV_drop (L' := [.ref 27, .int k1, .int k2, .int y3, mX0]) (mSub_k (mSub_k (mSub_k (mSub_k (mSub_x mSub_n))))) ?_
      exact hk
    · rw [if_neg h0] at hr
      refine mV_iload f1_costFrom_24 rfl ?_
      refine mV_aload f1_costFrom_25 rfl ?_
      refine mV_iload f1_costFrom_26 rfl ?_
      refine mV_iload f1_costFrom_27 rfl ?_
      refine mV_iload f1_costFrom_28 rfl ?_
      obtain ⟨z0, hz0, hr⟩ := mBind hr
      refine mV_cV f1_costFrom_30 tg_m1_stepCost mCls1 (by decide) kk_27 (mC_deep (c1_stepCost X I s k1 k2 y4 hz0) (by decide)) rfl rfl (Nat.le_of_ble_eq_true rfl) ?_
      refine mV_aload f1_costFrom_33 rfl ?_
      refine mV_getP f1_costFrom_34 (by decide) kk_27 rfl (pp_27_7 _) ?_
      refine mV_iload f1_costFrom_37 rfl ?_
      refine mV_push f1_costFrom_38 ?_
      refine mV_iadd f1_costFrom_39 ?_
      refine mV_push f1_costFrom_40 ?_
      refine mV_imul f1_costFrom_41 ?_
      refine mV_iload f1_costFrom_42 rfl ?_
      refine mV_iadd f1_costFrom_44 ?_
      obtain ⟨z1, hz1, hr⟩ := mBind hr
      refine mV_ldO f1_costFrom_45 (by decide) kk_33 hz1 ?_
      refine mV_iadd f1_costFrom_46 ?_
      refine mV_minC fm1_costFrom_47 (Nat.le_of_ble_eq_true rfl) ?_
      refine mV_istore (L' := [.ref 27, .int k1, .int k2, .int (mMin y3 (z0 + z1)), .int y4]) f1_costFrom_50 (by decide) rfl rfl ?_
      refine mV_iinc (y := (y4 + 1)) (L' := [.ref 27, .int k1, .int k2, .int (mMin y3 (z0 + z1)), .int (y4 + 1)]) f1_costFrom_51 rfl rfl (by decide) rfl rfl ?_
      refine mV_goto f1_costFrom_54 ?_
      exact ih (mMin y3 (z0 + z1)) (y4 + 1) _ hr hk
set_option maxHeartbeats 4000000 in
set_option maxRecDepth 100000 in
theorem w1_costFrom (X : Nat × (Nat → Int32)) (I : mI) (s : Nat) (x0 : Int32) (x1 : Int32) (Q : mQ) {res : Int32} (hr : r1_costFrom I x0 x1 = some res) (hQ : Q (some (.int res)) NN KK I (PP s)) : mV X m1_costFrom 2 0 0 0 [.ref 27, .int x0, .int x1, mX0, mX0] [] NN KK I (PP s) Q := by
  unfold r1_costFrom at hr
  refine mV_iload f1_costFrom_0 rfl ?_
  refine mV_push f1_costFrom_1 ?_
  refine mV_iadd f1_costFrom_2 ?_
  refine mV_aload f1_costFrom_3 rfl ?_
  refine mV_gI (I 27 5) f1_costFrom_4 (by decide) kk_27 rfl rfl ?_
  refine mV_icmp_lt f1_costFrom_7 (fun h0 => ?_) (fun h0 => ?_)
  · rw [if_pos h0] at hr
    refine mV_push f1_costFrom_12 ?_
    refine mV_istore (L' := [.ref 27, .int x0, .int x1, .int 1000000, mX0]) f1_costFrom_14 (by decide) rfl rfl ?_
    refine mV_push f1_costFrom_15 ?_
    refine mV_istore (L' := [.ref 27, .int x0, .int x1, .int 1000000, .int 0]) f1_costFrom_16 (by decide) rfl rfl ?_
    obtain ⟨z0, hz0, hr⟩ := mBind hr
    refine t1_costFrom_18 X Q s I x0 x1 FU 1000000 0 _ hz0 ?_
    refine mV_iload f1_costFrom_57 rfl ?_
    have hr := Option.some.inj hr; subst hr
    exact mV_iret rfl rfl f1_costFrom_58 hQ
  · rw [if_neg h0] at hr
    refine mV_push f1_costFrom_10 ?_
    have hr := Option.some.inj hr; subst hr
    exact mV_iret rfl rfl f1_costFrom_11 hQ
theorem c1_costFrom (X : Nat × (Nat → Int32)) (I : mI) (s : Nat) (x0 : Int32) (x1 : Int32) {res : Int32} (hr : r1_costFrom I x0 x1 = some res) : mC X m1_costFrom 2 0 0 [.ref 27, .int x0, .int x1] NN KK I (PP s) (mRet (some (.int res)) NN KK I (PP s)) :=
  mC_of (L0 := [.ref 27, .int x0, .int x1, mX0, mX0]) rfl (Nat.le_of_ble_eq_true rfl) (w1_costFrom X I s x0 x1 _ hr (mRet_ok _ _ _ _ _))
def l1_reckonFingers_13 (k1 : Int32) : Nat → Int32 → mI → Option (mI)
  | 0, _, _ => none
  | f + 1, y2, I => if (5 : Int32) ≤ (y2 : Int32) then some I else (r1_costFrom I k1 y2).bind fun z0 => (mSto I 33 80 ((k1 * 5) + y2) z0).bind fun z1 => l1_reckonFingers_13 k1 f (y2 + 1) z1
def l1_reckonFingers_7 : Nat → Int32 → mI → Option (mI)
  | 0, _, _ => none
  | f + 1, y1, I => if (y1 : Int32) < (0 : Int32) then some I else (l1_reckonFingers_13 y1 FU 0 I).bind fun z0 => l1_reckonFingers_7 f (y1 + (-1)) z0
def r1_reckonFingers (I : mI) : Option (mI) := (l1_reckonFingers_7 FU (I 27 5 - 1) I).bind fun z0 => some z0
set_option maxHeartbeats 4000000 in
set_option maxRecDepth 100000 in
theorem t1_reckonFingers_13 (X : Nat × (Nat → Int32)) (Q : mQ) (s : Nat) (k1 : Int32) : ∀ (f : Nat) (y2 : Int32) (I : mI) (z : mI), l1_reckonFingers_13 k1 f y2 I = some z → mV X m1_reckonFingers 3 0 0 40 [.ref 27, .int k1, mX0] [] NN KK z (PP s) Q → mV X m1_reckonFingers 3 0 0 13 [.ref 27, .int k1, .int y2] [] NN KK I (PP s) Q := by
  intro f
  induction f with
  | zero => intro y2 I z hr hk; cases hr
  | succ f ih =>
    intro y2 I z hr hk
    unfold l1_reckonFingers_13 at hr
    refine mV_iload f1_reckonFingers_13 rfl ?_
    refine mV_push f1_reckonFingers_14 ?_
    refine mV_icmp_ge f1_reckonFingers_15 (fun h0 => ?_) (fun h0 => ?_)
    · rw [if_pos h0] at hr
      have hr := Option.some.inj hr; subst hr
      refine mV_drop (L' := [.ref 27, .int k1, mX0]) (mSub_k (mSub_k (mSub_x mSub_n))) ?_
      exact hk
    · rw [if_neg h0] at hr
      refine mV_aload f1_reckonFingers_18 rfl ?_
      refine mV_getP f1_reckonFingers_19 (by decide) kk_27 rfl (pp_27_7 _) ?_
      refine mV_iload f1_reckonFingers_22 rfl ?_
      refine mV_push f1_reckonFingers_23 ?_
      refine mV_imul f1_reckonFingers_24 ?_
      refine mV_iload f1_reckonFingers_25 rfl ?_
      refine mV_iadd f1_reckonFingers_26 ?_
      refine mV_aload f1_reckonFingers_27 rfl ?_
      refine mV_iload f1_reckonFingers_28 rfl ?_
      refine mV_iload f1_reckonFingers_29 rfl ?_
      obtain ⟨z0, hz0, hr⟩ := mBind hr
      refine mV_cV f1_reckonFingers_30 tg_m1_costFrom mCls1 (by decide) kk_27 (mC_deep (c1_costFrom X I s k1 y2 hz0) (by decide)) rfl rfl (Nat.le_of_ble_eq_true rfl) ?_
      obtain ⟨z1, hz1, hr⟩ := mBind hr
      refine mV_stO f1_reckonFingers_33 (by decide) kk_33 hz1 ?_
      refine mV_iinc (y := (y2 + 1)) (L' := [.ref 27, .int k1, .int (y2 + 1)]) f1_reckonFingers_34 rfl rfl (by decide) rfl rfl ?_
      refine mV_goto f1_reckonFingers_37 ?_
      exact ih (y2 + 1) z1 _ hr hk
set_option maxHeartbeats 4000000 in
set_option maxRecDepth 100000 in
theorem t1_reckonFingers_7 (X : Nat × (Nat → Int32)) (Q : mQ) (s : Nat) : ∀ (f : Nat) (y1 : Int32) (I : mI) (z : mI), l1_reckonFingers_7 f y1 I = some z → mV X m1_reckonFingers 3 0 0 46 [.ref 27, mX0, mX0] [] NN KK z (PP s) Q → mV X m1_reckonFingers 3 0 0 7 [.ref 27, .int y1, mX0] [] NN KK I (PP s) Q := by
  intro f
  induction f with
  | zero => intro y1 I z hr hk; cases hr
  | succ f ih =>
    intro y1 I z hr hk
    unfold l1_reckonFingers_7 at hr
    refine mV_iload f1_reckonFingers_7 rfl ?_
    refine mV_if_lt f1_reckonFingers_8 (fun h0 => ?_) (fun h0 => ?_)
    · rw [if_pos h0] at hr
      have hr := Option.some.inj hr; subst hr
      refine mV_drop (L' := [.ref 27, mX0, mX0]) (mSub_k (mSub_x (mSub_x mSub_n))) ?_
      exact hk
    · rw [if_neg h0] at hr
      refine mV_push f1_reckonFingers_11 ?_
      refine mV_istore (L' := [.ref 27, .int y1, .int 0]) f1_reckonFingers_12 (by decide) rfl rfl ?_
      obtain ⟨z0, hz0, hr⟩ := mBind hr
      refine t1_reckonFingers_13 X Q s y1 FU 0 I _ hz0 ?_
      refine mV_iinc (y := (y1 + (-1))) (L' := [.ref 27, .int (y1 + (-1)), mX0]) f1_reckonFingers_40 rfl rfl (by decide) rfl rfl ?_
      refine mV_goto f1_reckonFingers_43 ?_
      exact ih (y1 + (-1)) z0 _ hr hk
set_option maxHeartbeats 4000000 in
set_option maxRecDepth 100000 in
theorem w1_reckonFingers (X : Nat × (Nat → Int32)) (I : mI) (s : Nat) (Q : mQ) {res : mI} (hr : r1_reckonFingers I = some res) (hQ : Q none NN KK res (PP s)) : mV X m1_reckonFingers 3 0 0 0 [.ref 27, mX0, mX0] [] NN KK I (PP s) Q := by
  unfold r1_reckonFingers at hr
  refine mV_aload f1_reckonFingers_0 rfl ?_
  refine mV_gI (I 27 5) f1_reckonFingers_1 (by decide) kk_27 rfl rfl ?_
  refine mV_push f1_reckonFingers_4 ?_
  refine mV_isub f1_reckonFingers_5 ?_
  refine mV_istore (L' := [.ref 27, .int (I 27 5 - 1), mX0]) f1_reckonFingers_6 (by decide) rfl rfl ?_
  obtain ⟨z0, hz0, hr⟩ := mBind hr
  refine t1_reckonFingers_7 X Q s FU (I 27 5 - 1) I _ hz0 ?_
  have hr := Option.some.inj hr; subst hr
  exact mV_vret rfl f1_reckonFingers_46 hQ
theorem c1_reckonFingers (X : Nat × (Nat → Int32)) (I : mI) (s : Nat) {res : mI} (hr : r1_reckonFingers I = some res) : mC X m1_reckonFingers 3 0 0 [.ref 27] NN KK I (PP s) (mRet none NN KK res (PP s)) :=
  mC_of (L0 := [.ref 27, mX0, mX0]) rfl (Nat.le_of_ble_eq_true rfl) (w1_reckonFingers X I s _ hr (mRet_ok _ _ _ _ _))
def l1_cheapestFirst_4 (I : mI) : Nat → Int32 → Int32 → Option (Int32)
  | 0, _, _ => none
  | f + 1, y1, y2 => if (5 : Int32) ≤ (y2 : Int32) then some y1 else (mLd I 33 80 y2).bind fun z0 => (mLd I 33 80 y1).bind fun z1 => (if (z1 : Int32) ≤ (z0 : Int32) then some y1 else some y2 : Option (Int32)).bind fun z2 => l1_cheapestFirst_4 I f z2 (y2 + 1)
def r1_cheapestFirst (I : mI) : Option (Int32) := (l1_cheapestFirst_4 I FU 0 1).bind fun z0 => some z0
set_option maxHeartbeats 4000000 in
set_option maxRecDepth 100000 in
theorem t1_cheapestFirst_4 (X : Nat × (Nat → Int32)) (Q : mQ) (s : Nat) (I : mI) : ∀ (f : Nat) (y1 : Int32) (y2 : Int32) (z : Int32), l1_cheapestFirst_4 I f y1 y2 = some z → mV X m1_cheapestFirst 0 0 0 32 [.ref 27, .int z, mX0] [] NN KK I (PP s) Q → mV X m1_cheapestFirst 0 0 0 4 [.ref 27, .int y1, .int y2] [] NN KK I (PP s) Q := by
  intro f
  induction f with
  | zero => intro y1 y2 z hr hk; cases hr
  | succ f ih =>
    intro y1 y2 z hr hk
    unfold l1_cheapestFirst_4 at hr
    refine mV_iload f1_cheapestFirst_4 rfl ?_
    refine mV_push f1_cheapestFirst_5 ?_
    refine mV_icmp_ge f1_cheapestFirst_6 (fun h0 => ?_) (fun h0 => ?_)
    · rw [if_pos h0] at hr
      have hr := Option.some.inj hr; subst hr
      refine mV_drop (L' := [.ref 27, .int y1, mX0]) (mSub_k (mSub_k (mSub_x mSub_n))) ?_
      exact hk
    · rw [if_neg h0] at hr
      refine mV_aload f1_cheapestFirst_9 rfl ?_
      refine mV_getP f1_cheapestFirst_10 (by decide) kk_27 rfl (pp_27_7 _) ?_
      refine mV_iload f1_cheapestFirst_13 rfl ?_
      obtain ⟨z0, hz0, hr⟩ := mBind hr
      refine mV_ldO f1_cheapestFirst_14 (by decide) kk_33 hz0 ?_
      refine mV_aload f1_cheapestFirst_15 rfl ?_
      refine mV_getP f1_cheapestFirst_16 (by decide) kk_27 rfl (pp_27_7 _) ?_
      refine mV_iload f1_cheapestFirst_19 rfl ?_
      obtain ⟨z1, hz1, hr⟩ := mBind hr
      refine mV_ldO f1_cheapestFirst_20 (by decide) kk_33 hz1 ?_
      obtain ⟨z2, hz2, hr⟩ := mBind hr
      have keyz2 : mV X m1_cheapestFirst 0 0 0 26 [.ref 27, .int z2, .int y2] [] NN KK I (PP s) Q := by
        refine mV_iinc (y := (y2 + 1)) (L' := [.ref 27, .int z2, .int (y2 + 1)]) f1_cheapestFirst_26 rfl rfl (by decide) rfl rfl ?_
        refine mV_goto f1_cheapestFirst_29 ?_
        exact ih z2 (y2 + 1) _ hr hk
      clear hr
      have hr := hz2
      clear hz2
      refine mV_icmp_ge f1_cheapestFirst_21 (fun h1 => ?_) (fun h1 => ?_)
      · rw [if_pos h1] at hr
        have hr := Option.some.inj hr; subst hr
        exact keyz2
      · rw [if_neg h1] at hr
        refine mV_iload f1_cheapestFirst_24 rfl ?_
        refine mV_istore (L' := [.ref 27, .int y2, .int y2]) f1_cheapestFirst_25 (by decide) rfl rfl ?_
        have hr := Option.some.inj hr; subst hr
        exact keyz2
set_option maxHeartbeats 4000000 in
set_option maxRecDepth 100000 in
theorem w1_cheapestFirst (X : Nat × (Nat → Int32)) (I : mI) (s : Nat) (Q : mQ) {res : Int32} (hr : r1_cheapestFirst I = some res) (hQ : Q (some (.int res)) NN KK I (PP s)) : mV X m1_cheapestFirst 0 0 0 0 [.ref 27, mX0, mX0] [] NN KK I (PP s) Q := by
  unfold r1_cheapestFirst at hr
  refine mV_push f1_cheapestFirst_0 ?_
  refine mV_istore (L' := [.ref 27, .int 0, mX0]) f1_cheapestFirst_1 (by decide) rfl rfl ?_
  refine mV_push f1_cheapestFirst_2 ?_
  refine mV_istore (L' := [.ref 27, .int 0, .int 1]) f1_cheapestFirst_3 (by decide) rfl rfl ?_
  obtain ⟨z0, hz0, hr⟩ := mBind hr
  refine t1_cheapestFirst_4 X Q s I FU 0 1 _ hz0 ?_
  refine mV_iload f1_cheapestFirst_32 rfl ?_
  have hr := Option.some.inj hr; subst hr
  exact mV_iret rfl rfl f1_cheapestFirst_33 hQ
theorem c1_cheapestFirst (X : Nat × (Nat → Int32)) (I : mI) (s : Nat) {res : Int32} (hr : r1_cheapestFirst I = some res) : mC X m1_cheapestFirst 0 0 0 [.ref 27] NN KK I (PP s) (mRet (some (.int res)) NN KK I (PP s)) :=
  mC_of (L0 := [.ref 27, mX0, mX0]) rfl (Nat.le_of_ble_eq_true rfl) (w1_cheapestFirst X I s _ hr (mRet_ok _ _ _ _ _))
def l1_fingerOf_32 (I : mI) (k3 : Int32) (k4 : Int32) : Nat → Int32 → Option (Int32)
  | 0, _ => none
  | f + 1, y5 => if (4 : Int32) ≤ (y5 : Int32) then some y5 else (r1_stepCost I k3 k4 y5).bind fun z0 => (mLd I 33 80 (((k3 + 1) * 5) + y5)).bind fun z1 => (mLd I 33 80 ((k3 * 5) + k4)).bind fun z2 => if ((z0 + z1) : Int32) = (z2 : Int32) then some y5 else l1_fingerOf_32 I k3 k4 f (y5 + 1)
def l1_fingerOf_11 (I : mI) (k1 : Int32) : Nat → Int32 → Int32 → Option (Int32)
  | 0, _, _ => none
  | f + 1, y2, y3 => if (k1 : Int32) ≤ (y3 : Int32) then some y2 else if (I 27 5 : Int32) ≤ ((y3 + 1) : Int32) then some y2 else (l1_fingerOf_32 I y3 y2 FU 0).bind fun z0 => l1_fingerOf_11 I k1 f z0 (y3 + 1)
def r1_fingerOf (I : mI) (x0 : Int32) : Option (Int32 × mI) := (r1_reckonFingers I).bind fun z0 => (r1_cheapestFirst z0).bind fun z1 => (l1_fingerOf_11 z0 x0 FU z1 0).bind fun z2 => some ((z2 + 1), z0)
set_option maxHeartbeats 4000000 in
set_option maxRecDepth 100000 in
theorem t1_fingerOf_32 (X : Nat × (Nat → Int32)) (Q : mQ) (s : Nat) (I : mI) (k1 : Int32) (k3 : Int32) (k4 : Int32) : ∀ (f : Nat) (y5 : Int32) (z : Int32), l1_fingerOf_32 I k3 k4 f y5 = some z → mV X m1_fingerOf 4 0 0 81 [.ref 27, .int k1, mX0, .int k3, .int k4, .int z] [] NN KK I (PP s) Q → mV X m1_fingerOf 4 0 0 32 [.ref 27, .int k1, mX0, .int k3, .int k4, .int y5] [] NN KK I (PP s) Q := by
  intro f
  induction f with
  | zero => intro y5 z hr hk; cases hr
  | succ f ih =>
    intro y5 z hr hk
    unfold l1_fingerOf_32 at hr
    refine mV_iload f1_fingerOf_32 rfl ?_
    refine mV_push f1_fingerOf_34 ?_
    refine mV_icmp_ge f1_fingerOf_35 (fun h0 => ?_) (fun h0 => ?_)
    · rw [if_pos h0] at hr
      have hr := Option.some.inj hr; subst hr
      exact hk
    · rw [if_neg h0] at hr
      refine mV_aload f1_fingerOf_38 rfl ?_
      refine mV_iload f1_fingerOf_39 rfl ?_
      refine mV_iload f1_fingerOf_40 rfl ?_
      refine mV_iload f1_fingerOf_42 rfl ?_
      obtain ⟨z0, hz0, hr⟩ := mBind hr
      refine mV_cV f1_fingerOf_44 tg_m1_stepCost mCls1 (by decide) kk_27 (mC_deep (c1_stepCost X I s k3 k4 y5 hz0) (by decide)) rfl rfl (Nat.le_of_ble_eq_true rfl) ?_
      refine mV_aload f1_fingerOf_47 rfl ?_
      refine mV_getP f1_fingerOf_48 (by decide) kk_27 rfl (pp_27_7 _) ?_
      refine mV_iload f1_fingerOf_51 rfl ?_
      refine mV_push f1_fingerOf_52 ?_
      refine mV_iadd f1_fingerOf_53 ?_
      refine mV_push f1_fingerOf_54 ?_
      refine mV_imul f1_fingerOf_55 ?_
      refine mV_iload f1_fingerOf_56 rfl ?_
      refine mV_iadd f1_fingerOf_58 ?_
      obtain ⟨z1, hz1, hr⟩ := mBind hr
      refine mV_ldO f1_fingerOf_59 (by decide) kk_33 hz1 ?_
      refine mV_iadd f1_fingerOf_60 ?_
      refine mV_aload f1_fingerOf_61 rfl ?_
      refine mV_getP f1_fingerOf_62 (by decide) kk_27 rfl (pp_27_7 _) ?_
      refine mV_iload f1_fingerOf_65 rfl ?_
      refine mV_push f1_fingerOf_66 ?_
      refine mV_imul f1_fingerOf_67 ?_
      refine mV_iload f1_fingerOf_68 rfl ?_
      refine mV_iadd f1_fingerOf_70 ?_
      obtain ⟨z2, hz2, hr⟩ := mBind hr
      refine mV_ldO f1_fingerOf_71 (by decide) kk_33 hz2 ?_
      refine mV_icmp_eq f1_fingerOf_72 (fun h1 => ?_) (fun h1 => ?_)
      · rw [if_pos h1] at hr
        have hr := Option.some.inj hr; subst hr
        exact hk
      · rw [if_neg h1] at hr
        refine mV_iinc (y := (y5 + 1)) (L' := [.ref 27, .int k1, mX0, .int k3, .int k4, .int (y5 + 1)]) f1_fingerOf_75 rfl rfl (by decide) rfl rfl ?_
        refine mV_goto f1_fingerOf_78 ?_
        exact ih (y5 + 1) _ hr hk
set_option maxHeartbeats 4000000 in
set_option maxRecDepth 100000 in
theorem t1_fingerOf_11 (X : Nat × (Nat → Int32)) (Q : mQ) (s : Nat) (I : mI) (k1 : Int32) : ∀ (f : Nat) (y2 : Int32) (y3 : Int32) (z : Int32), l1_fingerOf_11 I k1 f y2 y3 = some z → mV X m1_fingerOf 4 0 0 90 [.ref 27, .int k1, .int z, mX0, mX0, mX0] [] NN KK I (PP s) Q → mV X m1_fingerOf 4 0 0 11 [.ref 27, .int k1, .int y2, .int y3, mX0, mX0] [] NN KK I (PP s) Q := by
  intro f
  induction f with
  | zero => intro y2 y3 z hr hk; cases hr
  | succ f ih =>
    intro y2 y3 z hr hk
    unfold l1_fingerOf_11 at hr
    refine mV_iload f1_fingerOf_11 rfl ?_
    refine mV_iload f1_fingerOf_12 rfl ?_
    refine mV_icmp_ge f1_fingerOf_13 (fun h0 => ?_) (fun h0 => ?_)
    · rw [if_pos h0] at hr
      have hr := Option.some.inj hr; subst hr
      refine mV_drop (L' := [.ref 27, .int k1, .int y2, mX0, mX0, mX0]) (mSub_k (mSub_k (mSub_k (mSub_x (mSub_x (mSub_x mSub_n)))))) ?_
      exact hk
    · rw [if_neg h0] at hr
      refine mV_iload f1_fingerOf_16 rfl ?_
      refine mV_push f1_fingerOf_17 ?_
      refine mV_iadd f1_fingerOf_18 ?_
      refine mV_aload f1_fingerOf_19 rfl ?_
      refine mV_gI (I 27 5) f1_fingerOf_20 (by decide) kk_27 rfl rfl ?_
      refine mV_icmp_ge f1_fingerOf_23 (fun h1 => ?_) (fun h1 => ?_)
      · rw [if_pos h1] at hr
        have hr := Option.some.inj hr; subst hr
        refine mV_drop (L' := [.ref 27, .int k1, .int y2, mX0, mX0, mX0]) (mSub_k (mSub_k (mSub_k (mSub_x (mSub_x (mSub_x mSub_n)))))) ?_
        exact hk
      · rw [if_neg h1] at hr
        refine mV_iload f1_fingerOf_26 rfl ?_
        refine mV_istore (L' := [.ref 27, .int k1, .int y2, .int y3, .int y2, mX0]) f1_fingerOf_27 (by decide) rfl rfl ?_
        refine mV_push f1_fingerOf_29 ?_
        refine mV_istore (L' := [.ref 27, .int k1, .int y2, .int y3, .int y2, .int 0]) f1_fingerOf_30 (by decide) rfl rfl ?_
        obtain ⟨z0, hz0, hr⟩ := mBind hr
        refine mV_drop (L' := [.ref 27, .int k1, mX0, .int y3, .int y2, .int 0]) (mSub_k (mSub_k (mSub_x (mSub_k (mSub_k (mSub_k mSub_n)))))) ?_
        refine t1_fingerOf_32 X Q s I k1 y3 y2 FU 0 _ hz0 ?_
        refine mV_iload f1_fingerOf_81 rfl ?_
        refine mV_istore (L' := [.ref 27, .int k1, .int z0, .int y3, .int y2, .int z0]) f1_fingerOf_83 (by decide) rfl rfl ?_
        refine mV_iinc (y := (y3 + 1)) (L' := [.ref 27, .int k1, .int z0, .int (y3 + 1), .int y2, .int z0]) f1_fingerOf_84 rfl rfl (by decide) rfl rfl ?_
        refine mV_goto f1_fingerOf_87 ?_
        refine mV_drop (L' := [.ref 27, .int k1, .int z0, .int (y3 + 1), mX0, mX0]) (mSub_k (mSub_k (mSub_k (mSub_k (mSub_x (mSub_x mSub_n)))))) ?_
        exact ih z0 (y3 + 1) _ hr hk
set_option maxHeartbeats 4000000 in
set_option maxRecDepth 100000 in
theorem w1_fingerOf (X : Nat × (Nat → Int32)) (I : mI) (s : Nat) (x0 : Int32) (Q : mQ) {res : Int32 × mI} (hr : r1_fingerOf I x0 = some res) (hQ : Q (some (.int res.1)) NN KK res.2 (PP s)) : mV X m1_fingerOf 4 0 0 0 [.ref 27, .int x0, mX0, mX0, mX0, mX0] [] NN KK I (PP s) Q := by
  unfold r1_fingerOf at hr
  refine mV_aload f1_fingerOf_0 rfl ?_
  obtain ⟨z0, hz0, hr⟩ := mBind hr
  refine mV_cV f1_fingerOf_1 tg_m1_reckonFingers mCls1 (by decide) kk_27 (mC_deep (c1_reckonFingers X I s hz0) (by decide)) rfl rfl (Nat.le_of_ble_eq_true rfl) ?_
  refine mV_aload f1_fingerOf_4 rfl ?_
  obtain ⟨z1, hz1, hr⟩ := mBind hr
  refine mV_cV f1_fingerOf_5 tg_m1_cheapestFirst mCls1 (by decide) kk_27 (mC_deep (c1_cheapestFirst X z0 s hz1) (by decide)) rfl rfl (Nat.le_of_ble_eq_true rfl) ?_
  refine mV_istore (L' := [.ref 27, .int x0, .int z1, mX0, mX0, mX0]) f1_fingerOf_8 (by decide) rfl rfl ?_
  refine mV_push f1_fingerOf_9 ?_
  refine mV_istore (L' := [.ref 27, .int x0, .int z1, .int 0, mX0, mX0]) f1_fingerOf_10 (by decide) rfl rfl ?_
  obtain ⟨z2, hz2, hr⟩ := mBind hr
  refine t1_fingerOf_11 X Q s z0 x0 FU z1 0 _ hz2 ?_
  refine mV_iload f1_fingerOf_90 rfl ?_
  refine mV_push f1_fingerOf_91 ?_
  refine mV_iadd f1_fingerOf_92 ?_
  have hr := Option.some.inj hr; subst hr
  exact mV_iret rfl rfl f1_fingerOf_93 hQ
theorem c1_fingerOf (X : Nat × (Nat → Int32)) (I : mI) (s : Nat) (x0 : Int32) {res : Int32 × mI} (hr : r1_fingerOf I x0 = some res) : mC X m1_fingerOf 4 0 0 [.ref 27, .int x0] NN KK I (PP s) (mRet (some (.int res.1)) NN KK res.2 (PP s)) :=
  mC_of (L0 := [.ref 27, .int x0, mX0, mX0, mX0, mX0]) rfl (Nat.le_of_ble_eq_true rfl) (w1_fingerOf X I s x0 _ hr (mRet_ok _ _ _ _ _))
def r1_fingersCost (I : mI) : Option (Int32 × mI) := if (I 27 5 : Int32) = (0 : Int32) then some (0, I) else (r1_reckonFingers I).bind fun z0 => (r1_cheapestFirst z0).bind fun z1 => (mLd z0 33 80 z1).bind fun z2 => some (z2, z0)
set_option maxHeartbeats 4000000 in
set_option maxRecDepth 100000 in
theorem w1_fingersCost (X : Nat × (Nat → Int32)) (I : mI) (s : Nat) (Q : mQ) {res : Int32 × mI} (hr : r1_fingersCost I = some res) (hQ : Q (some (.int res.1)) NN KK res.2 (PP s)) : mV X m1_fingersCost 4 0 0 0 [.ref 27] [] NN KK I (PP s) Q := by
  unfold r1_fingersCost at hr
  refine mV_aload f1_fingersCost_0 rfl ?_
  refine mV_gI (I 27 5) f1_fingersCost_1 (by decide) kk_27 rfl rfl ?_
  refine mV_if_ne f1_fingersCost_4 (fun h0 => ?_) (fun h0 => ?_)
  · rw [if_neg h0] at hr
    refine mV_aload f1_fingersCost_9 rfl ?_
    obtain ⟨z0, hz0, hr⟩ := mBind hr
    refine mV_cV f1_fingersCost_10 tg_m1_reckonFingers mCls1 (by decide) kk_27 (mC_deep (c1_reckonFingers X I s hz0) (by decide)) rfl rfl (Nat.le_of_ble_eq_true rfl) ?_
    refine mV_aload f1_fingersCost_13 rfl ?_
    refine mV_getP f1_fingersCost_14 (by decide) kk_27 rfl (pp_27_7 _) ?_
    refine mV_aload f1_fingersCost_17 rfl ?_
    obtain ⟨z1, hz1, hr⟩ := mBind hr
    refine mV_cV f1_fingersCost_18 tg_m1_cheapestFirst mCls1 (by decide) kk_27 (mC_deep (c1_cheapestFirst X z0 s hz1) (by decide)) rfl rfl (Nat.le_of_ble_eq_true rfl) ?_
    obtain ⟨z2, hz2, hr⟩ := mBind hr
    refine mV_ldO f1_fingersCost_21 (by decide) kk_33 hz2 ?_
    have hr := Option.some.inj hr; subst hr
    exact mV_iret rfl rfl f1_fingersCost_22 hQ
  · rw [if_pos h0] at hr
    refine mV_push f1_fingersCost_7 ?_
    have hr := Option.some.inj hr; subst hr
    exact mV_iret rfl rfl f1_fingersCost_8 hQ
theorem c1_fingersCost (X : Nat × (Nat → Int32)) (I : mI) (s : Nat) {res : Int32 × mI} (hr : r1_fingersCost I = some res) : mC X m1_fingersCost 4 0 0 [.ref 27] NN KK I (PP s) (mRet (some (.int res.1)) NN KK res.2 (PP s)) :=
  mC_of (L0 := [.ref 27]) rfl (Nat.le_of_ble_eq_true rfl) (w1_fingersCost X I s _ hr (mRet_ok _ _ _ _ _))
def l1_longestRise_6 (I : mI) : Nat → Int32 → Int32 → Int32 → Option (Int32)
  | 0, _, _, _ => none
  | f + 1, y1, y2, y3 => if (I 27 5 : Int32) ≤ (y3 : Int32) then some y1 else (if (y3 : Int32) ≤ (0 : Int32) then some 1 else (mLd I 28 16 y3).bind fun z1 => (mLd I 28 16 (y3 - 1)).bind fun z2 => if (z1 : Int32) ≤ (z2 : Int32) then some 1 else some (y2 + 1) : Option (Int32)).bind fun z0 => l1_longestRise_6 I f (mMax y1 z0) z0 (y3 + 1)
def r1_longestRise (I : mI) : Option (Int32) := (l1_longestRise_6 I FU 0 0 0).bind fun z0 => some z0
set_option maxHeartbeats 4000000 in
set_option maxRecDepth 100000 in
theorem t1_longestRise_6 (X : Nat × (Nat → Int32)) (Q : mQ) (s : Nat) (I : mI) : ∀ (f : Nat) (y1 : Int32) (y2 : Int32) (y3 : Int32) (z : Int32), l1_longestRise_6 I f y1 y2 y3 = some z → mV X m1_longestRise 1 0 0 55 [.ref 27, .int z, mX0, mX0] [] NN KK I (PP s) Q → mV X m1_longestRise 1 0 0 6 [.ref 27, .int y1, .int y2, .int y3] [] NN KK I (PP s) Q := by
  intro f
  induction f with
  | zero => intro y1 y2 y3 z hr hk; cases hr
  | succ f ih =>
    intro y1 y2 y3 z hr hk
    unfold l1_longestRise_6 at hr
    refine mV_iload f1_longestRise_6 rfl ?_
    refine mV_aload f1_longestRise_7 rfl ?_
    refine mV_gI (I 27 5) f1_longestRise_8 (by decide) kk_27 rfl rfl ?_
    refine mV_icmp_ge f1_longestRise_11 (fun h0 => ?_) (fun h0 => ?_)
    · rw [if_pos h0] at hr
      have hr := Option.some.inj hr; subst hr
      refine mV_drop (L' := [.ref 27, .int y1, mX0, mX0]) (mSub_k (mSub_k (mSub_x (mSub_x mSub_n)))) ?_
      exact hk
    · rw [if_neg h0] at hr
      refine mV_iload f1_longestRise_14 rfl ?_
      obtain ⟨z0, hz0, hr⟩ := mBind hr
      have keyz0 : mV X m1_longestRise 1 0 0 42 [.ref 27, .int y1, mX0, .int y3] [.int z0] NN KK I (PP s) Q := by
        refine mV_istore (L' := [.ref 27, .int y1, .int z0, .int y3]) f1_longestRise_42 (by decide) rfl rfl ?_
        refine mV_iload f1_longestRise_43 rfl ?_
        refine mV_iload f1_longestRise_44 rfl ?_
        refine mV_maxC fm1_longestRise_45 (Nat.le_of_ble_eq_true rfl) ?_
        refine mV_istore (L' := [.ref 27, .int (mMax y1 z0), .int z0, .int y3]) f1_longestRise_48 (by decide) rfl rfl ?_
        refine mV_iinc (y := (y3 + 1)) (L' := [.ref 27, .int (mMax y1 z0), .int z0, .int (y3 + 1)]) f1_longestRise_49 rfl rfl (by decide) rfl rfl ?_
        refine mV_goto f1_longestRise_52 ?_
        exact ih (mMax y1 z0) z0 (y3 + 1) _ hr hk
      clear hr
      have hr := hz0
      clear hz0
      refine mV_if_le f1_longestRise_15 (fun h1 => ?_) (fun h1 => ?_)
      · rw [if_pos h1] at hr
        refine mV_push f1_longestRise_41 ?_
        have hr := Option.some.inj hr; subst hr
        refine mV_drop (L' := [.ref 27, .int y1, mX0, .int y3]) (mSub_k (mSub_k (mSub_x (mSub_k mSub_n)))) ?_
        exact keyz0
      · rw [if_neg h1] at hr
        refine mV_aload f1_longestRise_18 rfl ?_
        refine mV_getP f1_longestRise_19 (by decide) kk_27 rfl (pp_27_0 _) ?_
        refine mV_iload f1_longestRise_22 rfl ?_
        obtain ⟨z1, hz1, hr⟩ := mBind hr
        refine mV_ldO f1_longestRise_23 (by decide) kk_28 hz1 ?_
        refine mV_aload f1_longestRise_24 rfl ?_
        refine mV_getP f1_longestRise_25 (by decide) kk_27 rfl (pp_27_0 _) ?_
        refine mV_iload f1_longestRise_28 rfl ?_
        refine mV_push f1_longestRise_29 ?_
        refine mV_isub f1_longestRise_30 ?_
        obtain ⟨z2, hz2, hr⟩ := mBind hr
        refine mV_ldO f1_longestRise_31 (by decide) kk_28 hz2 ?_
        refine mV_icmp_le f1_longestRise_32 (fun h2 => ?_) (fun h2 => ?_)
        · rw [if_pos h2] at hr
          refine mV_push f1_longestRise_41 ?_
          have hr := Option.some.inj hr; subst hr
          refine mV_drop (L' := [.ref 27, .int y1, mX0, .int y3]) (mSub_k (mSub_k (mSub_x (mSub_k mSub_n)))) ?_
          exact keyz0
        · rw [if_neg h2] at hr
          refine mV_iload f1_longestRise_35 rfl ?_
          refine mV_push f1_longestRise_36 ?_
          refine mV_iadd f1_longestRise_37 ?_
          refine mV_goto f1_longestRise_38 ?_
          have hr := Option.some.inj hr; subst hr
          refine mV_drop (L' := [.ref 27, .int y1, mX0, .int y3]) (mSub_k (mSub_k (mSub_x (mSub_k mSub_n)))) ?_
          exact keyz0
set_option maxHeartbeats 4000000 in
set_option maxRecDepth 100000 in
theorem w1_longestRise (X : Nat × (Nat → Int32)) (I : mI) (s : Nat) (Q : mQ) {res : Int32} (hr : r1_longestRise I = some res) (hQ : Q (some (.int res)) NN KK I (PP s)) : mV X m1_longestRise 1 0 0 0 [.ref 27, mX0, mX0, mX0] [] NN KK I (PP s) Q := by
  unfold r1_longestRise at hr
  refine mV_push f1_longestRise_0 ?_
  refine mV_istore (L' := [.ref 27, .int 0, mX0, mX0]) f1_longestRise_1 (by decide) rfl rfl ?_
  refine mV_push f1_longestRise_2 ?_
  refine mV_istore (L' := [.ref 27, .int 0, .int 0, mX0]) f1_longestRise_3 (by decide) rfl rfl ?_
  refine mV_push f1_longestRise_4 ?_
  refine mV_istore (L' := [.ref 27, .int 0, .int 0, .int 0]) f1_longestRise_5 (by decide) rfl rfl ?_
  obtain ⟨z0, hz0, hr⟩ := mBind hr
  refine t1_longestRise_6 X Q s I FU 0 0 0 _ hz0 ?_
  refine mV_iload f1_longestRise_55 rfl ?_
  have hr := Option.some.inj hr; subst hr
  exact mV_iret rfl rfl f1_longestRise_56 hQ
theorem c1_longestRise (X : Nat × (Nat → Int32)) (I : mI) (s : Nat) {res : Int32} (hr : r1_longestRise I = some res) : mC X m1_longestRise 1 0 0 [.ref 27] NN KK I (PP s) (mRet (some (.int res)) NN KK I (PP s)) :=
  mC_of (L0 := [.ref 27, mX0, mX0, mX0]) rfl (Nat.le_of_ble_eq_true rfl) (w1_longestRise X I s _ hr (mRet_ok _ _ _ _ _))

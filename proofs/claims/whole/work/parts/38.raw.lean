def l1_muddiest_6 (I : mI) : Nat → Int32 → Int32 → Int32 → Option (Int32)
  | 0, _, _, _ => none
  | f + 1, y1, y2, y3 => if (89 : Int32) ≤ (y3 : Int32) then some y1 else (r1_soundingAt I y3).bind fun z0 => (if (z0 : Int32) ≤ (y2 : Int32) then some (y1, y2) else some (y3, z0) : Option (Int32 × Int32)).bind fun z1 => l1_muddiest_6 I f z1.1 z1.2 (y3 + 1)
def r1_muddiest (I : mI) : Option (Int32) := (l1_muddiest_6 I FU 0 0 0).bind fun z0 => some z0
set_option maxHeartbeats 4000000 in
set_option maxRecDepth 100000 in
theorem t1_muddiest_6 (X : Nat × (Nat → Int32)) (Q : mQ) (s : Nat) (I : mI) : ∀ (f : Nat) (y1 : Int32) (y2 : Int32) (y3 : Int32) (z : Int32), l1_muddiest_6 I f y1 y2 y3 = some z → mV X m1_muddiest 1 0 0 36 [.ref 27, .int z, mX0, mX0, mX0] [] NN KK I (PP s) Q → mV X m1_muddiest 1 0 0 6 [.ref 27, .int y1, .int y2, .int y3, mX0] [] NN KK I (PP s) Q := by
  intro f
  induction f with
  | zero => intro y1 y2 y3 z hr hk; cases hr
  | succ f ih =>
    intro y1 y2 y3 z hr hk
    unfold l1_muddiest_6 at hr
    refine mV_iload f1_muddiest_6 rfl ?_
    refine mV_push f1_muddiest_7 ?_
    refine mV_icmp_ge f1_muddiest_9 (fun h0 => ?_) (fun h0 => ?_)
    · rw [if_pos h0] at hr
      have hr := Option.some.inj hr; subst hr
      refine mV_drop (L' := [.ref 27, .int y1, mX0, mX0, mX0]) (mSub_k (mSub_k (mSub_x (mSub_x (mSub_x mSub_n))))) ?_
      exact hk
    · rw [if_neg h0] at hr
      refine mV_aload f1_muddiest_12 rfl ?_
      refine mV_iload f1_muddiest_13 rfl ?_
      obtain ⟨z0, hz0, hr⟩ := mBind hr
      refine mV_cV f1_muddiest_14 tg_m1_soundingAt mCls1 (by decide) kk_27 (mC_deep (c1_soundingAt X I s y3 hz0) (by decide)) rfl rfl (Nat.le_of_ble_eq_true rfl) ?_
      refine mV_istore (L' := [.ref 27, .int y1, .int y2, .int y3, .int z0]) f1_muddiest_17 (by decide) rfl rfl ?_
      refine mV_iload f1_muddiest_19 rfl ?_
      refine mV_iload f1_muddiest_21 rfl ?_
      obtain ⟨z1, hz1, hr⟩ := mBind hr
      have keyz1 : mV X m1_muddiest 1 0 0 30 [.ref 27, .int z1.1, .int z1.2, .int y3, mX0] [] NN KK I (PP s) Q := by
        refine mV_iinc (y := (y3 + 1)) (L' := [.ref 27, .int z1.1, .int z1.2, .int (y3 + 1), mX0]) f1_muddiest_30 rfl rfl (by decide) rfl rfl ?_
        refine mV_goto f1_muddiest_33 ?_
        exact ih z1.1 z1.2 (y3 + 1) _ hr hk
      clear hr
      have hr := hz1
      clear hz1
      refine mV_icmp_le f1_muddiest_22 (fun h1 => ?_) (fun h1 => ?_)
      · rw [if_pos h1] at hr
        have hr := Option.some.inj hr; subst hr
        refine mV_drop (L' := [.ref 27, .int y1, .int y2, .int y3, mX0]) (mSub_k (mSub_k (mSub_k (mSub_k (mSub_x mSub_n))))) ?_
        exact keyz1
      · rw [if_neg h1] at hr
        refine mV_iload f1_muddiest_25 rfl ?_
        refine mV_istore (L' := [.ref 27, .int y1, .int z0, .int y3, .int z0]) f1_muddiest_27 (by decide) rfl rfl ?_
        refine mV_iload f1_muddiest_28 rfl ?_
        refine mV_istore (L' := [.ref 27, .int y3, .int z0, .int y3, .int z0]) f1_muddiest_29 (by decide) rfl rfl ?_
        have hr := Option.some.inj hr; subst hr
        refine mV_drop (L' := [.ref 27, .int y3, .int z0, .int y3, mX0]) (mSub_k (mSub_k (mSub_k (mSub_k (mSub_x mSub_n))))) ?_
        exact keyz1
set_option maxHeartbeats 4000000 in
set_option maxRecDepth 100000 in
theorem w1_muddiest (X : Nat × (Nat → Int32)) (I : mI) (s : Nat) (Q : mQ) {res : Int32} (hr : r1_muddiest I = some res) (hQ : Q (some (.int res)) NN KK I (PP s)) : mV X m1_muddiest 1 0 0 0 [.ref 27, mX0, mX0, mX0, mX0] [] NN KK I (PP s) Q := by
  unfold r1_muddiest at hr
  refine mV_push f1_muddiest_0 ?_
  refine mV_istore (L' := [.ref 27, .int 0, mX0, mX0, mX0]) f1_muddiest_1 (by decide) rfl rfl ?_
  refine mV_push f1_muddiest_2 ?_
  refine mV_istore (L' := [.ref 27, .int 0, .int 0, mX0, mX0]) f1_muddiest_3 (by decide) rfl rfl ?_
  refine mV_push f1_muddiest_4 ?_
  refine mV_istore (L' := [.ref 27, .int 0, .int 0, .int 0, mX0]) f1_muddiest_5 (by decide) rfl rfl ?_
  obtain ⟨z0, hz0, hr⟩ := mBind hr
  refine t1_muddiest_6 X Q s I FU 0 0 0 _ hz0 ?_
  refine mV_iload f1_muddiest_36 rfl ?_
  have hr := Option.some.inj hr; subst hr
  exact mV_iret rfl rfl f1_muddiest_37 hQ
theorem c1_muddiest (X : Nat × (Nat → Int32)) (I : mI) (s : Nat) {res : Int32} (hr : r1_muddiest I = some res) : mC X m1_muddiest 1 0 0 [.ref 27] NN KK I (PP s) (mRet (some (.int res)) NN KK I (PP s)) :=
  mC_of (L0 := [.ref 27, mX0, mX0, mX0, mX0]) rfl (Nat.le_of_ble_eq_true rfl) (w1_muddiest X I s _ hr (mRet_ok _ _ _ _ _))
def r9_mud (I : mI) (x0 : Int32) : Option (Int32) := if (x0 : Int32) = 0 then (r1_muddiest I).bind fun z0 => (r1_soundingAt I z0).bind fun z1 => some z1 else if (x0 : Int32) = 1 then (r1_muddiest I).bind fun z2 => some z2 else if (x0 : Int32) = 2 then (r1_clashes I).bind fun z3 => some z3 else some (-1)
set_option maxHeartbeats 4000000 in
set_option maxRecDepth 100000 in
theorem w9_mud (X : Nat × (Nat → Int32)) (I : mI) (s : Nat) (x0 : Int32) (Q : mQ) {res : Int32} (hr : r9_mud I x0 = some res) (hQ : Q (some (.int res)) NN KK I (PP s)) : mV X m9_mud 2 0 0 0 [.ref 0, .int x0] [] NN KK I (PP s) Q := by
  unfold r9_mud at hr
  refine mV_iload f9_mud_0 rfl ?_
  by_cases h0 : x0 = 0
  · rw [if_pos h0] at hr
    refine mV_tabEq (v := 0) f9_mud_1 h0 (by decide) (by decide) (by decide) (by decide : (1 : Int) + 27 = (28 : Nat)) ?_
    refine mV_aload f9_mud_28 rfl ?_
    refine mV_getP f9_mud_29 (by decide) kk_0 rfl (pp_0_1 _) ?_
    refine mV_getP f9_mud_32 (by decide) kk_2 rfl (pp_2_6 _) ?_
    refine mV_aload f9_mud_35 rfl ?_
    refine mV_getP f9_mud_36 (by decide) kk_0 rfl (pp_0_1 _) ?_
    refine mV_getP f9_mud_39 (by decide) kk_2 rfl (pp_2_6 _) ?_
    obtain ⟨z0, hz0, hr⟩ := mBind hr
    refine mV_cV f9_mud_42 tg_m1_muddiest mCls1 (by decide) kk_27 (mC_deep (c1_muddiest X I s hz0) (by decide)) rfl rfl (Nat.le_of_ble_eq_true rfl) ?_
    obtain ⟨z1, hz1, hr⟩ := mBind hr
    refine mV_cV f9_mud_45 tg_m1_soundingAt mCls1 (by decide) kk_27 (mC_deep (c1_soundingAt X I s z0 hz1) (by decide)) rfl rfl (Nat.le_of_ble_eq_true rfl) ?_
    have hr := Option.some.inj hr; subst hr
    exact mV_iret rfl rfl f9_mud_48 hQ
  rw [if_neg h0] at hr
  by_cases h1 : x0 = 1
  · rw [if_pos h1] at hr
    refine mV_tabEq (v := 1) f9_mud_1 h1 (by decide) (by decide) (by decide) (by decide : (1 : Int) + 48 = (49 : Nat)) ?_
    refine mV_aload f9_mud_49 rfl ?_
    refine mV_getP f9_mud_50 (by decide) kk_0 rfl (pp_0_1 _) ?_
    refine mV_getP f9_mud_53 (by decide) kk_2 rfl (pp_2_6 _) ?_
    obtain ⟨z2, hz2, hr⟩ := mBind hr
    refine mV_cV f9_mud_56 tg_m1_muddiest mCls1 (by decide) kk_27 (mC_deep (c1_muddiest X I s hz2) (by decide)) rfl rfl (Nat.le_of_ble_eq_true rfl) ?_
    have hr := Option.some.inj hr; subst hr
    exact mV_iret rfl rfl f9_mud_59 hQ
  rw [if_neg h1] at hr
  by_cases h2 : x0 = 2
  · rw [if_pos h2] at hr
    refine mV_tabEq (v := 2) f9_mud_1 h2 (by decide) (by decide) (by decide) (by decide : (1 : Int) + 59 = (60 : Nat)) ?_
    refine mV_aload f9_mud_60 rfl ?_
    refine mV_getP f9_mud_61 (by decide) kk_0 rfl (pp_0_1 _) ?_
    refine mV_getP f9_mud_64 (by decide) kk_2 rfl (pp_2_6 _) ?_
    obtain ⟨z3, hz3, hr⟩ := mBind hr
    refine mV_cV f9_mud_67 tg_m1_clashes mCls1 (by decide) kk_27 (mC_deep (c1_clashes X I s hz3) (by decide)) rfl rfl (Nat.le_of_ble_eq_true rfl) ?_
    have hr := Option.some.inj hr; subst hr
    exact mV_iret rfl rfl f9_mud_70 hQ
  rw [if_neg h2] at hr
  refine mV_tabNo f9_mud_1 [0, 1, 2] (by decide) (List.forall_mem_cons.mpr ⟨h0, (List.forall_mem_cons.mpr ⟨h1, (List.forall_mem_cons.mpr ⟨h2, (fun _ hc => absurd hc List.not_mem_nil)⟩)⟩)⟩) (by decide : (1 : Int) + 70 = (71 : Nat)) ?_
  refine mV_push f9_mud_71 ?_
  have hr := Option.some.inj hr; subst hr
  exact mV_iret rfl rfl f9_mud_72 hQ
theorem c9_mud (X : Nat × (Nat → Int32)) (I : mI) (s : Nat) (x0 : Int32) {res : Int32} (hr : r9_mud I x0 = some res) : mC X m9_mud 2 0 0 [.ref 0, .int x0] NN KK I (PP s) (mRet (some (.int res)) NN KK I (PP s)) :=
  mC_of (L0 := [.ref 0, .int x0]) rfl (Nat.le_of_ble_eq_true rfl) (w9_mud X I s x0 _ hr (mRet_ok _ _ _ _ _))
def l8_setsThatWept_24 (I : mI) (k1 : Int32) : Nat → Int32 → Int32 → Int32 → Int32 → Int32 → Int32 → Option (Int32 × Int32 × Int32)
  | 0, _, _, _, _, _, _ => none
  | f + 1, y3, y4, y5, y6, y7, y8 => if ((r0_allPieces I) : Int32) < (y8 : Int32) then some (y3, y4, y5) else (if (((((y6 ^^^ ((1 : Int32) <<< ((mMin 11 (rJ6_bitCount ((y8 &&& (-y8)) - 1))) &&& 31))) : Int32) >>> ((mMin 11 (rJ6_bitCount ((y8 &&& (-y8)) - 1))) &&& 31)) &&& 1) : Int32) = (0 : Int32) then (mLd I 5 12 (mMin 11 (rJ6_bitCount ((y8 &&& (-y8)) - 1)))).bind fun z1 => some (-z1) else (mLd I 5 12 (mMin 11 (rJ6_bitCount ((y8 &&& (-y8)) - 1)))).bind fun z2 => some z2 : Option (Int32)).bind fun z0 => (if ((y7 + z0) : Int32) = (k1 : Int32) then some ((y3 + 1), (mMin y4 (y6 ^^^ ((1 : Int32) <<< ((mMin 11 (rJ6_bitCount ((y8 &&& (-y8)) - 1))) &&& 31)))), (y5 &&& (y6 ^^^ ((1 : Int32) <<< ((mMin 11 (rJ6_bitCount ((y8 &&& (-y8)) - 1))) &&& 31))))) else some (y3, y4, y5) : Option (Int32 × Int32 × Int32)).bind fun z3 => l8_setsThatWept_24 I k1 f z3.1 z3.2.1 z3.2.2 (y6 ^^^ ((1 : Int32) <<< ((mMin 11 (rJ6_bitCount ((y8 &&& (-y8)) - 1))) &&& 31))) (y7 + z0) (y8 + 1)
def r8_setsThatWept (I : mI) (x0 : Int32) (x1 : Int32) : Option (Int32) := (l8_setsThatWept_24 I x0 FU 0 1000000 (r0_allPieces I) 0 0 1).bind fun z0 => if (x1 : Int32) = (0 : Int32) then some z0.1 else (if (x1 : Int32) = (1 : Int32) then if (z0.1 : Int32) ≤ (0 : Int32) then some (-1) else some z0.2.1 else if (z0.1 : Int32) ≤ (0 : Int32) then some 0 else some z0.2.2 : Option (Int32)).bind fun z1 => some z1
set_option maxHeartbeats 4000000 in
set_option maxRecDepth 100000 in
theorem t8_setsThatWept_24 (X : Nat × (Nat → Int32)) (Q : mQ) (s : Nat) (I : mI) (k1 : Int32) (k2 : Int32) : ∀ (f : Nat) (y3 : Int32) (y4 : Int32) (y5 : Int32) (y6 : Int32) (y7 : Int32) (y8 : Int32) (z : Int32 × Int32 × Int32), l8_setsThatWept_24 I k1 f y3 y4 y5 y6 y7 y8 = some z → mV X m8_setsThatWept 1 0 0 133 [.ref 2, .int k1, .int k2, .int z.1, .int z.2.1, .int z.2.2, mX0, mX0, mX0, mX0] [] NN KK I (PP s) Q → mV X m8_setsThatWept 1 0 0 24 [.ref 2, .int k1, .int k2, .int y3, .int y4, .int y5, .int y6, .int y7, .int y8, mX0] [] NN KK I (PP s) Q := by
  intro f
  induction f with
  | zero => intro y3 y4 y5 y6 y7 y8 z hr hk; cases hr
  | succ f ih =>
    intro y3 y4 y5 y6 y7 y8 z hr hk
    unfold l8_setsThatWept_24 at hr
    refine mV_iload f8_setsThatWept_24 rfl ?_
    refine mV_aload f8_setsThatWept_26 rfl ?_
    refine mV_getP f8_setsThatWept_27 (by decide) kk_2 rfl (pp_2_1 _) ?_
    refine mV_cV f8_setsThatWept_30 tg_m0_allPieces mCls0 (by decide) kk_8 (mC_deep (c0_allPieces X I s rfl) (by decide)) rfl rfl (Nat.le_of_ble_eq_true rfl) ?_
    refine mV_icmp_gt f8_setsThatWept_33 (fun h0 => ?_) (fun h0 => ?_)
    · rw [if_pos h0] at hr
      have hr := Option.some.inj hr; subst hr
      refine mV_drop (L' := [.ref 2, .int k1, .int k2, .int y3, .int y4, .int y5, mX0, mX0, mX0, mX0]) (mSub_k (mSub_k (mSub_k (mSub_k (mSub_k (mSub_k (mSub_x (mSub_x (mSub_x (mSub_x mSub_n)))))))))) ?_
      exact hk
    · rw [if_neg h0] at hr
      refine mV_push f8_setsThatWept_36 ?_
      refine mV_iload f8_setsThatWept_38 rfl ?_
      refine mV_iload f8_setsThatWept_40 rfl ?_
      refine mV_ineg f8_setsThatWept_42 ?_
      refine mV_iand f8_setsThatWept_43 ?_
      refine mV_push f8_setsThatWept_44 ?_
      refine mV_isub f8_setsThatWept_45 ?_
      refine mV_cS f8_setsThatWept_46 tg_mJ6_bitCount (mC_deep (cJ6_bitCount X I s ((y8 &&& (-y8)) - 1) rfl) (by decide)) rfl rfl (Nat.le_of_ble_eq_true rfl) ?_
      refine mV_minC fm8_setsThatWept_49 (Nat.le_of_ble_eq_true rfl) ?_
      refine mV_istore (L' := [.ref 2, .int k1, .int k2, .int y3, .int y4, .int y5, .int y6, .int y7, .int y8, .int (mMin 11 (rJ6_bitCount ((y8 &&& (-y8)) - 1)))]) f8_setsThatWept_52 (by decide) rfl rfl ?_
      refine mV_iload f8_setsThatWept_54 rfl ?_
      refine mV_push f8_setsThatWept_56 ?_
      refine mV_iload f8_setsThatWept_57 rfl ?_
      refine mV_ishl f8_setsThatWept_59 ?_
      refine mV_ixor f8_setsThatWept_60 ?_
      refine mV_istore (L' := [.ref 2, .int k1, .int k2, .int y3, .int y4, .int y5, .int (y6 ^^^ ((1 : Int32) <<< ((mMin 11 (rJ6_bitCount ((y8 &&& (-y8)) - 1))) &&& 31))), .int y7, .int y8, .int (mMin 11 (rJ6_bitCount ((y8 &&& (-y8)) - 1)))]) f8_setsThatWept_61 (by decide) rfl rfl ?_
      refine mV_iload f8_setsThatWept_63 rfl ?_
      refine mV_iload f8_setsThatWept_65 rfl ?_
      refine mV_iload f8_setsThatWept_67 rfl ?_
      refine mV_ishr f8_setsThatWept_69 ?_
      refine mV_push f8_setsThatWept_70 ?_
      refine mV_iand f8_setsThatWept_71 ?_
      obtain ⟨z0, hz0, hr⟩ := mBind hr
      have keyz0 : mV X m8_setsThatWept 1 0 0 99 [.ref 2, .int k1, .int k2, .int y3, .int y4, .int y5, .int (y6 ^^^ ((1 : Int32) <<< ((mMin 11 (rJ6_bitCount ((y8 &&& (-y8)) - 1))) &&& 31))), mX0, .int y8, mX0] [.int z0, .int y7] NN KK I (PP s) Q := by
        refine mV_iadd f8_setsThatWept_99 ?_
        refine mV_istore (L' := [.ref 2, .int k1, .int k2, .int y3, .int y4, .int y5, .int (y6 ^^^ ((1 : Int32) <<< ((mMin 11 (rJ6_bitCount ((y8 &&& (-y8)) - 1))) &&& 31))), .int (y7 + z0), .int y8, mX0]) f8_setsThatWept_100 (by decide) rfl rfl ?_
        refine mV_iload f8_setsThatWept_102 rfl ?_
        refine mV_iload f8_setsThatWept_104 rfl ?_
        obtain ⟨z3, hz3, hr⟩ := mBind hr
        have keyz3 : mV X m8_setsThatWept 1 0 0 127 [.ref 2, .int k1, .int k2, .int z3.1, .int z3.2.1, .int z3.2.2, .int (y6 ^^^ ((1 : Int32) <<< ((mMin 11 (rJ6_bitCount ((y8 &&& (-y8)) - 1))) &&& 31))), .int (y7 + z0), .int y8, mX0] [] NN KK I (PP s) Q := by
          refine mV_iinc (y := (y8 + 1)) (L' := [.ref 2, .int k1, .int k2, .int z3.1, .int z3.2.1, .int z3.2.2, .int (y6 ^^^ ((1 : Int32) <<< ((mMin 11 (rJ6_bitCount ((y8 &&& (-y8)) - 1))) &&& 31))), .int (y7 + z0), .int (y8 + 1), mX0]) f8_setsThatWept_127 rfl rfl (by decide) rfl rfl ?_
          refine mV_goto f8_setsThatWept_130 ?_
          exact ih z3.1 z3.2.1 z3.2.2 (y6 ^^^ ((1 : Int32) <<< ((mMin 11 (rJ6_bitCount ((y8 &&& (-y8)) - 1))) &&& 31))) (y7 + z0) (y8 + 1) _ hr hk
        clear hr
        have hr := hz3
        clear hz3
        refine mV_icmp_ne f8_setsThatWept_105 (fun h2 => ?_) (fun h2 => ?_)
        · rw [if_neg h2] at hr
          have hr := Option.some.inj hr; subst hr
          exact keyz3
        · rw [if_pos h2] at hr
          refine mV_iinc (y := (y3 + 1)) (L' := [.ref 2, .int k1, .int k2, .int (y3 + 1), .int y4, .int y5, .int (y6 ^^^ ((1 : Int32) <<< ((mMin 11 (rJ6_bitCount ((y8 &&& (-y8)) - 1))) &&& 31))), .int (y7 + z0), .int y8, mX0]) f8_setsThatWept_108 rfl rfl (by decide) rfl rfl ?_
          refine mV_iload f8_setsThatWept_111 rfl ?_
          refine mV_iload f8_setsThatWept_113 rfl ?_
          refine mV_minC fm8_setsThatWept_115 (Nat.le_of_ble_eq_true rfl) ?_
          refine mV_istore (L' := [.ref 2, .int k1, .int k2, .int (y3 + 1), .int (mMin y4 (y6 ^^^ ((1 : Int32) <<< ((mMin 11 (rJ6_bitCount ((y8 &&& (-y8)) - 1))) &&& 31)))), .int y5, .int (y6 ^^^ ((1 : Int32) <<< ((mMin 11 (rJ6_bitCount ((y8 &&& (-y8)) - 1))) &&& 31))), .int (y7 + z0), .int y8, mX0]) f8_setsThatWept_118 (by decide) rfl rfl ?_
          refine mV_iload f8_setsThatWept_120 rfl ?_
          refine mV_iload f8_setsThatWept_122 rfl ?_
          refine mV_iand f8_setsThatWept_124 ?_
          refine mV_istore (L' := [.ref 2, .int k1, .int k2, .int (y3 + 1), .int (mMin y4 (y6 ^^^ ((1 : Int32) <<< ((mMin 11 (rJ6_bitCount ((y8 &&& (-y8)) - 1))) &&& 31)))), .int (y5 &&& (y6 ^^^ ((1 : Int32) <<< ((mMin 11 (rJ6_bitCount ((y8 &&& (-y8)) - 1))) &&& 31)))), .int (y6 ^^^ ((1 : Int32) <<< ((mMin 11 (rJ6_bitCount ((y8 &&& (-y8)) - 1))) &&& 31))), .int (y7 + z0), .int y8, mX0]) f8_setsThatWept_125 (by decide) rfl rfl ?_
          have hr := Option.some.inj hr; subst hr
          exact keyz3
      clear hr
      have hr := hz0
      clear hz0
      refine mV_if_eq f8_setsThatWept_72 (fun h1 => ?_) (fun h1 => ?_)
      · rw [if_pos h1] at hr
        refine mV_aload f8_setsThatWept_88 rfl ?_
        refine mV_getP f8_setsThatWept_89 (by decide) kk_2 rfl (pp_2_0 _) ?_
        refine mV_getP f8_setsThatWept_92 (by decide) kk_3 rfl (pp_3_1 _) ?_
        refine mV_iload f8_setsThatWept_95 rfl ?_
        obtain ⟨z1, hz1, hr⟩ := mBind hr
        refine mV_ldO f8_setsThatWept_97 (by decide) kk_5 hz1 ?_
        refine mV_ineg f8_setsThatWept_98 ?_
        have hr := Option.some.inj hr; subst hr
        refine mV_drop (L' := [.ref 2, .int k1, .int k2, .int y3, .int y4, .int y5, .int (y6 ^^^ ((1 : Int32) <<< ((mMin 11 (rJ6_bitCount ((y8 &&& (-y8)) - 1))) &&& 31))), mX0, .int y8, mX0]) (mSub_k (mSub_k (mSub_k (mSub_k (mSub_k (mSub_k (mSub_k (mSub_x (mSub_k (mSub_x mSub_n)))))))))) ?_
        exact keyz0
      · rw [if_neg h1] at hr
        refine mV_aload f8_setsThatWept_75 rfl ?_
        refine mV_getP f8_setsThatWept_76 (by decide) kk_2 rfl (pp_2_0 _) ?_
        refine mV_getP f8_setsThatWept_79 (by decide) kk_3 rfl (pp_3_1 _) ?_
        refine mV_iload f8_setsThatWept_82 rfl ?_
        obtain ⟨z2, hz2, hr⟩ := mBind hr
        refine mV_ldO f8_setsThatWept_84 (by decide) kk_5 hz2 ?_
        refine mV_goto f8_setsThatWept_85 ?_
        have hr := Option.some.inj hr; subst hr
        refine mV_drop (L' := [.ref 2, .int k1, .int k2, .int y3, .int y4, .int y5, .int (y6 ^^^ ((1 : Int32) <<< ((mMin 11 (rJ6_bitCount ((y8 &&& (-y8)) - 1))) &&& 31))), mX0, .int y8, mX0]) (mSub_k (mSub_k (mSub_k (mSub_k (mSub_k (mSub_k (mSub_k (mSub_x (mSub_k (mSub_x mSub_n)))))))))) ?_
        exact keyz0
set_option maxHeartbeats 4000000 in
set_option maxRecDepth 100000 in
theorem w8_setsThatWept (X : Nat × (Nat → Int32)) (I : mI) (s : Nat) (x0 : Int32) (x1 : Int32) (Q : mQ) {res : Int32} (hr : r8_setsThatWept I x0 x1 = some res) (hQ : Q (some (.int res)) NN KK I (PP s)) : mV X m8_setsThatWept 1 0 0 0 [.ref 2, .int x0, .int x1, mX0, mX0, mX0, mX0, mX0, mX0, mX0] [] NN KK I (PP s) Q := by
  unfold r8_setsThatWept at hr
  refine mV_push f8_setsThatWept_0 ?_
  refine mV_istore (L' := [.ref 2, .int x0, .int x1, .int 0, mX0, mX0, mX0, mX0, mX0, mX0]) f8_setsThatWept_1 (by decide) rfl rfl ?_
  refine mV_push f8_setsThatWept_2 ?_
  refine mV_istore (L' := [.ref 2, .int x0, .int x1, .int 0, .int 1000000, mX0, mX0, mX0, mX0, mX0]) f8_setsThatWept_4 (by decide) rfl rfl ?_
  refine mV_aload f8_setsThatWept_6 rfl ?_
  refine mV_getP f8_setsThatWept_7 (by decide) kk_2 rfl (pp_2_1 _) ?_
  refine mV_cV f8_setsThatWept_10 tg_m0_allPieces mCls0 (by decide) kk_8 (mC_deep (c0_allPieces X I s rfl) (by decide)) rfl rfl (Nat.le_of_ble_eq_true rfl) ?_
  refine mV_istore (L' := [.ref 2, .int x0, .int x1, .int 0, .int 1000000, .int (r0_allPieces I), mX0, mX0, mX0, mX0]) f8_setsThatWept_13 (by decide) rfl rfl ?_
  refine mV_push f8_setsThatWept_15 ?_
  refine mV_istore (L' := [.ref 2, .int x0, .int x1, .int 0, .int 1000000, .int (r0_allPieces I), .int 0, mX0, mX0, mX0]) f8_setsThatWept_16 (by decide) rfl rfl ?_
  refine mV_push f8_setsThatWept_18 ?_
  refine mV_istore (L' := [.ref 2, .int x0, .int x1, .int 0, .int 1000000, .int (r0_allPieces I), .int 0, .int 0, mX0, mX0]) f8_setsThatWept_19 (by decide) rfl rfl ?_
  refine mV_push f8_setsThatWept_21 ?_
  refine mV_istore (L' := [.ref 2, .int x0, .int x1, .int 0, .int 1000000, .int (r0_allPieces I), .int 0, .int 0, .int 1, mX0]) f8_setsThatWept_22 (by decide) rfl rfl ?_
  obtain ⟨z0, hz0, hr⟩ := mBind hr
  refine t8_setsThatWept_24 X Q s I x0 x1 FU 0 1000000 (r0_allPieces I) 0 0 1 _ hz0 ?_
  refine mV_iload f8_setsThatWept_133 rfl ?_
  refine mV_if_ne f8_setsThatWept_134 (fun h0 => ?_) (fun h0 => ?_)
  · rw [if_neg h0] at hr
    refine mV_iload f8_setsThatWept_139 rfl ?_
    refine mV_push f8_setsThatWept_140 ?_
    obtain ⟨z1, hz1, hr⟩ := mBind hr
    have keyz1 : mV X m8_setsThatWept 1 0 0 167 [.ref 2, mX0, mX0, mX0, mX0, mX0, mX0, mX0, mX0, mX0] [.int z1] NN KK I (PP s) Q := by
      have hr := Option.some.inj hr; subst hr
      exact mV_iret rfl rfl f8_setsThatWept_167 hQ
    clear hr
    have hr := hz1
    clear hz1
    refine mV_icmp_ne f8_setsThatWept_141 (fun h1 => ?_) (fun h1 => ?_)
    · rw [if_neg h1] at hr
      refine mV_iload f8_setsThatWept_157 rfl ?_
      refine mV_if_le f8_setsThatWept_158 (fun h2 => ?_) (fun h2 => ?_)
      · rw [if_pos h2] at hr
        refine mV_push f8_setsThatWept_166 ?_
        have hr := Option.some.inj hr; subst hr
        refine mV_drop (L' := [.ref 2, mX0, mX0, mX0, mX0, mX0, mX0, mX0, mX0, mX0]) (mSub_k (mSub_x (mSub_x (mSub_x (mSub_x (mSub_x (mSub_x (mSub_x (mSub_x (mSub_x mSub_n)))))))))) ?_
        exact keyz1
      · rw [if_neg h2] at hr
        refine mV_iload f8_setsThatWept_161 rfl ?_
        refine mV_goto f8_setsThatWept_163 ?_
        have hr := Option.some.inj hr; subst hr
        refine mV_drop (L' := [.ref 2, mX0, mX0, mX0, mX0, mX0, mX0, mX0, mX0, mX0]) (mSub_k (mSub_x (mSub_x (mSub_x (mSub_x (mSub_x (mSub_x (mSub_x (mSub_x (mSub_x mSub_n)))))))))) ?_
        exact keyz1
    · rw [if_pos h1] at hr
      refine mV_iload f8_setsThatWept_144 rfl ?_
      refine mV_if_le f8_setsThatWept_145 (fun h3 => ?_) (fun h3 => ?_)
      · rw [if_pos h3] at hr
        refine mV_push f8_setsThatWept_153 ?_
        refine mV_goto f8_setsThatWept_154 ?_
        have hr := Option.some.inj hr; subst hr
        refine mV_drop (L' := [.ref 2, mX0, mX0, mX0, mX0, mX0, mX0, mX0, mX0, mX0]) (mSub_k (mSub_x (mSub_x (mSub_x (mSub_x (mSub_x (mSub_x (mSub_x (mSub_x (mSub_x mSub_n)))))))))) ?_
        exact keyz1
      · rw [if_neg h3] at hr
        refine mV_iload f8_setsThatWept_148 rfl ?_
        refine mV_goto f8_setsThatWept_150 ?_
        have hr := Option.some.inj hr; subst hr
        refine mV_drop (L' := [.ref 2, mX0, mX0, mX0, mX0, mX0, mX0, mX0, mX0, mX0]) (mSub_k (mSub_x (mSub_x (mSub_x (mSub_x (mSub_x (mSub_x (mSub_x (mSub_x (mSub_x mSub_n)))))))))) ?_
        exact keyz1
  · rw [if_pos h0] at hr
    refine mV_iload f8_setsThatWept_137 rfl ?_
    have hr := Option.some.inj hr; subst hr
    exact mV_iret rfl rfl f8_setsThatWept_138 hQ
theorem c8_setsThatWept (X : Nat × (Nat → Int32)) (I : mI) (s : Nat) (x0 : Int32) (x1 : Int32) {res : Int32} (hr : r8_setsThatWept I x0 x1 = some res) : mC X m8_setsThatWept 1 0 0 [.ref 2, .int x0, .int x1] NN KK I (PP s) (mRet (some (.int res)) NN KK I (PP s)) :=
  mC_of (L0 := [.ref 2, .int x0, .int x1, mX0, mX0, mX0, mX0, mX0, mX0, mX0]) rfl (Nat.le_of_ble_eq_true rfl) (w8_setsThatWept X I s x0 x1 _ hr (mRet_ok _ _ _ _ _))
def r9_whose (I : mI) (x0 : Int32) (x1 : Int32) : Option (Int32) := (if (x0 : Int32) < (1 : Int32) then some (-1) else if (999 : Int32) < (x0 : Int32) then some (-1) else if (x1 : Int32) < (0 : Int32) then some (-1) else if (x1 : Int32) ≤ (2 : Int32) then (r8_setsThatWept I x0 x1).bind fun z1 => some z1 else some (-1) : Option (Int32)).bind fun z0 => some z0
set_option maxHeartbeats 4000000 in
set_option maxRecDepth 100000 in
theorem w9_whose (X : Nat × (Nat → Int32)) (I : mI) (s : Nat) (x0 : Int32) (x1 : Int32) (Q : mQ) {res : Int32} (hr : r9_whose I x0 x1 = some res) (hQ : Q (some (.int res)) NN KK I (PP s)) : mV X m9_whose 2 0 0 0 [.ref 0, .int x0, .int x1] [] NN KK I (PP s) Q := by
  unfold r9_whose at hr
  refine mV_iload f9_whose_0 rfl ?_
  refine mV_push f9_whose_1 ?_
  obtain ⟨z0, hz0, hr⟩ := mBind hr
  have keyz0 : mV X m9_whose 2 0 0 34 [.ref 0, mX0, mX0] [.int z0] NN KK I (PP s) Q := by
    have hr := Option.some.inj hr; subst hr
    exact mV_iret rfl rfl f9_whose_34 hQ
  clear hr
  have hr := hz0
  clear hz0
  refine mV_icmp_lt f9_whose_2 (fun h0 => ?_) (fun h0 => ?_)
  · rw [if_pos h0] at hr
    refine mV_push f9_whose_21 ?_
    refine mV_goto f9_whose_22 ?_
    have hr := Option.some.inj hr; subst hr
    refine mV_drop (L' := [.ref 0, mX0, mX0]) (mSub_k (mSub_x (mSub_x mSub_n))) ?_
    exact keyz0
  · rw [if_neg h0] at hr
    refine mV_iload f9_whose_5 rfl ?_
    refine mV_push f9_whose_6 ?_
    refine mV_icmp_gt f9_whose_9 (fun h1 => ?_) (fun h1 => ?_)
    · rw [if_pos h1] at hr
      refine mV_push f9_whose_21 ?_
      refine mV_goto f9_whose_22 ?_
      have hr := Option.some.inj hr; subst hr
      refine mV_drop (L' := [.ref 0, mX0, mX0]) (mSub_k (mSub_x (mSub_x mSub_n))) ?_
      exact keyz0
    · rw [if_neg h1] at hr
      refine mV_iload f9_whose_12 rfl ?_
      refine mV_if_lt f9_whose_13 (fun h2 => ?_) (fun h2 => ?_)
      · rw [if_pos h2] at hr
        refine mV_push f9_whose_21 ?_
        refine mV_goto f9_whose_22 ?_
        have hr := Option.some.inj hr; subst hr
        refine mV_drop (L' := [.ref 0, mX0, mX0]) (mSub_k (mSub_x (mSub_x mSub_n))) ?_
        exact keyz0
      · rw [if_neg h2] at hr
        refine mV_iload f9_whose_16 rfl ?_
        refine mV_push f9_whose_17 ?_
        refine mV_icmp_le f9_whose_18 (fun h3 => ?_) (fun h3 => ?_)
        · rw [if_pos h3] at hr
          refine mV_aload f9_whose_25 rfl ?_
          refine mV_getP f9_whose_26 (by decide) kk_0 rfl (pp_0_1 _) ?_
          refine mV_iload f9_whose_29 rfl ?_
          refine mV_iload f9_whose_30 rfl ?_
          obtain ⟨z1, hz1, hr⟩ := mBind hr
          refine mV_cV f9_whose_31 tg_m8_setsThatWept mCls8 (by decide) kk_2 (mC_deep (c8_setsThatWept X I s x0 x1 hz1) (by decide)) rfl rfl (Nat.le_of_ble_eq_true rfl) ?_
          have hr := Option.some.inj hr; subst hr
          refine mV_drop (L' := [.ref 0, mX0, mX0]) (mSub_k (mSub_x (mSub_x mSub_n))) ?_
          exact keyz0
        · rw [if_neg h3] at hr
          refine mV_push f9_whose_21 ?_
          refine mV_goto f9_whose_22 ?_
          have hr := Option.some.inj hr; subst hr
          refine mV_drop (L' := [.ref 0, mX0, mX0]) (mSub_k (mSub_x (mSub_x mSub_n))) ?_
          exact keyz0
theorem c9_whose (X : Nat × (Nat → Int32)) (I : mI) (s : Nat) (x0 : Int32) (x1 : Int32) {res : Int32} (hr : r9_whose I x0 x1 = some res) : mC X m9_whose 2 0 0 [.ref 0, .int x0, .int x1] NN KK I (PP s) (mRet (some (.int res)) NN KK I (PP s)) :=
  mC_of (L0 := [.ref 0, .int x0, .int x1]) rfl (Nat.le_of_ble_eq_true rfl) (w9_whose X I s x0 x1 _ hr (mRet_ok _ _ _ _ _))
def l0_giveRoom_2 (k1 : Int32) : Nat → Int32 → mI → Option (mI)
  | 0, _, _ => none
  | f + 1, y2, I => if (6 : Int32) ≤ (y2 : Int32) then some I else (mSto I 14 6 y2 k1).bind fun z0 => l0_giveRoom_2 k1 f (y2 + 1) z0
def r0_giveRoom (I : mI) (x0 : Int32) : Option (mI) := (l0_giveRoom_2 x0 FU 0 I).bind fun z0 => some z0
set_option maxHeartbeats 4000000 in
set_option maxRecDepth 100000 in
theorem t0_giveRoom_2 (X : Nat × (Nat → Int32)) (Q : mQ) (s : Nat) (k1 : Int32) : ∀ (f : Nat) (y2 : Int32) (I : mI) (z : mI), l0_giveRoom_2 k1 f y2 I = some z → mV X m0_giveRoom 0 0 0 21 [.ref 8, .int k1, mX0] [] NN KK z (PP s) Q → mV X m0_giveRoom 0 0 0 2 [.ref 8, .int k1, .int y2] [] NN KK I (PP s) Q := by
  intro f
  induction f with
  | zero => intro y2 I z hr hk; cases hr
  | succ f ih =>
    intro y2 I z hr hk
    unfold l0_giveRoom_2 at hr
    refine mV_iload f0_giveRoom_2 rfl ?_
    refine mV_push f0_giveRoom_3 ?_
    refine mV_icmp_ge f0_giveRoom_5 (fun h0 => ?_) (fun h0 => ?_)
    · rw [if_pos h0] at hr
      have hr := Option.some.inj hr; subst hr
      refine mV_drop (L' := [.ref 8, .int k1, mX0]) (mSub_k (mSub_k (mSub_x mSub_n))) ?_
      exact hk
    · rw [if_neg h0] at hr
      refine mV_aload f0_giveRoom_8 rfl ?_
      refine mV_getP f0_giveRoom_9 (by decide) kk_8 rfl (pp_8_5 _) ?_
      refine mV_iload f0_giveRoom_12 rfl ?_
      refine mV_iload f0_giveRoom_13 rfl ?_
      obtain ⟨z0, hz0, hr⟩ := mBind hr
      refine mV_stO f0_giveRoom_14 (by decide) kk_14 hz0 ?_
      refine mV_iinc (y := (y2 + 1)) (L' := [.ref 8, .int k1, .int (y2 + 1)]) f0_giveRoom_15 rfl rfl (by decide) rfl rfl ?_
      refine mV_goto f0_giveRoom_18 ?_
      exact ih (y2 + 1) z0 _ hr hk
set_option maxHeartbeats 4000000 in
set_option maxRecDepth 100000 in
theorem w0_giveRoom (X : Nat × (Nat → Int32)) (I : mI) (s : Nat) (x0 : Int32) (Q : mQ) {res : mI} (hr : r0_giveRoom I x0 = some res) (hQ : Q none NN KK res (PP s)) : mV X m0_giveRoom 0 0 0 0 [.ref 8, .int x0, mX0] [] NN KK I (PP s) Q := by
  unfold r0_giveRoom at hr
  refine mV_push f0_giveRoom_0 ?_
  refine mV_istore (L' := [.ref 8, .int x0, .int 0]) f0_giveRoom_1 (by decide) rfl rfl ?_
  obtain ⟨z0, hz0, hr⟩ := mBind hr
  refine t0_giveRoom_2 X Q s x0 FU 0 I _ hz0 ?_
  have hr := Option.some.inj hr; subst hr
  exact mV_vret rfl f0_giveRoom_21 hQ
theorem c0_giveRoom (X : Nat × (Nat → Int32)) (I : mI) (s : Nat) (x0 : Int32) {res : mI} (hr : r0_giveRoom I x0 = some res) : mC X m0_giveRoom 0 0 0 [.ref 8, .int x0] NN KK I (PP s) (mRet none NN KK res (PP s)) :=
  mC_of (L0 := [.ref 8, .int x0, mX0]) rfl (Nat.le_of_ble_eq_true rfl) (w0_giveRoom X I s x0 _ hr (mRet_ok _ _ _ _ _))
def l0_mostHadFrom_16 (I : mI) (k4 : Int32) : Nat → Int32 → Int32 → Option (Int32)
  | 0, _, _ => none
  | f + 1, y2, y5 => if (I 8 7 : Int32) ≤ (y5 : Int32) then some y2 else (mLd I 12 6 y5).bind fun z0 => (if (z0 : Int32) = (k4 : Int32) then (mLd I 14 6 y5).bind fun z2 => some z2 else some 0 : Option (Int32)).bind fun z1 => l0_mostHadFrom_16 I k4 f (y2 + z1) (y5 + 1)
def l0_mostHadFrom_63 (I : mI) (k4 : Int32) : Nat → Int32 → Int32 → Option (Int32)
  | 0, _, _ => none
  | f + 1, y5, y6 => if (I 8 6 : Int32) ≤ (y6 : Int32) then some y5 else (mLd I 11 12 y6).bind fun z0 => (if (z0 : Int32) = (k4 : Int32) then some 1 else some 0 : Option (Int32)).bind fun z1 => l0_mostHadFrom_63 I k4 f (y5 + z1) (y6 + 1)
def l0_mostHadFrom_8 (I : mI) (k1 : Int32) : Nat → Int32 → Int32 → Int32 → Option (Int32)
  | 0, _, _, _ => none
  | f + 1, y2, y3, y4 => if (y4 : Int32) < (0 : Int32) then some y3 else (l0_mostHadFrom_16 I y4 FU y2 0).bind fun z0 => (l0_mostHadFrom_63 I y4 FU 0 k1).bind fun z1 => l0_mostHadFrom_8 I k1 f (z0 - (mMin z0 z1)) (y3 + (mMin z0 z1)) (y4 + (-1))
def r0_mostHadFrom (I : mI) (x0 : Int32) : Option (Int32) := (l0_mostHadFrom_8 I x0 FU 0 0 9).bind fun z0 => some z0
set_option maxHeartbeats 4000000 in
set_option maxRecDepth 100000 in
theorem t0_mostHadFrom_16 (X : Nat × (Nat → Int32)) (Q : mQ) (s : Nat) (I : mI) (k1 : Int32) (k3 : Int32) (k4 : Int32) : ∀ (f : Nat) (y2 : Int32) (y5 : Int32) (z : Int32), l0_mostHadFrom_16 I k4 f y2 y5 = some z → mV X m0_mostHadFrom 1 0 0 57 [.ref 8, .int k1, .int z, .int k3, .int k4, mX0, mX0] [] NN KK I (PP s) Q → mV X m0_mostHadFrom 1 0 0 16 [.ref 8, .int k1, .int y2, .int k3, .int k4, .int y5, mX0] [] NN KK I (PP s) Q := by
  intro f
  induction f with
  | zero => intro y2 y5 z hr hk; cases hr
  | succ f ih =>
    intro y2 y5 z hr hk
    unfold l0_mostHadFrom_16 at hr
    refine mV_iload f0_mostHadFrom_16 rfl ?_
    refine mV_aload f0_mostHadFrom_18 rfl ?_
    refine mV_gI (I 8 7) f0_mostHadFrom_19 (by decide) kk_8 rfl rfl ?_
    refine mV_icmp_ge f0_mostHadFrom_22 (fun h0 => ?_) (fun h0 => ?_)
    · rw [if_pos h0] at hr
      have hr := Option.some.inj hr; subst hr
      refine mV_drop (L' := [.ref 8, .int k1, .int y2, .int k3, .int k4, mX0, mX0]) (mSub_k (mSub_k (mSub_k (mSub_k (mSub_k (mSub_x (mSub_x mSub_n))))))) ?_
      exact hk
    · rw [if_neg h0] at hr
      refine mV_iload f0_mostHadFrom_25 rfl ?_
      refine mV_aload f0_mostHadFrom_26 rfl ?_
      refine mV_getP f0_mostHadFrom_27 (by decide) kk_8 rfl (pp_8_3 _) ?_
      refine mV_iload f0_mostHadFrom_30 rfl ?_
      obtain ⟨z0, hz0, hr⟩ := mBind hr
      refine mV_ldO f0_mostHadFrom_32 (by decide) kk_12 hz0 ?_
      refine mV_iload f0_mostHadFrom_33 rfl ?_
      obtain ⟨z1, hz1, hr⟩ := mBind hr
      have keyz1 : mV X m0_mostHadFrom 1 0 0 49 [.ref 8, .int k1, mX0, .int k3, .int k4, .int y5, mX0] [.int z1, .int y2] NN KK I (PP s) Q := by
        refine mV_iadd f0_mostHadFrom_49 ?_
        refine mV_istore (L' := [.ref 8, .int k1, .int (y2 + z1), .int k3, .int k4, .int y5, mX0]) f0_mostHadFrom_50 (by decide) rfl rfl ?_
        refine mV_iinc (y := (y5 + 1)) (L' := [.ref 8, .int k1, .int (y2 + z1), .int k3, .int k4, .int (y5 + 1), mX0]) f0_mostHadFrom_51 rfl rfl (by decide) rfl rfl ?_
        refine mV_goto f0_mostHadFrom_54 ?_
        exact ih (y2 + z1) (y5 + 1) _ hr hk
      clear hr
      have hr := hz1
      clear hz1
      refine mV_icmp_ne f0_mostHadFrom_35 (fun h1 => ?_) (fun h1 => ?_)
      · rw [if_neg h1] at hr
        refine mV_push f0_mostHadFrom_48 ?_
        have hr := Option.some.inj hr; subst hr
        refine mV_drop (L' := [.ref 8, .int k1, mX0, .int k3, .int k4, .int y5, mX0]) (mSub_k (mSub_k (mSub_x (mSub_k (mSub_k (mSub_k (mSub_x mSub_n))))))) ?_
        exact keyz1
      · rw [if_pos h1] at hr
        refine mV_aload f0_mostHadFrom_38 rfl ?_
        refine mV_getP f0_mostHadFrom_39 (by decide) kk_8 rfl (pp_8_5 _) ?_
        refine mV_iload f0_mostHadFrom_42 rfl ?_
        obtain ⟨z2, hz2, hr⟩ := mBind hr
        refine mV_ldO f0_mostHadFrom_44 (by decide) kk_14 hz2 ?_
        refine mV_goto f0_mostHadFrom_45 ?_
        have hr := Option.some.inj hr; subst hr
        refine mV_drop (L' := [.ref 8, .int k1, mX0, .int k3, .int k4, .int y5, mX0]) (mSub_k (mSub_k (mSub_x (mSub_k (mSub_k (mSub_k (mSub_x mSub_n))))))) ?_
        exact keyz1
set_option maxHeartbeats 4000000 in
set_option maxRecDepth 100000 in
theorem t0_mostHadFrom_63 (X : Nat × (Nat → Int32)) (Q : mQ) (s : Nat) (I : mI) (k1 : Int32) (k2 : Int32) (k3 : Int32) (k4 : Int32) : ∀ (f : Nat) (y5 : Int32) (y6 : Int32) (z : Int32), l0_mostHadFrom_63 I k4 f y5 y6 = some z → mV X m0_mostHadFrom 1 0 0 100 [.ref 8, .int k1, .int k2, .int k3, .int k4, .int z, mX0] [] NN KK I (PP s) Q → mV X m0_mostHadFrom 1 0 0 63 [.ref 8, .int k1, .int k2, .int k3, .int k4, .int y5, .int y6] [] NN KK I (PP s) Q := by
  intro f
  induction f with
  | zero => intro y5 y6 z hr hk; cases hr
  | succ f ih =>
    intro y5 y6 z hr hk
    unfold l0_mostHadFrom_63 at hr
    refine mV_iload f0_mostHadFrom_63 rfl ?_
    refine mV_aload f0_mostHadFrom_65 rfl ?_
    refine mV_gI (I 8 6) f0_mostHadFrom_66 (by decide) kk_8 rfl rfl ?_
    refine mV_icmp_ge f0_mostHadFrom_69 (fun h0 => ?_) (fun h0 => ?_)
    · rw [if_pos h0] at hr
      have hr := Option.some.inj hr; subst hr
      refine mV_drop (L' := [.ref 8, .int k1, .int k2, .int k3, .int k4, .int y5, mX0]) (mSub_k (mSub_k (mSub_k (mSub_k (mSub_k (mSub_k (mSub_x mSub_n))))))) ?_
      exact hk
    · rw [if_neg h0] at hr
      refine mV_iload f0_mostHadFrom_72 rfl ?_
      refine mV_aload f0_mostHadFrom_74 rfl ?_
      refine mV_getP f0_mostHadFrom_75 (by decide) kk_8 rfl (pp_8_2 _) ?_
      refine mV_iload f0_mostHadFrom_78 rfl ?_
      obtain ⟨z0, hz0, hr⟩ := mBind hr
      refine mV_ldO f0_mostHadFrom_80 (by decide) kk_11 hz0 ?_
      refine mV_iload f0_mostHadFrom_81 rfl ?_
      obtain ⟨z1, hz1, hr⟩ := mBind hr
      have keyz1 : mV X m0_mostHadFrom 1 0 0 91 [.ref 8, .int k1, .int k2, .int k3, .int k4, mX0, .int y6] [.int z1, .int y5] NN KK I (PP s) Q := by
        refine mV_iadd f0_mostHadFrom_91 ?_
        refine mV_istore (L' := [.ref 8, .int k1, .int k2, .int k3, .int k4, .int (y5 + z1), .int y6]) f0_mostHadFrom_92 (by decide) rfl rfl ?_
        refine mV_iinc (y := (y6 + 1)) (L' := [.ref 8, .int k1, .int k2, .int k3, .int k4, .int (y5 + z1), .int (y6 + 1)]) f0_mostHadFrom_94 rfl rfl (by decide) rfl rfl ?_
        refine mV_goto f0_mostHadFrom_97 ?_
        exact ih (y5 + z1) (y6 + 1) _ hr hk
      clear hr
      have hr := hz1
      clear hz1
      refine mV_icmp_ne f0_mostHadFrom_83 (fun h1 => ?_) (fun h1 => ?_)
      · rw [if_neg h1] at hr
        refine mV_push f0_mostHadFrom_90 ?_
        have hr := Option.some.inj hr; subst hr
        refine mV_drop (L' := [.ref 8, .int k1, .int k2, .int k3, .int k4, mX0, .int y6]) (mSub_k (mSub_k (mSub_k (mSub_k (mSub_k (mSub_x (mSub_k mSub_n))))))) ?_
        exact keyz1
      · rw [if_pos h1] at hr
        refine mV_push f0_mostHadFrom_86 ?_
        refine mV_goto f0_mostHadFrom_87 ?_
        have hr := Option.some.inj hr; subst hr
        refine mV_drop (L' := [.ref 8, .int k1, .int k2, .int k3, .int k4, mX0, .int y6]) (mSub_k (mSub_k (mSub_k (mSub_k (mSub_k (mSub_x (mSub_k mSub_n))))))) ?_
        exact keyz1
set_option maxHeartbeats 4000000 in
set_option maxRecDepth 100000 in
theorem t0_mostHadFrom_8 (X : Nat × (Nat → Int32)) (Q : mQ) (s : Nat) (I : mI) (k1 : Int32) : ∀ (f : Nat) (y2 : Int32) (y3 : Int32) (y4 : Int32) (z : Int32), l0_mostHadFrom_8 I k1 f y2 y3 y4 = some z → mV X m0_mostHadFrom 1 0 0 124 [.ref 8, .int k1, mX0, .int z, mX0, mX0, mX0] [] NN KK I (PP s) Q → mV X m0_mostHadFrom 1 0 0 8 [.ref 8, .int k1, .int y2, .int y3, .int y4, mX0, mX0] [] NN KK I (PP s) Q := by
  intro f
  induction f with
  | zero => intro y2 y3 y4 z hr hk; cases hr
  | succ f ih =>
    intro y2 y3 y4 z hr hk
    unfold l0_mostHadFrom_8 at hr
    refine mV_iload f0_mostHadFrom_8 rfl ?_
    refine mV_if_lt f0_mostHadFrom_10 (fun h0 => ?_) (fun h0 => ?_)
    · rw [if_pos h0] at hr
      have hr := Option.some.inj hr; subst hr
      refine mV_drop (L' := [.ref 8, .int k1, mX0, .int y3, mX0, mX0, mX0]) (mSub_k (mSub_k (mSub_x (mSub_k (mSub_x (mSub_x (mSub_x mSub_n))))))) ?_
      exact hk
    · rw [if_neg h0] at hr
      refine mV_push f0_mostHadFrom_13 ?_
      refine mV_istore (L' := [.ref 8, .int k1, .int y2, .int y3, .int y4, .int 0, mX0]) f0_mostHadFrom_14 (by decide) rfl rfl ?_
      obtain ⟨z0, hz0, hr⟩ := mBind hr
      refine t0_mostHadFrom_16 X Q s I k1 y3 y4 FU y2 0 _ hz0 ?_
      refine mV_push f0_mostHadFrom_57 ?_
      refine mV_istore (L' := [.ref 8, .int k1, .int z0, .int y3, .int y4, .int 0, mX0]) f0_mostHadFrom_58 (by decide) rfl rfl ?_
      refine mV_iload f0_mostHadFrom_60 rfl ?_
      refine mV_istore (L' := [.ref 8, .int k1, .int z0, .int y3, .int y4, .int 0, .int k1]) f0_mostHadFrom_61 (by decide) rfl rfl ?_
      obtain ⟨z1, hz1, hr⟩ := mBind hr
      refine t0_mostHadFrom_63 X Q s I k1 z0 y3 y4 FU 0 k1 _ hz1 ?_
      refine mV_iload f0_mostHadFrom_100 rfl ?_
      refine mV_iload f0_mostHadFrom_101 rfl ?_
      refine mV_minC fm0_mostHadFrom_103 (Nat.le_of_ble_eq_true rfl) ?_
      refine mV_istore (L' := [.ref 8, .int k1, .int z0, .int y3, .int y4, .int z1, .int (mMin z0 z1)]) f0_mostHadFrom_106 (by decide) rfl rfl ?_
      refine mV_iload f0_mostHadFrom_108 rfl ?_
      refine mV_iload f0_mostHadFrom_109 rfl ?_
      refine mV_isub f0_mostHadFrom_111 ?_
      refine mV_istore (L' := [.ref 8, .int k1, .int (z0 - (mMin z0 z1)), .int y3, .int y4, .int z1, .int (mMin z0 z1)]) f0_mostHadFrom_112 (by decide) rfl rfl ?_
      refine mV_iload f0_mostHadFrom_113 rfl ?_
      refine mV_iload f0_mostHadFrom_114 rfl ?_
      refine mV_iadd f0_mostHadFrom_116 ?_
      refine mV_istore (L' := [.ref 8, .int k1, .int (z0 - (mMin z0 z1)), .int (y3 + (mMin z0 z1)), .int y4, .int z1, .int (mMin z0 z1)]) f0_mostHadFrom_117 (by decide) rfl rfl ?_
      refine mV_iinc (y := (y4 + (-1))) (L' := [.ref 8, .int k1, .int (z0 - (mMin z0 z1)), .int (y3 + (mMin z0 z1)), .int (y4 + (-1)), .int z1, .int (mMin z0 z1)]) f0_mostHadFrom_118 rfl rfl (by decide) rfl rfl ?_
      refine mV_goto f0_mostHadFrom_121 ?_
      refine mV_drop (L' := [.ref 8, .int k1, .int (z0 - (mMin z0 z1)), .int (y3 + (mMin z0 z1)), .int (y4 + (-1)), mX0, mX0]) (mSub_k (mSub_k (mSub_k (mSub_k (mSub_k (mSub_x (mSub_x mSub_n))))))) ?_
      exact ih (z0 - (mMin z0 z1)) (y3 + (mMin z0 z1)) (y4 + (-1)) _ hr hk
set_option maxHeartbeats 4000000 in
set_option maxRecDepth 100000 in
theorem w0_mostHadFrom (X : Nat × (Nat → Int32)) (I : mI) (s : Nat) (x0 : Int32) (Q : mQ) {res : Int32} (hr : r0_mostHadFrom I x0 = some res) (hQ : Q (some (.int res)) NN KK I (PP s)) : mV X m0_mostHadFrom 1 0 0 0 [.ref 8, .int x0, mX0, mX0, mX0, mX0, mX0] [] NN KK I (PP s) Q := by
  unfold r0_mostHadFrom at hr
  refine mV_push f0_mostHadFrom_0 ?_
  refine mV_istore (L' := [.ref 8, .int x0, .int 0, mX0, mX0, mX0, mX0]) f0_mostHadFrom_1 (by decide) rfl rfl ?_
  refine mV_push f0_mostHadFrom_2 ?_
  refine mV_istore (L' := [.ref 8, .int x0, .int 0, .int 0, mX0, mX0, mX0]) f0_mostHadFrom_3 (by decide) rfl rfl ?_
  refine mV_push f0_mostHadFrom_4 ?_
  refine mV_istore (L' := [.ref 8, .int x0, .int 0, .int 0, .int 9, mX0, mX0]) f0_mostHadFrom_6 (by decide) rfl rfl ?_
  obtain ⟨z0, hz0, hr⟩ := mBind hr
  refine t0_mostHadFrom_8 X Q s I x0 FU 0 0 9 _ hz0 ?_
  refine mV_iload f0_mostHadFrom_124 rfl ?_
  have hr := Option.some.inj hr; subst hr
  exact mV_iret rfl rfl f0_mostHadFrom_125 hQ
theorem c0_mostHadFrom (X : Nat × (Nat → Int32)) (I : mI) (s : Nat) (x0 : Int32) {res : Int32} (hr : r0_mostHadFrom I x0 = some res) : mC X m0_mostHadFrom 1 0 0 [.ref 8, .int x0] NN KK I (PP s) (mRet (some (.int res)) NN KK I (PP s)) :=
  mC_of (L0 := [.ref 8, .int x0, mX0, mX0, mX0, mX0, mX0]) rfl (Nat.le_of_ble_eq_true rfl) (w0_mostHadFrom X I s x0 _ hr (mRet_ok _ _ _ _ _))
def r0_mostHad (I : mI) (x0 : Int32) : Option (Int32 × mI) := (r0_giveRoom I x0).bind fun z0 => (r0_mostHadFrom z0 0).bind fun z1 => some (z1, z0)
set_option maxHeartbeats 4000000 in
set_option maxRecDepth 100000 in
theorem w0_mostHad (X : Nat × (Nat → Int32)) (I : mI) (s : Nat) (x0 : Int32) (Q : mQ) {res : Int32 × mI} (hr : r0_mostHad I x0 = some res) (hQ : Q (some (.int res.1)) NN KK res.2 (PP s)) : mV X m0_mostHad 2 0 0 0 [.ref 8, .int x0] [] NN KK I (PP s) Q := by
  unfold r0_mostHad at hr
  refine mV_aload f0_mostHad_0 rfl ?_
  refine mV_iload f0_mostHad_1 rfl ?_
  obtain ⟨z0, hz0, hr⟩ := mBind hr
  refine mV_cV f0_mostHad_2 tg_m0_giveRoom mCls0 (by decide) kk_8 (mC_deep (c0_giveRoom X I s x0 hz0) (by decide)) rfl rfl (Nat.le_of_ble_eq_true rfl) ?_
  refine mV_aload f0_mostHad_5 rfl ?_
  refine mV_push f0_mostHad_6 ?_
  obtain ⟨z1, hz1, hr⟩ := mBind hr
  refine mV_cV f0_mostHad_7 tg_m0_mostHadFrom mCls0 (by decide) kk_8 (mC_deep (c0_mostHadFrom X z0 s 0 hz1) (by decide)) rfl rfl (Nat.le_of_ble_eq_true rfl) ?_
  have hr := Option.some.inj hr; subst hr
  exact mV_iret rfl rfl f0_mostHad_10 hQ
theorem c0_mostHad (X : Nat × (Nat → Int32)) (I : mI) (s : Nat) (x0 : Int32) {res : Int32 × mI} (hr : r0_mostHad I x0 = some res) : mC X m0_mostHad 2 0 0 [.ref 8, .int x0] NN KK I (PP s) (mRet (some (.int res.1)) NN KK res.2 (PP s)) :=
  mC_of (L0 := [.ref 8, .int x0]) rfl (Nat.le_of_ble_eq_true rfl) (w0_mostHad X I s x0 _ hr (mRet_ok _ _ _ _ _))
def l0_firstHolder_2 (k1 : Int32) (k2 : Int32) : Nat → Int32 → mI → Option ((Int32 × mI) ⊕ (mI))
  | 0, _, _ => none
  | f + 1, y3, I => if (I 8 7 : Int32) ≤ (y3 : Int32) then some (.inr I) else (mLd I 14 6 y3).bind fun z0 => if (z0 : Int32) ≤ (0 : Int32) then l0_firstHolder_2 k1 k2 f (y3 + 1) I else (mLd I 12 6 y3).bind fun z1 => (mLd I 11 12 k1).bind fun z2 => if (z1 : Int32) < (z2 : Int32) then l0_firstHolder_2 k1 k2 f (y3 + 1) I else (mLd I 14 6 y3).bind fun z3 => (mSto I 14 6 y3 (z3 - 1)).bind fun z4 => (r0_mostHadFrom z4 (k1 + 1)).bind fun z5 => if ((1 + z5) : Int32) = (k2 : Int32) then some (.inl (y3, z4)) else (mLd z4 14 6 y3).bind fun z6 => (mSto z4 14 6 y3 (z6 + 1)).bind fun z7 => l0_firstHolder_2 k1 k2 f (y3 + 1) z7
def r0_firstHolder (I : mI) (x0 : Int32) (x1 : Int32) : Option (Int32 × mI) := (l0_firstHolder_2 x0 x1 FU 0 I).bind fun z0 => match z0 with | .inl rz0 => some rz0 | .inr wz0 => some ((-1), wz0)
set_option maxHeartbeats 4000000 in
set_option maxRecDepth 100000 in
theorem t0_firstHolder_2 (X : Nat × (Nat → Int32)) (Q : mQ) (s : Nat) (k1 : Int32) (k2 : Int32) : ∀ (f : Nat) (y3 : Int32) (I : mI) (z : (Int32 × mI) ⊕ (mI)), l0_firstHolder_2 k1 k2 f y3 I = some z → (∀ res, z = .inl res → Q (some (.int res.1)) NN KK res.2 (PP s)) → (∀ w, z = .inr w → mV X m0_firstHolder 2 0 0 75 [.ref 8, .int k1, .int k2, mX0] [] NN KK w (PP s) Q) → mV X m0_firstHolder 2 0 0 2 [.ref 8, .int k1, .int k2, .int y3] [] NN KK I (PP s) Q := by
  intro f
  induction f with
  | zero => intro y3 I z hr hret hk; cases hr
  | succ f ih =>
    intro y3 I z hr hret hk
    unfold l0_firstHolder_2 at hr
    refine mV_iload f0_firstHolder_2 rfl ?_
    refine mV_aload f0_firstHolder_3 rfl ?_
    refine mV_gI (I 8 7) f0_firstHolder_4 (by decide) kk_8 rfl rfl ?_
    refine mV_icmp_ge f0_firstHolder_7 (fun h0 => ?_) (fun h0 => ?_)
    · rw [if_pos h0] at hr
      have hr := Option.some.inj hr; subst hr
      refine mV_drop (L' := [.ref 8, .int k1, .int k2, mX0]) (mSub_k (mSub_k (mSub_k (mSub_x mSub_n)))) ?_
      exact hk _ rfl
    · rw [if_neg h0] at hr
      refine mV_aload f0_firstHolder_10 rfl ?_
      refine mV_getP f0_firstHolder_11 (by decide) kk_8 rfl (pp_8_5 _) ?_
      refine mV_iload f0_firstHolder_14 rfl ?_
      obtain ⟨z0, hz0, hr⟩ := mBind hr
      refine mV_ldO f0_firstHolder_15 (by decide) kk_14 hz0 ?_
      refine mV_if_le f0_firstHolder_16 (fun h1 => ?_) (fun h1 => ?_)
      · rw [if_pos h1] at hr
        refine mV_iinc (y := (y3 + 1)) (L' := [.ref 8, .int k1, .int k2, .int (y3 + 1)]) f0_firstHolder_69 rfl rfl (by decide) rfl rfl ?_
        refine mV_goto f0_firstHolder_72 ?_
        exact ih (y3 + 1) I _ hr hret hk
      · rw [if_neg h1] at hr
        refine mV_aload f0_firstHolder_19 rfl ?_
        refine mV_getP f0_firstHolder_20 (by decide) kk_8 rfl (pp_8_3 _) ?_
        refine mV_iload f0_firstHolder_23 rfl ?_
        obtain ⟨z1, hz1, hr⟩ := mBind hr
        refine mV_ldO f0_firstHolder_24 (by decide) kk_12 hz1 ?_
        refine mV_aload f0_firstHolder_25 rfl ?_
        refine mV_getP f0_firstHolder_26 (by decide) kk_8 rfl (pp_8_2 _) ?_
        refine mV_iload f0_firstHolder_29 rfl ?_
        obtain ⟨z2, hz2, hr⟩ := mBind hr
        refine mV_ldO f0_firstHolder_30 (by decide) kk_11 hz2 ?_
        refine mV_icmp_lt f0_firstHolder_31 (fun h2 => ?_) (fun h2 => ?_)
        · rw [if_pos h2] at hr
          refine mV_iinc (y := (y3 + 1)) (L' := [.ref 8, .int k1, .int k2, .int (y3 + 1)]) f0_firstHolder_69 rfl rfl (by decide) rfl rfl ?_
          refine mV_goto f0_firstHolder_72 ?_
          exact ih (y3 + 1) I _ hr hret hk
        · rw [if_neg h2] at hr
          refine mV_aload f0_firstHolder_34 rfl ?_
          refine mV_getP f0_firstHolder_35 (by decide) kk_8 rfl (pp_8_5 _) ?_
          refine mV_iload f0_firstHolder_38 rfl ?_
          refine mV_dup2 f0_firstHolder_39 rfl rfl ?_
          obtain ⟨z3, hz3, hr⟩ := mBind hr
          refine mV_ldO f0_firstHolder_40 (by decide) kk_14 hz3 ?_
          refine mV_push f0_firstHolder_41 ?_
          refine mV_isub f0_firstHolder_42 ?_
          obtain ⟨z4, hz4, hr⟩ := mBind hr
          refine mV_stO f0_firstHolder_43 (by decide) kk_14 hz4 ?_
          refine mV_push f0_firstHolder_44 ?_
          refine mV_aload f0_firstHolder_45 rfl ?_
          refine mV_iload f0_firstHolder_46 rfl ?_
          refine mV_push f0_firstHolder_47 ?_
          refine mV_iadd f0_firstHolder_48 ?_
          obtain ⟨z5, hz5, hr⟩ := mBind hr
          refine mV_cV f0_firstHolder_49 tg_m0_mostHadFrom mCls0 (by decide) kk_8 (mC_deep (c0_mostHadFrom X z4 s (k1 + 1) hz5) (by decide)) rfl rfl (Nat.le_of_ble_eq_true rfl) ?_
          refine mV_iadd f0_firstHolder_52 ?_
          refine mV_iload f0_firstHolder_53 rfl ?_
          refine mV_icmp_ne f0_firstHolder_54 (fun h3 => ?_) (fun h3 => ?_)
          · rw [if_neg h3] at hr
            refine mV_aload f0_firstHolder_59 rfl ?_
            refine mV_getP f0_firstHolder_60 (by decide) kk_8 rfl (pp_8_5 _) ?_
            refine mV_iload f0_firstHolder_63 rfl ?_
            refine mV_dup2 f0_firstHolder_64 rfl rfl ?_
            obtain ⟨z6, hz6, hr⟩ := mBind hr
            refine mV_ldO f0_firstHolder_65 (by decide) kk_14 hz6 ?_
            refine mV_push f0_firstHolder_66 ?_
            refine mV_iadd f0_firstHolder_67 ?_
            obtain ⟨z7, hz7, hr⟩ := mBind hr
            refine mV_stO f0_firstHolder_68 (by decide) kk_14 hz7 ?_
            refine mV_iinc (y := (y3 + 1)) (L' := [.ref 8, .int k1, .int k2, .int (y3 + 1)]) f0_firstHolder_69 rfl rfl (by decide) rfl rfl ?_
            refine mV_goto f0_firstHolder_72 ?_
            exact ih (y3 + 1) z7 _ hr hret hk
          · rw [if_pos h3] at hr
            refine mV_iload f0_firstHolder_57 rfl ?_
            have hr := Option.some.inj hr; subst hr; have hQ := hret _ rfl
            exact mV_iret rfl rfl f0_firstHolder_58 hQ
set_option maxHeartbeats 4000000 in
set_option maxRecDepth 100000 in
theorem w0_firstHolder (X : Nat × (Nat → Int32)) (I : mI) (s : Nat) (x0 : Int32) (x1 : Int32) (Q : mQ) {res : Int32 × mI} (hr : r0_firstHolder I x0 x1 = some res) (hQ : Q (some (.int res.1)) NN KK res.2 (PP s)) : mV X m0_firstHolder 2 0 0 0 [.ref 8, .int x0, .int x1, mX0] [] NN KK I (PP s) Q := by
  unfold r0_firstHolder at hr
  refine mV_push f0_firstHolder_0 ?_
  refine mV_istore (L' := [.ref 8, .int x0, .int x1, .int 0]) f0_firstHolder_1 (by decide) rfl rfl ?_
  obtain ⟨z0, hz0, hr⟩ := mBind hr
  refine t0_firstHolder_2 X Q s x0 x1 FU 0 I _ hz0 (fun res ez0 => ?_) (fun wz0 ez0 => ?_)
  · rw [ez0] at hr; have hr := Option.some.inj hr; subst hr; exact hQ
  rw [ez0] at hr
  dsimp only at hr
  refine mV_push f0_firstHolder_75 ?_
  have hr := Option.some.inj hr; subst hr
  exact mV_iret rfl rfl f0_firstHolder_76 hQ
theorem c0_firstHolder (X : Nat × (Nat → Int32)) (I : mI) (s : Nat) (x0 : Int32) (x1 : Int32) {res : Int32 × mI} (hr : r0_firstHolder I x0 x1 = some res) : mC X m0_firstHolder 2 0 0 [.ref 8, .int x0, .int x1] NN KK I (PP s) (mRet (some (.int res.1)) NN KK res.2 (PP s)) :=
  mC_of (L0 := [.ref 8, .int x0, .int x1, mX0]) rfl (Nat.le_of_ble_eq_true rfl) (w0_firstHolder X I s x0 x1 _ hr (mRet_ok _ _ _ _ _))
def l0_holderOf_17 (k2 : Int32) : Nat → Int32 → Int32 → Int32 → mI → Option (Int32 × mI)
  | 0, _, _, _, _ => none
  | f + 1, y3, y4, y5, I => if (k2 : Int32) < (y5 : Int32) then some (y4, I) else if (I 8 6 : Int32) ≤ (y5 : Int32) then some (y4, I) else (r0_firstHolder I y5 y3).bind fun z0 => (if (z0.1 : Int32) = ((-1) : Int32) then some 0 else some 1 : Option (Int32)).bind fun z1 => l0_holderOf_17 k2 f (y3 - z1) z0.1 (y5 + 1) z0.2
def r0_holderOf (I : mI) (x0 : Int32) (x1 : Int32) : Option (Int32 × mI) := (r0_giveRoom I x0).bind fun z0 => (r0_mostHadFrom z0 0).bind fun z1 => (l0_holderOf_17 x1 FU z1 (-1) 0 z0).bind fun z2 => some (z2.1, z2.2)
set_option maxHeartbeats 4000000 in
set_option maxRecDepth 100000 in
theorem t0_holderOf_17 (X : Nat × (Nat → Int32)) (Q : mQ) (s : Nat) (k2 : Int32) : ∀ (f : Nat) (y3 : Int32) (y4 : Int32) (y5 : Int32) (I : mI) (z : Int32 × mI), l0_holderOf_17 k2 f y3 y4 y5 I = some z → mV X m0_holderOf 3 0 0 61 [.ref 8, mX0, .int k2, mX0, .int z.1, mX0] [] NN KK z.2 (PP s) Q → mV X m0_holderOf 3 0 0 17 [.ref 8, mX0, .int k2, .int y3, .int y4, .int y5] [] NN KK I (PP s) Q := by
  intro f
  induction f with
  | zero => intro y3 y4 y5 I z hr hk; cases hr
  | succ f ih =>
    intro y3 y4 y5 I z hr hk
    unfold l0_holderOf_17 at hr
    refine mV_iload f0_holderOf_17 rfl ?_
    refine mV_iload f0_holderOf_19 rfl ?_
    refine mV_icmp_gt f0_holderOf_20 (fun h0 => ?_) (fun h0 => ?_)
    · rw [if_pos h0] at hr
      have hr := Option.some.inj hr; subst hr
      refine mV_drop (L' := [.ref 8, mX0, .int k2, mX0, .int y4, mX0]) (mSub_k (mSub_x (mSub_k (mSub_x (mSub_k (mSub_x mSub_n)))))) ?_
      exact hk
    · rw [if_neg h0] at hr
      refine mV_iload f0_holderOf_23 rfl ?_
      refine mV_aload f0_holderOf_25 rfl ?_
      refine mV_gI (I 8 6) f0_holderOf_26 (by decide) kk_8 rfl rfl ?_
      refine mV_icmp_ge f0_holderOf_29 (fun h1 => ?_) (fun h1 => ?_)
      · rw [if_pos h1] at hr
        have hr := Option.some.inj hr; subst hr
        refine mV_drop (L' := [.ref 8, mX0, .int k2, mX0, .int y4, mX0]) (mSub_k (mSub_x (mSub_k (mSub_x (mSub_k (mSub_x mSub_n)))))) ?_
        exact hk
      · rw [if_neg h1] at hr
        refine mV_aload f0_holderOf_32 rfl ?_
        refine mV_iload f0_holderOf_33 rfl ?_
        refine mV_iload f0_holderOf_35 rfl ?_
        obtain ⟨z0, hz0, hr⟩ := mBind hr
        refine mV_cV f0_holderOf_36 tg_m0_firstHolder mCls0 (by decide) kk_8 (mC_deep (c0_firstHolder X I s y5 y3 hz0) (by decide)) rfl rfl (Nat.le_of_ble_eq_true rfl) ?_
        refine mV_istore (L' := [.ref 8, mX0, .int k2, .int y3, .int z0.1, .int y5]) f0_holderOf_39 (by decide) rfl rfl ?_
        refine mV_iload f0_holderOf_41 rfl ?_
        refine mV_iload f0_holderOf_42 rfl ?_
        refine mV_push f0_holderOf_44 ?_
        obtain ⟨z1, hz1, hr⟩ := mBind hr
        have keyz1 : mV X m0_holderOf 3 0 0 53 [.ref 8, mX0, .int k2, mX0, .int z0.1, .int y5] [.int z1, .int y3] NN KK z0.2 (PP s) Q := by
          refine mV_isub f0_holderOf_53 ?_
          refine mV_istore (L' := [.ref 8, mX0, .int k2, .int (y3 - z1), .int z0.1, .int y5]) f0_holderOf_54 (by decide) rfl rfl ?_
          refine mV_iinc (y := (y5 + 1)) (L' := [.ref 8, mX0, .int k2, .int (y3 - z1), .int z0.1, .int (y5 + 1)]) f0_holderOf_55 rfl rfl (by decide) rfl rfl ?_
          refine mV_goto f0_holderOf_58 ?_
          exact ih (y3 - z1) z0.1 (y5 + 1) z0.2 _ hr hk
        clear hr
        have hr := hz1
        clear hz1
        refine mV_icmp_ne f0_holderOf_45 (fun h2 => ?_) (fun h2 => ?_)
        · rw [if_neg h2] at hr
          refine mV_push f0_holderOf_52 ?_
          have hr := Option.some.inj hr; subst hr
          refine mV_drop (L' := [.ref 8, mX0, .int k2, mX0, .int z0.1, .int y5]) (mSub_k (mSub_x (mSub_k (mSub_x (mSub_k (mSub_k mSub_n)))))) ?_
          exact keyz1
        · rw [if_pos h2] at hr
          refine mV_push f0_holderOf_48 ?_
          refine mV_goto f0_holderOf_49 ?_
          have hr := Option.some.inj hr; subst hr
          refine mV_drop (L' := [.ref 8, mX0, .int k2, mX0, .int z0.1, .int y5]) (mSub_k (mSub_x (mSub_k (mSub_x (mSub_k (mSub_k mSub_n)))))) ?_
          exact keyz1
set_option maxHeartbeats 4000000 in
set_option maxRecDepth 100000 in
theorem w0_holderOf (X : Nat × (Nat → Int32)) (I : mI) (s : Nat) (x0 : Int32) (x1 : Int32) (Q : mQ) {res : Int32 × mI} (hr : r0_holderOf I x0 x1 = some res) (hQ : Q (some (.int res.1)) NN KK res.2 (PP s)) : mV X m0_holderOf 3 0 0 0 [.ref 8, .int x0, .int x1, mX0, mX0, mX0] [] NN KK I (PP s) Q := by
  unfold r0_holderOf at hr
  refine mV_aload f0_holderOf_0 rfl ?_
  refine mV_iload f0_holderOf_1 rfl ?_
  obtain ⟨z0, hz0, hr⟩ := mBind hr
  refine mV_cV f0_holderOf_2 tg_m0_giveRoom mCls0 (by decide) kk_8 (mC_deep (c0_giveRoom X I s x0 hz0) (by decide)) rfl rfl (Nat.le_of_ble_eq_true rfl) ?_
  refine mV_aload f0_holderOf_5 rfl ?_
  refine mV_push f0_holderOf_6 ?_
  obtain ⟨z1, hz1, hr⟩ := mBind hr
  refine mV_cV f0_holderOf_7 tg_m0_mostHadFrom mCls0 (by decide) kk_8 (mC_deep (c0_mostHadFrom X z0 s 0 hz1) (by decide)) rfl rfl (Nat.le_of_ble_eq_true rfl) ?_
  refine mV_istore (L' := [.ref 8, .int x0, .int x1, .int z1, mX0, mX0]) f0_holderOf_10 (by decide) rfl rfl ?_
  refine mV_push f0_holderOf_11 ?_
  refine mV_istore (L' := [.ref 8, .int x0, .int x1, .int z1, .int (-1), mX0]) f0_holderOf_12 (by decide) rfl rfl ?_
  refine mV_push f0_holderOf_14 ?_
  refine mV_istore (L' := [.ref 8, .int x0, .int x1, .int z1, .int (-1), .int 0]) f0_holderOf_15 (by decide) rfl rfl ?_
  obtain ⟨z2, hz2, hr⟩ := mBind hr
  refine mV_drop (L' := [.ref 8, mX0, .int x1, .int z1, .int (-1), .int 0]) (mSub_k (mSub_x (mSub_k (mSub_k (mSub_k (mSub_k mSub_n)))))) ?_
  refine t0_holderOf_17 X Q s x1 FU z1 (-1) 0 z0 _ hz2 ?_
  refine mV_iload f0_holderOf_61 rfl ?_
  have hr := Option.some.inj hr; subst hr
  exact mV_iret rfl rfl f0_holderOf_63 hQ
theorem c0_holderOf (X : Nat × (Nat → Int32)) (I : mI) (s : Nat) (x0 : Int32) (x1 : Int32) {res : Int32 × mI} (hr : r0_holderOf I x0 x1 = some res) : mC X m0_holderOf 3 0 0 [.ref 8, .int x0, .int x1] NN KK I (PP s) (mRet (some (.int res.1)) NN KK res.2 (PP s)) :=
  mC_of (L0 := [.ref 8, .int x0, .int x1, mX0, mX0, mX0]) rfl (Nat.le_of_ble_eq_true rfl) (w0_holderOf X I s x0 x1 _ hr (mRet_ok _ _ _ _ _))
def r9_have (I : mI) (x0 : Int32) (x1 : Int32) : Option (Int32 × mI) := if (x0 : Int32) < (1 : Int32) then some ((-1), I) else if (12 : Int32) < (x0 : Int32) then some ((-1), I) else if (x1 : Int32) = (0 : Int32) then (if (x1 : Int32) = (0 : Int32) then (r0_mostHad I x0).bind fun z2 => some (z2.1, z2.2) else (r0_holderOf I x0 (x1 - 10)).bind fun z1 => some (z1.1, z1.2) : Option (Int32 × mI)).bind fun z0 => some (z0.1, z0.2) else if (x1 : Int32) < (10 : Int32) then some ((-1), I) else if ((r0_hasPiece I (x1 - 10)) : Int32) = (0 : Int32) then some ((-1), I) else (if (x1 : Int32) = (0 : Int32) then (r0_mostHad I x0).bind fun z5 => some (z5.1, z5.2) else (r0_holderOf I x0 (x1 - 10)).bind fun z4 => some (z4.1, z4.2) : Option (Int32 × mI)).bind fun z3 => some (z3.1, z3.2)
set_option maxHeartbeats 4000000 in
set_option maxRecDepth 100000 in
theorem w9_have (X : Nat × (Nat → Int32)) (I : mI) (s : Nat) (x0 : Int32) (x1 : Int32) (Q : mQ) {res : Int32 × mI} (hr : r9_have I x0 x1 = some res) (hQ : Q (some (.int res.1)) NN KK res.2 (PP s)) : mV X m9_have 4 0 0 0 [.ref 0, .int x0, .int x1] [] NN KK I (PP s) Q := by
  unfold r9_have at hr
  refine mV_iload f9_have_0 rfl ?_
  refine mV_push f9_have_1 ?_
  refine mV_icmp_lt f9_have_2 (fun h0 => ?_) (fun h0 => ?_)
  · rw [if_pos h0] at hr
    refine mV_push f9_have_38 ?_
    have hr := Option.some.inj hr; subst hr
    exact mV_iret rfl rfl f9_have_39 hQ
  · rw [if_neg h0] at hr
    refine mV_iload f9_have_5 rfl ?_
    refine mV_push f9_have_6 ?_
    refine mV_icmp_gt f9_have_8 (fun h1 => ?_) (fun h1 => ?_)
    · rw [if_pos h1] at hr
      refine mV_push f9_have_38 ?_
      have hr := Option.some.inj hr; subst hr
      exact mV_iret rfl rfl f9_have_39 hQ
    · rw [if_neg h1] at hr
      refine mV_iload f9_have_11 rfl ?_
      refine mV_if_eq f9_have_12 (fun h2 => ?_) (fun h2 => ?_)
      · rw [if_pos h2] at hr
        refine mV_iload f9_have_40 rfl ?_
        obtain ⟨z0, hz0, hr⟩ := mBind hr
        have keyz0 : mV X m9_have 4 0 0 73 [.ref 0, mX0, mX0] [.int z0.1] NN KK z0.2 (PP s) Q := by
          have hr := Option.some.inj hr; subst hr
          exact mV_iret rfl rfl f9_have_73 hQ
        clear hr
        have hr := hz0
        clear hz0
        refine mV_if_ne f9_have_41 (fun h3 => ?_) (fun h3 => ?_)
        · rw [if_neg h3] at hr
          refine mV_aload f9_have_58 rfl ?_
          refine mV_getP f9_have_59 (by decide) kk_0 rfl (pp_0_1 _) ?_
          refine mV_getP f9_have_62 (by decide) kk_2 rfl (pp_2_1 _) ?_
          refine mV_iload f9_have_65 rfl ?_
          refine mV_iload f9_have_66 rfl ?_
          refine mV_push f9_have_67 ?_
          refine mV_isub f9_have_69 ?_
          obtain ⟨z1, hz1, hr⟩ := mBind hr
          refine mV_cV f9_have_70 tg_m0_holderOf mCls0 (by decide) kk_8 (mC_deep (c0_holderOf X I s x0 (x1 - 10) hz1) (by decide)) rfl rfl (Nat.le_of_ble_eq_true rfl) ?_
          have hr := Option.some.inj hr; subst hr
          refine mV_drop (L' := [.ref 0, mX0, mX0]) (mSub_k (mSub_x (mSub_x mSub_n))) ?_
          exact keyz0
        · rw [if_pos h3] at hr
          refine mV_aload f9_have_44 rfl ?_
          refine mV_getP f9_have_45 (by decide) kk_0 rfl (pp_0_1 _) ?_
          refine mV_getP f9_have_48 (by decide) kk_2 rfl (pp_2_1 _) ?_
          refine mV_iload f9_have_51 rfl ?_
          obtain ⟨z2, hz2, hr⟩ := mBind hr
          refine mV_cV f9_have_52 tg_m0_mostHad mCls0 (by decide) kk_8 (mC_deep (c0_mostHad X I s x0 hz2) (by decide)) rfl rfl (Nat.le_of_ble_eq_true rfl) ?_
          refine mV_goto f9_have_55 ?_
          have hr := Option.some.inj hr; subst hr
          refine mV_drop (L' := [.ref 0, mX0, mX0]) (mSub_k (mSub_x (mSub_x mSub_n))) ?_
          exact keyz0
      · rw [if_neg h2] at hr
        refine mV_iload f9_have_15 rfl ?_
        refine mV_push f9_have_16 ?_
        refine mV_icmp_lt f9_have_18 (fun h4 => ?_) (fun h4 => ?_)
        · rw [if_pos h4] at hr
          refine mV_push f9_have_38 ?_
          have hr := Option.some.inj hr; subst hr
          exact mV_iret rfl rfl f9_have_39 hQ
        · rw [if_neg h4] at hr
          refine mV_aload f9_have_21 rfl ?_
          refine mV_getP f9_have_22 (by decide) kk_0 rfl (pp_0_1 _) ?_
          refine mV_getP f9_have_25 (by decide) kk_2 rfl (pp_2_1 _) ?_
          refine mV_iload f9_have_28 rfl ?_
          refine mV_push f9_have_29 ?_
          refine mV_isub f9_have_31 ?_
          refine mV_cV f9_have_32 tg_m0_hasPiece mCls0 (by decide) kk_8 (mC_deep (c0_hasPiece X I s (x1 - 10) rfl) (by decide)) rfl rfl (Nat.le_of_ble_eq_true rfl) ?_
          refine mV_if_ne f9_have_35 (fun h5 => ?_) (fun h5 => ?_)
          · rw [if_neg h5] at hr
            refine mV_iload f9_have_40 rfl ?_
            obtain ⟨z3, hz3, hr⟩ := mBind hr
            have keyz3 : mV X m9_have 4 0 0 73 [.ref 0, mX0, mX0] [.int z3.1] NN KK z3.2 (PP s) Q := by
              have hr := Option.some.inj hr; subst hr
              exact mV_iret rfl rfl f9_have_73 hQ
            clear hr
            have hr := hz3
            clear hz3
            refine mV_if_ne f9_have_41 (fun h6 => ?_) (fun h6 => ?_)
            · rw [if_neg h6] at hr
              refine mV_aload f9_have_58 rfl ?_
              refine mV_getP f9_have_59 (by decide) kk_0 rfl (pp_0_1 _) ?_
              refine mV_getP f9_have_62 (by decide) kk_2 rfl (pp_2_1 _) ?_
              refine mV_iload f9_have_65 rfl ?_
              refine mV_iload f9_have_66 rfl ?_
              refine mV_push f9_have_67 ?_
              refine mV_isub f9_have_69 ?_
              obtain ⟨z4, hz4, hr⟩ := mBind hr
              refine mV_cV f9_have_70 tg_m0_holderOf mCls0 (by decide) kk_8 (mC_deep (c0_holderOf X I s x0 (x1 - 10) hz4) (by decide)) rfl rfl (Nat.le_of_ble_eq_true rfl) ?_
              have hr := Option.some.inj hr; subst hr
              refine mV_drop (L' := [.ref 0, mX0, mX0]) (mSub_k (mSub_x (mSub_x mSub_n))) ?_
              exact keyz3
            · rw [if_pos h6] at hr
              refine mV_aload f9_have_44 rfl ?_
              refine mV_getP f9_have_45 (by decide) kk_0 rfl (pp_0_1 _) ?_
              refine mV_getP f9_have_48 (by decide) kk_2 rfl (pp_2_1 _) ?_
              refine mV_iload f9_have_51 rfl ?_
              obtain ⟨z5, hz5, hr⟩ := mBind hr
              refine mV_cV f9_have_52 tg_m0_mostHad mCls0 (by decide) kk_8 (mC_deep (c0_mostHad X I s x0 hz5) (by decide)) rfl rfl (Nat.le_of_ble_eq_true rfl) ?_
              refine mV_goto f9_have_55 ?_
              have hr := Option.some.inj hr; subst hr
              refine mV_drop (L' := [.ref 0, mX0, mX0]) (mSub_k (mSub_x (mSub_x mSub_n))) ?_
              exact keyz3
          · rw [if_pos h5] at hr
            refine mV_push f9_have_38 ?_
            have hr := Option.some.inj hr; subst hr
            exact mV_iret rfl rfl f9_have_39 hQ
theorem c9_have (X : Nat × (Nat → Int32)) (I : mI) (s : Nat) (x0 : Int32) (x1 : Int32) {res : Int32 × mI} (hr : r9_have I x0 x1 = some res) : mC X m9_have 4 0 0 [.ref 0, .int x0, .int x1] NN KK I (PP s) (mRet (some (.int res.1)) NN KK res.2 (PP s)) :=
  mC_of (L0 := [.ref 0, .int x0, .int x1]) rfl (Nat.le_of_ble_eq_true rfl) (w9_have X I s x0 x1 _ hr (mRet_ok _ _ _ _ _))
def l8_groupOf_15 (I : mI) : Nat → Int32 → Int32 → Option (Int32)
  | 0, _, _ => none
  | f + 1, y2, y4 => if (I 24 2 : Int32) ≤ (y4 : Int32) then some y2 else (r6_cell_24 I y4 0).bind fun z0 => (r6_cell_24 I y4 1).bind fun z1 => (if ((y2 &&& (((1 : Int32) <<< (z0 &&& 31)) ||| ((1 : Int32) <<< (z1 &&& 31)))) : Int32) = (0 : Int32) then some 0 else some (((1 : Int32) <<< (z0 &&& 31)) ||| ((1 : Int32) <<< (z1 &&& 31))) : Option (Int32)).bind fun z2 => l8_groupOf_15 I f (y2 ||| z2) (y4 + 1)
def l8_groupOf_6 (I : mI) : Nat → Int32 → Int32 → Option (Int32)
  | 0, _, _ => none
  | f + 1, y2, y3 => if (12 : Int32) ≤ (y3 : Int32) then some y2 else (l8_groupOf_15 I FU y2 0).bind fun z0 => l8_groupOf_6 I f z0 (y3 + 1)
def r8_groupOf (I : mI) (x0 : Int32) : Option (Int32) := (l8_groupOf_6 I FU ((1 : Int32) <<< (x0 &&& 31)) 1).bind fun z0 => some z0
set_option maxHeartbeats 4000000 in
set_option maxRecDepth 100000 in
theorem t8_groupOf_15 (X : Nat × (Nat → Int32)) (Q : mQ) (s : Nat) (I : mI) (k3 : Int32) : ∀ (f : Nat) (y2 : Int32) (y4 : Int32) (z : Int32), l8_groupOf_15 I f y2 y4 = some z → mV X m8_groupOf 1 0 0 76 [.ref 2, mX0, .int z, .int k3, mX0, mX0] [] NN KK I (PP s) Q → mV X m8_groupOf 1 0 0 15 [.ref 2, mX0, .int y2, .int k3, .int y4, mX0] [] NN KK I (PP s) Q := by
  intro f
  induction f with
  | zero => intro y2 y4 z hr hk; cases hr
  | succ f ih =>
    intro y2 y4 z hr hk
    unfold l8_groupOf_15 at hr
    refine mV_iload f8_groupOf_15 rfl ?_
    refine mV_aload f8_groupOf_17 rfl ?_
    refine mV_getP f8_groupOf_18 (by decide) kk_2 rfl (pp_2_5 _) ?_
    refine mV_gI (I 24 2) f8_groupOf_21 (by decide) kk_24 rfl rfl ?_
    refine mV_icmp_ge f8_groupOf_24 (fun h0 => ?_) (fun h0 => ?_)
    · rw [if_pos h0] at hr
      have hr := Option.some.inj hr; subst hr
      refine mV_drop (L' := [.ref 2, mX0, .int y2, .int k3, mX0, mX0]) (mSub_k (mSub_x (mSub_k (mSub_k (mSub_x (mSub_x mSub_n)))))) ?_
      exact hk
    · rw [if_neg h0] at hr
      refine mV_push f8_groupOf_27 ?_
      refine mV_aload f8_groupOf_28 rfl ?_
      refine mV_getP f8_groupOf_29 (by decide) kk_2 rfl (pp_2_5 _) ?_
      refine mV_iload f8_groupOf_32 rfl ?_
      refine mV_push f8_groupOf_34 ?_
      obtain ⟨z0, hz0, hr⟩ := mBind hr
      refine mV_cV f8_groupOf_35 tg_m6_cell mCls6 (by decide) kk_24 (mC_deep (c6_cell_24 X I s y4 0 hz0) (by decide)) rfl rfl (Nat.le_of_ble_eq_true rfl) ?_
      refine mV_ishl f8_groupOf_38 ?_
      refine mV_push f8_groupOf_39 ?_
      refine mV_aload f8_groupOf_40 rfl ?_
      refine mV_getP f8_groupOf_41 (by decide) kk_2 rfl (pp_2_5 _) ?_
      refine mV_iload f8_groupOf_44 rfl ?_
      refine mV_push f8_groupOf_46 ?_
      obtain ⟨z1, hz1, hr⟩ := mBind hr
      refine mV_cV f8_groupOf_47 tg_m6_cell mCls6 (by decide) kk_24 (mC_deep (c6_cell_24 X I s y4 1 hz1) (by decide)) rfl rfl (Nat.le_of_ble_eq_true rfl) ?_
      refine mV_ishl f8_groupOf_50 ?_
      refine mV_ior f8_groupOf_51 ?_
      refine mV_istore (L' := [.ref 2, mX0, .int y2, .int k3, .int y4, .int (((1 : Int32) <<< (z0 &&& 31)) ||| ((1 : Int32) <<< (z1 &&& 31)))]) f8_groupOf_52 (by decide) rfl rfl ?_
      refine mV_iload f8_groupOf_54 rfl ?_
      refine mV_iload f8_groupOf_55 rfl ?_
      refine mV_iload f8_groupOf_56 rfl ?_
      refine mV_iand f8_groupOf_58 ?_
      obtain ⟨z2, hz2, hr⟩ := mBind hr
      have keyz2 : mV X m8_groupOf 1 0 0 68 [.ref 2, mX0, mX0, .int k3, .int y4, mX0] [.int z2, .int y2] NN KK I (PP s) Q := by
        refine mV_ior f8_groupOf_68 ?_
        refine mV_istore (L' := [.ref 2, mX0, .int (y2 ||| z2), .int k3, .int y4, mX0]) f8_groupOf_69 (by decide) rfl rfl ?_
        refine mV_iinc (y := (y4 + 1)) (L' := [.ref 2, mX0, .int (y2 ||| z2), .int k3, .int (y4 + 1), mX0]) f8_groupOf_70 rfl rfl (by decide) rfl rfl ?_
        refine mV_goto f8_groupOf_73 ?_
        exact ih (y2 ||| z2) (y4 + 1) _ hr hk
      clear hr
      have hr := hz2
      clear hz2
      refine mV_if_eq f8_groupOf_59 (fun h1 => ?_) (fun h1 => ?_)
      · rw [if_pos h1] at hr
        refine mV_push f8_groupOf_67 ?_
        have hr := Option.some.inj hr; subst hr
        refine mV_drop (L' := [.ref 2, mX0, mX0, .int k3, .int y4, mX0]) (mSub_k (mSub_x (mSub_x (mSub_k (mSub_k (mSub_x mSub_n)))))) ?_
        exact keyz2
      · rw [if_neg h1] at hr
        refine mV_iload f8_groupOf_62 rfl ?_
        refine mV_goto f8_groupOf_64 ?_
        have hr := Option.some.inj hr; subst hr
        refine mV_drop (L' := [.ref 2, mX0, mX0, .int k3, .int y4, mX0]) (mSub_k (mSub_x (mSub_x (mSub_k (mSub_k (mSub_x mSub_n)))))) ?_
        exact keyz2
set_option maxHeartbeats 4000000 in
set_option maxRecDepth 100000 in
theorem t8_groupOf_6 (X : Nat × (Nat → Int32)) (Q : mQ) (s : Nat) (I : mI) : ∀ (f : Nat) (y2 : Int32) (y3 : Int32) (z : Int32), l8_groupOf_6 I f y2 y3 = some z → mV X m8_groupOf 1 0 0 82 [.ref 2, mX0, .int z, mX0, mX0, mX0] [] NN KK I (PP s) Q → mV X m8_groupOf 1 0 0 6 [.ref 2, mX0, .int y2, .int y3, mX0, mX0] [] NN KK I (PP s) Q := by
  intro f
  induction f with
  | zero => intro y2 y3 z hr hk; cases hr
  | succ f ih =>
    intro y2 y3 z hr hk
    unfold l8_groupOf_6 at hr
    refine mV_iload f8_groupOf_6 rfl ?_
    refine mV_push f8_groupOf_7 ?_
    refine mV_icmp_ge f8_groupOf_9 (fun h0 => ?_) (fun h0 => ?_)
    · rw [if_pos h0] at hr
      have hr := Option.some.inj hr; subst hr
      refine mV_drop (L' := [.ref 2, mX0, .int y2, mX0, mX0, mX0]) (mSub_k (mSub_x (mSub_k (mSub_x (mSub_x (mSub_x mSub_n)))))) ?_
      exact hk
    · rw [if_neg h0] at hr
      refine mV_push f8_groupOf_12 ?_
      refine mV_istore (L' := [.ref 2, mX0, .int y2, .int y3, .int 0, mX0]) f8_groupOf_13 (by decide) rfl rfl ?_
      obtain ⟨z0, hz0, hr⟩ := mBind hr
      refine t8_groupOf_15 X Q s I y3 FU y2 0 _ hz0 ?_
      refine mV_iinc (y := (y3 + 1)) (L' := [.ref 2, mX0, .int z0, .int (y3 + 1), mX0, mX0]) f8_groupOf_76 rfl rfl (by decide) rfl rfl ?_
      refine mV_goto f8_groupOf_79 ?_
      exact ih z0 (y3 + 1) _ hr hk
set_option maxHeartbeats 4000000 in
set_option maxRecDepth 100000 in
theorem w8_groupOf (X : Nat × (Nat → Int32)) (I : mI) (s : Nat) (x0 : Int32) (Q : mQ) {res : Int32} (hr : r8_groupOf I x0 = some res) (hQ : Q (some (.int res)) NN KK I (PP s)) : mV X m8_groupOf 1 0 0 0 [.ref 2, .int x0, mX0, mX0, mX0, mX0] [] NN KK I (PP s) Q := by
  unfold r8_groupOf at hr
  refine mV_push f8_groupOf_0 ?_
  refine mV_iload f8_groupOf_1 rfl ?_
  refine mV_ishl f8_groupOf_2 ?_
  refine mV_istore (L' := [.ref 2, .int x0, .int ((1 : Int32) <<< (x0 &&& 31)), mX0, mX0, mX0]) f8_groupOf_3 (by decide) rfl rfl ?_
  refine mV_push f8_groupOf_4 ?_
  refine mV_istore (L' := [.ref 2, .int x0, .int ((1 : Int32) <<< (x0 &&& 31)), .int 1, mX0, mX0]) f8_groupOf_5 (by decide) rfl rfl ?_
  obtain ⟨z0, hz0, hr⟩ := mBind hr
  refine mV_drop (L' := [.ref 2, mX0, .int ((1 : Int32) <<< (x0 &&& 31)), .int 1, mX0, mX0]) (mSub_k (mSub_x (mSub_k (mSub_k (mSub_x (mSub_x mSub_n)))))) ?_
  refine t8_groupOf_6 X Q s I FU ((1 : Int32) <<< (x0 &&& 31)) 1 _ hz0 ?_
  refine mV_iload f8_groupOf_82 rfl ?_
  have hr := Option.some.inj hr; subst hr
  exact mV_iret rfl rfl f8_groupOf_83 hQ
theorem c8_groupOf (X : Nat × (Nat → Int32)) (I : mI) (s : Nat) (x0 : Int32) {res : Int32} (hr : r8_groupOf I x0 = some res) : mC X m8_groupOf 1 0 0 [.ref 2, .int x0] NN KK I (PP s) (mRet (some (.int res)) NN KK I (PP s)) :=
  mC_of (L0 := [.ref 2, .int x0, mX0, mX0, mX0, mX0]) rfl (Nat.le_of_ble_eq_true rfl) (w8_groupOf X I s x0 _ hr (mRet_ok _ _ _ _ _))
def l8_groups_4 (I : mI) : Nat → Int32 → Int32 → Option (Int32)
  | 0, _, _ => none
  | f + 1, y1, y2 => if (I 8 6 : Int32) ≤ (y2 : Int32) then some y1 else (r8_groupOf I y2).bind fun z0 => (if ((z0 &&& (((1 : Int32) <<< (y2 &&& 31)) - 1)) : Int32) = (0 : Int32) then some (y1 + 1) else some y1 : Option (Int32)).bind fun z1 => l8_groups_4 I f z1 (y2 + 1)
def r8_groups (I : mI) : Option (Int32) := (l8_groups_4 I FU 0 0).bind fun z0 => some z0
set_option maxHeartbeats 4000000 in
set_option maxRecDepth 100000 in
theorem t8_groups_4 (X : Nat × (Nat → Int32)) (Q : mQ) (s : Nat) (I : mI) : ∀ (f : Nat) (y1 : Int32) (y2 : Int32) (z : Int32), l8_groups_4 I f y1 y2 = some z → mV X m8_groups 2 0 0 40 [.ref 2, .int z, mX0, mX0] [] NN KK I (PP s) Q → mV X m8_groups 2 0 0 4 [.ref 2, .int y1, .int y2, mX0] [] NN KK I (PP s) Q := by
  intro f
  induction f with
  | zero => intro y1 y2 z hr hk; cases hr
  | succ f ih =>
    intro y1 y2 z hr hk
    unfold l8_groups_4 at hr
    refine mV_iload f8_groups_4 rfl ?_
    refine mV_aload f8_groups_5 rfl ?_
    refine mV_getP f8_groups_6 (by decide) kk_2 rfl (pp_2_1 _) ?_
    refine mV_gI (I 8 6) f8_groups_9 (by decide) kk_8 rfl rfl ?_
    refine mV_icmp_ge f8_groups_12 (fun h0 => ?_) (fun h0 => ?_)
    · rw [if_pos h0] at hr
      have hr := Option.some.inj hr; subst hr
      refine mV_drop (L' := [.ref 2, .int y1, mX0, mX0]) (mSub_k (mSub_k (mSub_x (mSub_x mSub_n)))) ?_
      exact hk
    · rw [if_neg h0] at hr
      refine mV_push f8_groups_15 ?_
      refine mV_iload f8_groups_16 rfl ?_
      refine mV_ishl f8_groups_17 ?_
      refine mV_push f8_groups_18 ?_
      refine mV_isub f8_groups_19 ?_
      refine mV_istore (L' := [.ref 2, .int y1, .int y2, .int (((1 : Int32) <<< (y2 &&& 31)) - 1)]) f8_groups_20 (by decide) rfl rfl ?_
      refine mV_aload f8_groups_21 rfl ?_
      refine mV_iload f8_groups_22 rfl ?_
      obtain ⟨z0, hz0, hr⟩ := mBind hr
      refine mV_cV f8_groups_23 tg_m8_groupOf mCls8 (by decide) kk_2 (mC_deep (c8_groupOf X I s y2 hz0) (by decide)) rfl rfl (Nat.le_of_ble_eq_true rfl) ?_
      refine mV_iload f8_groups_26 rfl ?_
      refine mV_iand f8_groups_27 ?_
      obtain ⟨z1, hz1, hr⟩ := mBind hr
      have keyz1 : mV X m8_groups 2 0 0 34 [.ref 2, .int z1, .int y2, mX0] [] NN KK I (PP s) Q := by
        refine mV_iinc (y := (y2 + 1)) (L' := [.ref 2, .int z1, .int (y2 + 1), mX0]) f8_groups_34 rfl rfl (by decide) rfl rfl ?_
        refine mV_goto f8_groups_37 ?_
        exact ih z1 (y2 + 1) _ hr hk
      clear hr
      have hr := hz1
      clear hz1
      refine mV_if_ne f8_groups_28 (fun h1 => ?_) (fun h1 => ?_)
      · rw [if_neg h1] at hr
        have hr := Option.some.inj hr; subst hr
        refine mV_drop (L' := [.ref 2, .int y1, .int y2, mX0]) (mSub_k (mSub_k (mSub_k (mSub_x mSub_n)))) ?_
        exact keyz1
      · rw [if_pos h1] at hr
        refine mV_iinc (y := (y1 + 1)) (L' := [.ref 2, .int (y1 + 1), .int y2, .int (((1 : Int32) <<< (y2 &&& 31)) - 1)]) f8_groups_31 rfl rfl (by decide) rfl rfl ?_
        have hr := Option.some.inj hr; subst hr
        refine mV_drop (L' := [.ref 2, .int (y1 + 1), .int y2, mX0]) (mSub_k (mSub_k (mSub_k (mSub_x mSub_n)))) ?_
        exact keyz1
set_option maxHeartbeats 4000000 in
set_option maxRecDepth 100000 in
theorem w8_groups (X : Nat × (Nat → Int32)) (I : mI) (s : Nat) (Q : mQ) {res : Int32} (hr : r8_groups I = some res) (hQ : Q (some (.int res)) NN KK I (PP s)) : mV X m8_groups 2 0 0 0 [.ref 2, mX0, mX0, mX0] [] NN KK I (PP s) Q := by
  unfold r8_groups at hr
  refine mV_push f8_groups_0 ?_
  refine mV_istore (L' := [.ref 2, .int 0, mX0, mX0]) f8_groups_1 (by decide) rfl rfl ?_
  refine mV_push f8_groups_2 ?_
  refine mV_istore (L' := [.ref 2, .int 0, .int 0, mX0]) f8_groups_3 (by decide) rfl rfl ?_
  obtain ⟨z0, hz0, hr⟩ := mBind hr
  refine t8_groups_4 X Q s I FU 0 0 _ hz0 ?_
  refine mV_iload f8_groups_40 rfl ?_
  have hr := Option.some.inj hr; subst hr
  exact mV_iret rfl rfl f8_groups_41 hQ
theorem c8_groups (X : Nat × (Nat → Int32)) (I : mI) (s : Nat) {res : Int32} (hr : r8_groups I = some res) : mC X m8_groups 2 0 0 [.ref 2] NN KK I (PP s) (mRet (some (.int res)) NN KK I (PP s)) :=
  mC_of (L0 := [.ref 2, mX0, mX0, mX0]) rfl (Nat.le_of_ble_eq_true rfl) (w8_groups X I s _ hr (mRet_ok _ _ _ _ _))
def r9_alike (I : mI) (x0 : Int32) : Option (Int32) := if (x0 : Int32) = ((-1) : Int32) then (r8_groups I).bind fun z2 => some z2 else (if ((r0_hasPiece I x0) : Int32) = (0 : Int32) then some (-1) else (r8_groupOf I x0).bind fun z1 => some z1 : Option (Int32)).bind fun z0 => some z0
set_option maxHeartbeats 4000000 in
set_option maxRecDepth 100000 in
theorem w9_alike (X : Nat × (Nat → Int32)) (I : mI) (s : Nat) (x0 : Int32) (Q : mQ) {res : Int32} (hr : r9_alike I x0 = some res) (hQ : Q (some (.int res)) NN KK I (PP s)) : mV X m9_alike 3 0 0 0 [.ref 0, .int x0] [] NN KK I (PP s) Q := by
  unfold r9_alike at hr
  refine mV_iload f9_alike_0 rfl ?_
  refine mV_push f9_alike_1 ?_
  refine mV_icmp_ne f9_alike_2 (fun h0 => ?_) (fun h0 => ?_)
  · rw [if_neg h0] at hr
    refine mV_aload f9_alike_13 rfl ?_
    refine mV_getP f9_alike_14 (by decide) kk_0 rfl (pp_0_1 _) ?_
    refine mV_getP f9_alike_17 (by decide) kk_2 rfl (pp_2_1 _) ?_
    refine mV_iload f9_alike_20 rfl ?_
    refine mV_cV f9_alike_21 tg_m0_hasPiece mCls0 (by decide) kk_8 (mC_deep (c0_hasPiece X I s x0 rfl) (by decide)) rfl rfl (Nat.le_of_ble_eq_true rfl) ?_
    obtain ⟨z0, hz0, hr⟩ := mBind hr
    have keyz0 : mV X m9_alike 3 0 0 39 [.ref 0, mX0] [.int z0] NN KK I (PP s) Q := by
      have hr := Option.some.inj hr; subst hr
      exact mV_iret rfl rfl f9_alike_39 hQ
    clear hr
    have hr := hz0
    clear hz0
    refine mV_if_eq f9_alike_24 (fun h1 => ?_) (fun h1 => ?_)
    · rw [if_pos h1] at hr
      refine mV_push f9_alike_38 ?_
      have hr := Option.some.inj hr; subst hr
      refine mV_drop (L' := [.ref 0, mX0]) (mSub_k (mSub_x mSub_n)) ?_
      exact keyz0
    · rw [if_neg h1] at hr
      refine mV_aload f9_alike_27 rfl ?_
      refine mV_getP f9_alike_28 (by decide) kk_0 rfl (pp_0_1 _) ?_
      refine mV_iload f9_alike_31 rfl ?_
      obtain ⟨z1, hz1, hr⟩ := mBind hr
      refine mV_cV f9_alike_32 tg_m8_groupOf mCls8 (by decide) kk_2 (mC_deep (c8_groupOf X I s x0 hz1) (by decide)) rfl rfl (Nat.le_of_ble_eq_true rfl) ?_
      refine mV_goto f9_alike_35 ?_
      have hr := Option.some.inj hr; subst hr
      refine mV_drop (L' := [.ref 0, mX0]) (mSub_k (mSub_x mSub_n)) ?_
      exact keyz0
  · rw [if_pos h0] at hr
    refine mV_aload f9_alike_5 rfl ?_
    refine mV_getP f9_alike_6 (by decide) kk_0 rfl (pp_0_1 _) ?_
    obtain ⟨z2, hz2, hr⟩ := mBind hr
    refine mV_cV f9_alike_9 tg_m8_groups mCls8 (by decide) kk_2 (mC_deep (c8_groups X I s hz2) (by decide)) rfl rfl (Nat.le_of_ble_eq_true rfl) ?_
    have hr := Option.some.inj hr; subst hr
    exact mV_iret rfl rfl f9_alike_12 hQ
theorem c9_alike (X : Nat × (Nat → Int32)) (I : mI) (s : Nat) (x0 : Int32) {res : Int32} (hr : r9_alike I x0 = some res) : mC X m9_alike 3 0 0 [.ref 0, .int x0] NN KK I (PP s) (mRet (some (.int res)) NN KK I (PP s)) :=
  mC_of (L0 := [.ref 0, .int x0]) rfl (Nat.le_of_ble_eq_true rfl) (w9_alike X I s x0 _ hr (mRet_ok _ _ _ _ _))
def l2_pagesTurnedBy_18 (k0 : Int32) (k1 : Int32) (k2 : Int32) (k3 : Int32) : Nat → Int32 → Int32 → Option (Int32)
  | 0, _, _ => none
  | f + 1, y4, y5 => if (k0 : Int32) < (y5 : Int32) then some y4 else (mRemO y5 k1).bind fun z0 => (if (z0 : Int32) = (0 : Int32) then some 1 else some 0 : Option (Int32)).bind fun z1 => (mRemO y5 k2).bind fun z2 => (if (z2 : Int32) = (0 : Int32) then some 1 else some 0 : Option (Int32)).bind fun z3 => (if ((z1 + z3) : Int32) = (k3 : Int32) then some (y4 + 1) else some y4 : Option (Int32)).bind fun z4 => l2_pagesTurnedBy_18 k0 k1 k2 k3 f z4 (y5 + 1)
def r2_pagesTurnedBy (x0 : Int32) (x1 : Int32) (x2 : Int32) (x3 : Int32) : Option (Int32) := if (x1 : Int32) < (1 : Int32) then some 0 else if (1 : Int32) ≤ (x2 : Int32) then (l2_pagesTurnedBy_18 x0 x1 x2 x3 FU 0 1).bind fun z0 => some z0 else some 0
set_option maxHeartbeats 4000000 in
set_option maxRecDepth 100000 in
theorem t2_pagesTurnedBy_18 (X : Nat × (Nat → Int32)) (Q : mQ) (s : Nat) (I : mI) (k0 : Int32) (k1 : Int32) (k2 : Int32) (k3 : Int32) : ∀ (f : Nat) (y4 : Int32) (y5 : Int32) (z : Int32), l2_pagesTurnedBy_18 k0 k1 k2 k3 f y4 y5 = some z → mV X m2_pagesTurnedBy 0 0 0 66 [.int k0, .int k1, .int k2, .int k3, .int z, mX0, mX0] [] NN KK I (PP s) Q → mV X m2_pagesTurnedBy 0 0 0 18 [.int k0, .int k1, .int k2, .int k3, .int y4, .int y5, mX0] [] NN KK I (PP s) Q := by
  intro f
  induction f with
  | zero => intro y4 y5 z hr hk; cases hr
  | succ f ih =>
    intro y4 y5 z hr hk
    unfold l2_pagesTurnedBy_18 at hr
    refine mV_iload f2_pagesTurnedBy_18 rfl ?_
    refine mV_iload f2_pagesTurnedBy_20 rfl ?_
    refine mV_icmp_gt f2_pagesTurnedBy_21 (fun h0 => ?_) (fun h0 => ?_)
    · rw [if_pos h0] at hr
      have hr := Option.some.inj hr; subst hr
      refine mV_drop (L' := [.int k0, .int k1, .int k2, .int k3, .int y4, mX0, mX0]) (mSub_k (mSub_k (mSub_k (mSub_k (mSub_k (mSub_x (mSub_x mSub_n))))))) ?_
      exact hk
    · rw [if_neg h0] at hr
      refine mV_iload f2_pagesTurnedBy_24 rfl ?_
      refine mV_iload f2_pagesTurnedBy_26 rfl ?_
      obtain ⟨z0, hz0, hr⟩ := mBind hr
      refine mV_remO f2_pagesTurnedBy_27 hz0 ?_
      obtain ⟨z1, hz1, hr⟩ := mBind hr
      have keyz1 : mV X m2_pagesTurnedBy 0 0 0 36 [.int k0, .int k1, .int k2, .int k3, .int y4, .int y5, mX0] [.int z1] NN KK I (PP s) Q := by
        refine mV_iload f2_pagesTurnedBy_36 rfl ?_
        refine mV_iload f2_pagesTurnedBy_38 rfl ?_
        obtain ⟨z2, hz2, hr⟩ := mBind hr
        refine mV_remO f2_pagesTurnedBy_39 hz2 ?_
        obtain ⟨z3, hz3, hr⟩ := mBind hr
        have keyz3 : mV X m2_pagesTurnedBy 0 0 0 48 [.int k0, .int k1, .int k2, .int k3, .int y4, .int y5, mX0] [.int z3, .int z1] NN KK I (PP s) Q := by
          refine mV_iadd f2_pagesTurnedBy_48 ?_
          refine mV_istore (L' := [.int k0, .int k1, .int k2, .int k3, .int y4, .int y5, .int (z1 + z3)]) f2_pagesTurnedBy_49 (by decide) rfl rfl ?_
          refine mV_iload f2_pagesTurnedBy_51 rfl ?_
          refine mV_iload f2_pagesTurnedBy_53 rfl ?_
          obtain ⟨z4, hz4, hr⟩ := mBind hr
          have keyz4 : mV X m2_pagesTurnedBy 0 0 0 60 [.int k0, .int k1, .int k2, .int k3, .int z4, .int y5, mX0] [] NN KK I (PP s) Q := by
            refine mV_iinc (y := (y5 + 1)) (L' := [.int k0, .int k1, .int k2, .int k3, .int z4, .int (y5 + 1), mX0]) f2_pagesTurnedBy_60 rfl rfl (by decide) rfl rfl ?_
            refine mV_goto f2_pagesTurnedBy_63 ?_
            exact ih z4 (y5 + 1) _ hr hk
          clear hr
          have hr := hz4
          clear hz4
          refine mV_icmp_ne f2_pagesTurnedBy_54 (fun h3 => ?_) (fun h3 => ?_)
          · rw [if_neg h3] at hr
            have hr := Option.some.inj hr; subst hr
            refine mV_drop (L' := [.int k0, .int k1, .int k2, .int k3, .int y4, .int y5, mX0]) (mSub_k (mSub_k (mSub_k (mSub_k (mSub_k (mSub_k (mSub_x mSub_n))))))) ?_
            exact keyz4
          · rw [if_pos h3] at hr
            refine mV_iinc (y := (y4 + 1)) (L' := [.int k0, .int k1, .int k2, .int k3, .int (y4 + 1), .int y5, .int (z1 + z3)]) f2_pagesTurnedBy_57 rfl rfl (by decide) rfl rfl ?_
            have hr := Option.some.inj hr; subst hr
            refine mV_drop (L' := [.int k0, .int k1, .int k2, .int k3, .int (y4 + 1), .int y5, mX0]) (mSub_k (mSub_k (mSub_k (mSub_k (mSub_k (mSub_k (mSub_x mSub_n))))))) ?_
            exact keyz4
        clear hr
        have hr := hz3
        clear hz3
        refine mV_if_ne f2_pagesTurnedBy_40 (fun h2 => ?_) (fun h2 => ?_)
        · rw [if_neg h2] at hr
          refine mV_push f2_pagesTurnedBy_47 ?_
          have hr := Option.some.inj hr; subst hr
          exact keyz3
        · rw [if_pos h2] at hr
          refine mV_push f2_pagesTurnedBy_43 ?_
          refine mV_goto f2_pagesTurnedBy_44 ?_
          have hr := Option.some.inj hr; subst hr
          exact keyz3
      clear hr
      have hr := hz1
      clear hz1
      refine mV_if_ne f2_pagesTurnedBy_28 (fun h1 => ?_) (fun h1 => ?_)
      · rw [if_neg h1] at hr
        refine mV_push f2_pagesTurnedBy_35 ?_
        have hr := Option.some.inj hr; subst hr
        exact keyz1
      · rw [if_pos h1] at hr
        refine mV_push f2_pagesTurnedBy_31 ?_
        refine mV_goto f2_pagesTurnedBy_32 ?_
        have hr := Option.some.inj hr; subst hr
        exact keyz1
set_option maxHeartbeats 4000000 in
set_option maxRecDepth 100000 in
theorem w2_pagesTurnedBy (X : Nat × (Nat → Int32)) (I : mI) (s : Nat) (x0 : Int32) (x1 : Int32) (x2 : Int32) (x3 : Int32) (Q : mQ) {res : Int32} (hr : r2_pagesTurnedBy x0 x1 x2 x3 = some res) (hQ : Q (some (.int res)) NN KK I (PP s)) : mV X m2_pagesTurnedBy 0 0 0 0 [.int x0, .int x1, .int x2, .int x3, mX0, mX0, mX0] [] NN KK I (PP s) Q := by
  unfold r2_pagesTurnedBy at hr
  refine mV_iload f2_pagesTurnedBy_0 rfl ?_
  refine mV_push f2_pagesTurnedBy_1 ?_
  refine mV_icmp_lt f2_pagesTurnedBy_2 (fun h0 => ?_) (fun h0 => ?_)
  · rw [if_pos h0] at hr
    refine mV_push f2_pagesTurnedBy_10 ?_
    have hr := Option.some.inj hr; subst hr
    exact mV_iret rfl rfl f2_pagesTurnedBy_11 hQ
  · rw [if_neg h0] at hr
    refine mV_iload f2_pagesTurnedBy_5 rfl ?_
    refine mV_push f2_pagesTurnedBy_6 ?_
    refine mV_icmp_ge f2_pagesTurnedBy_7 (fun h1 => ?_) (fun h1 => ?_)
    · rw [if_pos h1] at hr
      refine mV_push f2_pagesTurnedBy_12 ?_
      refine mV_istore (L' := [.int x0, .int x1, .int x2, .int x3, .int 0, mX0, mX0]) f2_pagesTurnedBy_13 (by decide) rfl rfl ?_
      refine mV_push f2_pagesTurnedBy_15 ?_
      refine mV_istore (L' := [.int x0, .int x1, .int x2, .int x3, .int 0, .int 1, mX0]) f2_pagesTurnedBy_16 (by decide) rfl rfl ?_
      obtain ⟨z0, hz0, hr⟩ := mBind hr
      refine t2_pagesTurnedBy_18 X Q s I x0 x1 x2 x3 FU 0 1 _ hz0 ?_
      refine mV_iload f2_pagesTurnedBy_66 rfl ?_
      have hr := Option.some.inj hr; subst hr
      exact mV_iret rfl rfl f2_pagesTurnedBy_68 hQ
    · rw [if_neg h1] at hr
      refine mV_push f2_pagesTurnedBy_10 ?_
      have hr := Option.some.inj hr; subst hr
      exact mV_iret rfl rfl f2_pagesTurnedBy_11 hQ
theorem c2_pagesTurnedBy (X : Nat × (Nat → Int32)) (I : mI) (s : Nat) (x0 : Int32) (x1 : Int32) (x2 : Int32) (x3 : Int32) {res : Int32} (hr : r2_pagesTurnedBy x0 x1 x2 x3 = some res) : mC X m2_pagesTurnedBy 0 0 0 [.int x0, .int x1, .int x2, .int x3] NN KK I (PP s) (mRet (some (.int res)) NN KK I (PP s)) :=
  mC_of (L0 := [.int x0, .int x1, .int x2, .int x3, mX0, mX0, mX0]) rfl (Nat.le_of_ble_eq_true rfl) (w2_pagesTurnedBy X I s x0 x1 x2 x3 _ hr (mRet_ok _ _ _ _ _))
def r9_pages (x0 : Int32) (x1 : Int32) (x2 : Int32) (x3 : Int32) : Option (Int32) := if (x0 : Int32) < (1 : Int32) then some (-1) else if (60 : Int32) < (x0 : Int32) then some (-1) else if (x1 : Int32) < (1 : Int32) then some (-1) else if (9 : Int32) < (x1 : Int32) then some (-1) else if (x2 : Int32) < (1 : Int32) then some (-1) else if (9 : Int32) < (x2 : Int32) then some (-1) else if (x3 : Int32) < (0 : Int32) then some (-1) else if (x3 : Int32) ≤ (1 : Int32) then (if (x3 : Int32) = (0 : Int32) then some 1 else some 0 : Option (Int32)).bind fun z0 => (r2_pagesTurnedBy x0 x1 x2 z0).bind fun z1 => some z1 else some (-1)
set_option maxHeartbeats 4000000 in
set_option maxRecDepth 100000 in
theorem w9_pages (X : Nat × (Nat → Int32)) (I : mI) (s : Nat) (x0 : Int32) (x1 : Int32) (x2 : Int32) (x3 : Int32) (Q : mQ) {res : Int32} (hr : r9_pages x0 x1 x2 x3 = some res) (hQ : Q (some (.int res)) NN KK I (PP s)) : mV X m9_pages 1 0 0 0 [.ref 0, .int x0, .int x1, .int x2, .int x3] [] NN KK I (PP s) Q := by
  unfold r9_pages at hr
  refine mV_iload f9_pages_0 rfl ?_
  refine mV_push f9_pages_1 ?_
  refine mV_icmp_lt f9_pages_2 (fun h0 => ?_) (fun h0 => ?_)
  · rw [if_pos h0] at hr
    refine mV_push f9_pages_44 ?_
    have hr := Option.some.inj hr; subst hr
    exact mV_iret rfl rfl f9_pages_45 hQ
  · rw [if_neg h0] at hr
    refine mV_iload f9_pages_5 rfl ?_
    refine mV_push f9_pages_6 ?_
    refine mV_icmp_gt f9_pages_8 (fun h1 => ?_) (fun h1 => ?_)
    · rw [if_pos h1] at hr
      refine mV_push f9_pages_44 ?_
      have hr := Option.some.inj hr; subst hr
      exact mV_iret rfl rfl f9_pages_45 hQ
    · rw [if_neg h1] at hr
      refine mV_iload f9_pages_11 rfl ?_
      refine mV_push f9_pages_12 ?_
      refine mV_icmp_lt f9_pages_13 (fun h2 => ?_) (fun h2 => ?_)
      · rw [if_pos h2] at hr
        refine mV_push f9_pages_44 ?_
        have hr := Option.some.inj hr; subst hr
        exact mV_iret rfl rfl f9_pages_45 hQ
      · rw [if_neg h2] at hr
        refine mV_iload f9_pages_16 rfl ?_
        refine mV_push f9_pages_17 ?_
        refine mV_icmp_gt f9_pages_19 (fun h3 => ?_) (fun h3 => ?_)
        · rw [if_pos h3] at hr
          refine mV_push f9_pages_44 ?_
          have hr := Option.some.inj hr; subst hr
          exact mV_iret rfl rfl f9_pages_45 hQ
        · rw [if_neg h3] at hr
          refine mV_iload f9_pages_22 rfl ?_
          refine mV_push f9_pages_23 ?_
          refine mV_icmp_lt f9_pages_24 (fun h4 => ?_) (fun h4 => ?_)
          · rw [if_pos h4] at hr
            refine mV_push f9_pages_44 ?_
            have hr := Option.some.inj hr; subst hr
            exact mV_iret rfl rfl f9_pages_45 hQ
          · rw [if_neg h4] at hr
            refine mV_iload f9_pages_27 rfl ?_
            refine mV_push f9_pages_28 ?_
            refine mV_icmp_gt f9_pages_30 (fun h5 => ?_) (fun h5 => ?_)
            · rw [if_pos h5] at hr
              refine mV_push f9_pages_44 ?_
              have hr := Option.some.inj hr; subst hr
              exact mV_iret rfl rfl f9_pages_45 hQ
            · rw [if_neg h5] at hr
              refine mV_iload f9_pages_33 rfl ?_
              refine mV_if_lt f9_pages_35 (fun h6 => ?_) (fun h6 => ?_)
              · rw [if_pos h6] at hr
                refine mV_push f9_pages_44 ?_
                have hr := Option.some.inj hr; subst hr
                exact mV_iret rfl rfl f9_pages_45 hQ
              · rw [if_neg h6] at hr
                refine mV_iload f9_pages_38 rfl ?_
                refine mV_push f9_pages_40 ?_
                refine mV_icmp_le f9_pages_41 (fun h7 => ?_) (fun h7 => ?_)
                · rw [if_pos h7] at hr
                  refine mV_iload f9_pages_46 rfl ?_
                  refine mV_iload f9_pages_47 rfl ?_
                  refine mV_iload f9_pages_48 rfl ?_
                  refine mV_iload f9_pages_49 rfl ?_
                  obtain ⟨z0, hz0, hr⟩ := mBind hr
                  have keyz0 : mV X m9_pages 1 0 0 59 [.ref 0, mX0, mX0, mX0, mX0] [.int z0, .int x2, .int x1, .int x0] NN KK I (PP s) Q := by
                    obtain ⟨z1, hz1, hr⟩ := mBind hr
                    refine mV_cS f9_pages_59 tg_m2_pagesTurnedBy (mC_deep (c2_pagesTurnedBy X I s x0 x1 x2 z0 hz1) (by decide)) rfl rfl (Nat.le_of_ble_eq_true rfl) ?_
                    have hr := Option.some.inj hr; subst hr
                    exact mV_iret rfl rfl f9_pages_62 hQ
                  clear hr
                  have hr := hz0
                  clear hz0
                  refine mV_if_ne f9_pages_51 (fun h8 => ?_) (fun h8 => ?_)
                  · rw [if_neg h8] at hr
                    refine mV_push f9_pages_58 ?_
                    have hr := Option.some.inj hr; subst hr
                    refine mV_drop (L' := [.ref 0, mX0, mX0, mX0, mX0]) (mSub_k (mSub_x (mSub_x (mSub_x (mSub_x mSub_n))))) ?_
                    exact keyz0
                  · rw [if_pos h8] at hr
                    refine mV_push f9_pages_54 ?_
                    refine mV_goto f9_pages_55 ?_
                    have hr := Option.some.inj hr; subst hr
                    refine mV_drop (L' := [.ref 0, mX0, mX0, mX0, mX0]) (mSub_k (mSub_x (mSub_x (mSub_x (mSub_x mSub_n))))) ?_
                    exact keyz0
                · rw [if_neg h7] at hr
                  refine mV_push f9_pages_44 ?_
                  have hr := Option.some.inj hr; subst hr
                  exact mV_iret rfl rfl f9_pages_45 hQ
theorem c9_pages (X : Nat × (Nat → Int32)) (I : mI) (s : Nat) (x0 : Int32) (x1 : Int32) (x2 : Int32) (x3 : Int32) {res : Int32} (hr : r9_pages x0 x1 x2 x3 = some res) : mC X m9_pages 1 0 0 [.ref 0, .int x0, .int x1, .int x2, .int x3] NN KK I (PP s) (mRet (some (.int res)) NN KK I (PP s)) :=
  mC_of (L0 := [.ref 0, .int x0, .int x1, .int x2, .int x3]) rfl (Nat.le_of_ble_eq_true rfl) (w9_pages X I s x0 x1 x2 x3 _ hr (mRet_ok _ _ _ _ _))
def l7_worthOfAll_4 (I : mI) (a : Nat) : Nat → Int32 → Int32 → Option (Int32)
  | 0, _, _ => none
  | f + 1, y1, y2 => if (8 : Int32) ≤ (y2 : Int32) then some y1 else (mLd I (a + 4) 8 y2).bind fun z0 => l7_worthOfAll_4 I a f (y1 ^^^ (mRm z0 3)) (y2 + 1)
def r7_worthOfAll (I : mI) (a : Nat) : Option (Int32) := (l7_worthOfAll_4 I a FU 0 0).bind fun z0 => some z0
set_option maxHeartbeats 4000000 in
set_option maxRecDepth 100000 in
theorem t7_worthOfAll_4 (X : Nat × (Nat → Int32)) (Q : mQ) (s : Nat) (I : mI) (a : Nat) (ha : mStg a) : ∀ (f : Nat) (y1 : Int32) (y2 : Int32) (z : Int32), l7_worthOfAll_4 I a f y1 y2 = some z → mV X m7_worthOfAll 0 0 0 27 [.ref a, .int z, mX0] [] NN KK I (PP s) Q → mV X m7_worthOfAll 0 0 0 4 [.ref a, .int y1, .int y2] [] NN KK I (PP s) Q := by
  intro f
  induction f with
  | zero => intro y1 y2 z hr hk; cases hr
  | succ f ih =>
    intro y1 y2 z hr hk
    unfold l7_worthOfAll_4 at hr
    refine mV_iload f7_worthOfAll_4 rfl ?_
    refine mV_push f7_worthOfAll_5 ?_
    refine mV_icmp_ge f7_worthOfAll_7 (fun h0 => ?_) (fun h0 => ?_)
    · rw [if_pos h0] at hr
      have hr := Option.some.inj hr; subst hr
      refine mV_drop (L' := [.ref a, .int y1, mX0]) (mSub_k (mSub_k (mSub_x mSub_n))) ?_
      exact hk
    · rw [if_neg h0] at hr
      refine mV_iload f7_worthOfAll_10 rfl ?_
      refine mV_aload f7_worthOfAll_11 rfl ?_
      refine mV_getP f7_worthOfAll_12 ha.l0 ha.1.2.1 rfl (ha.p3 _) ?_
      refine mV_iload f7_worthOfAll_15 rfl ?_
      obtain ⟨z0, hz0, hr⟩ := mBind hr
      refine mV_ldO f7_worthOfAll_16 (ha.l (by decide)) ha.1.2.2.2.2.2 hz0 ?_
      refine mV_push f7_worthOfAll_17 ?_
      refine mV_remC f7_worthOfAll_18 (by decide) ?_
      refine mV_ixor f7_worthOfAll_19 ?_
      refine mV_istore (L' := [.ref a, .int (y1 ^^^ (mRm z0 3)), .int y2]) f7_worthOfAll_20 (by decide) rfl rfl ?_
      refine mV_iinc (y := (y2 + 1)) (L' := [.ref a, .int (y1 ^^^ (mRm z0 3)), .int (y2 + 1)]) f7_worthOfAll_21 rfl rfl (by decide) rfl rfl ?_
      refine mV_goto f7_worthOfAll_24 ?_
      exact ih (y1 ^^^ (mRm z0 3)) (y2 + 1) _ hr hk
set_option maxHeartbeats 4000000 in
set_option maxRecDepth 100000 in
theorem w7_worthOfAll (X : Nat × (Nat → Int32)) (I : mI) (s : Nat) (a : Nat) (ha : mStg a) (Q : mQ) {res : Int32} (hr : r7_worthOfAll I a = some res) (hQ : Q (some (.int res)) NN KK I (PP s)) : mV X m7_worthOfAll 0 0 0 0 [.ref a, mX0, mX0] [] NN KK I (PP s) Q := by
  unfold r7_worthOfAll at hr
  refine mV_push f7_worthOfAll_0 ?_
  refine mV_istore (L' := [.ref a, .int 0, mX0]) f7_worthOfAll_1 (by decide) rfl rfl ?_
  refine mV_push f7_worthOfAll_2 ?_
  refine mV_istore (L' := [.ref a, .int 0, .int 0]) f7_worthOfAll_3 (by decide) rfl rfl ?_
  obtain ⟨z0, hz0, hr⟩ := mBind hr
  refine t7_worthOfAll_4 X Q s I a ha FU 0 0 _ hz0 ?_
  refine mV_iload f7_worthOfAll_27 rfl ?_
  have hr := Option.some.inj hr; subst hr
  exact mV_iret rfl rfl f7_worthOfAll_28 hQ
theorem c7_worthOfAll (X : Nat × (Nat → Int32)) (I : mI) (s : Nat) (a : Nat) (ha : mStg a) {res : Int32} (hr : r7_worthOfAll I a = some res) : mC X m7_worthOfAll 0 0 0 [.ref a] NN KK I (PP s) (mRet (some (.int res)) NN KK I (PP s)) :=
  mC_of (L0 := [.ref a, mX0, mX0]) rfl (Nat.le_of_ble_eq_true rfl) (w7_worthOfAll X I s a ha _ hr (mRet_ok _ _ _ _ _))
def l7_goodTake_28 (I : mI) (a : Nat) (k1 : Int32) (k2 : Int32) : Nat → Int32 → Option ((Int32) ⊕ (Unit))
  | 0, _ => none
  | f + 1, y3 => if (4 : Int32) < (y3 : Int32) then some (.inr ()) else (mLd I (a + 4) 8 k1).bind fun z0 => if (z0 : Int32) < (y3 : Int32) then l7_goodTake_28 I a k1 k2 f (y3 * 2) else (mLd I (a + 4) 8 k1).bind fun z1 => if ((mRm (z1 - y3) 3) : Int32) = (k2 : Int32) then some (.inl y3) else l7_goodTake_28 I a k1 k2 f (y3 * 2)
def r7_goodTake (I : mI) (a : Nat) (x0 : Int32) : Option (Int32) := if (x0 : Int32) < (0 : Int32) then some (-1) else if (x0 : Int32) < (8 : Int32) then (r7_worthOfAll I a).bind fun z0 => (mLd I (a + 4) 8 x0).bind fun z1 => (l7_goodTake_28 I a x0 (z0 ^^^ (mRm z1 3)) FU 1).bind fun z2 => match z2 with | .inl rz2 => some rz2 | .inr wz2 => some (-1) else some (-1)
set_option maxHeartbeats 4000000 in
set_option maxRecDepth 100000 in
theorem t7_goodTake_28 (X : Nat × (Nat → Int32)) (Q : mQ) (s : Nat) (I : mI) (a : Nat) (ha : mStg a) (k1 : Int32) (k2 : Int32) : ∀ (f : Nat) (y3 : Int32) (z : (Int32) ⊕ (Unit)), l7_goodTake_28 I a k1 k2 f y3 = some z → (∀ res, z = .inl res → Q (some (.int res)) NN KK I (PP s)) → (∀ w, z = .inr w → mV X m7_goodTake 1 0 0 66 [.ref a, .int k1, .int k2, mX0] [] NN KK I (PP s) Q) → mV X m7_goodTake 1 0 0 28 [.ref a, .int k1, .int k2, .int y3] [] NN KK I (PP s) Q := by
  intro f
  induction f with
  | zero => intro y3 z hr hret hk; cases hr
  | succ f ih =>
    intro y3 z hr hret hk
    unfold l7_goodTake_28 at hr
    refine mV_iload f7_goodTake_28 rfl ?_
    refine mV_push f7_goodTake_29 ?_
    refine mV_icmp_gt f7_goodTake_30 (fun h0 => ?_) (fun h0 => ?_)
    · rw [if_pos h0] at hr
      have hr := Option.some.inj hr; subst hr
      refine mV_drop (L' := [.ref a, .int k1, .int k2, mX0]) (mSub_k (mSub_k (mSub_k (mSub_x mSub_n)))) ?_
      exact hk _ rfl
    · rw [if_neg h0] at hr
      refine mV_iload f7_goodTake_33 rfl ?_
      refine mV_aload f7_goodTake_34 rfl ?_
      refine mV_getP f7_goodTake_35 ha.l0 ha.1.2.1 rfl (ha.p3 _) ?_
      refine mV_iload f7_goodTake_38 rfl ?_
      obtain ⟨z0, hz0, hr⟩ := mBind hr
      refine mV_ldO f7_goodTake_39 (ha.l (by decide)) ha.1.2.2.2.2.2 hz0 ?_
      refine mV_icmp_gt f7_goodTake_40 (fun h1 => ?_) (fun h1 => ?_)
      · rw [if_pos h1] at hr
        refine mV_iload f7_goodTake_59 rfl ?_
        refine mV_push f7_goodTake_60 ?_
        refine mV_imul f7_goodTake_61 ?_
        refine mV_istore (L' := [.ref a, .int k1, .int k2, .int (y3 * 2)]) f7_goodTake_62 (by decide) rfl rfl ?_
        refine mV_goto f7_goodTake_63 ?_
        exact ih (y3 * 2) _ hr hret hk
      · rw [if_neg h1] at hr
        refine mV_aload f7_goodTake_43 rfl ?_
        refine mV_getP f7_goodTake_44 ha.l0 ha.1.2.1 rfl (ha.p3 _) ?_
        refine mV_iload f7_goodTake_47 rfl ?_
        obtain ⟨z1, hz1, hr⟩ := mBind hr
        refine mV_ldO f7_goodTake_48 (ha.l (by decide)) ha.1.2.2.2.2.2 hz1 ?_
        refine mV_iload f7_goodTake_49 rfl ?_
        refine mV_isub f7_goodTake_50 ?_
        refine mV_push f7_goodTake_51 ?_
        refine mV_remC f7_goodTake_52 (by decide) ?_
        refine mV_iload f7_goodTake_53 rfl ?_
        refine mV_icmp_ne f7_goodTake_54 (fun h2 => ?_) (fun h2 => ?_)
        · rw [if_neg h2] at hr
          refine mV_iload f7_goodTake_59 rfl ?_
          refine mV_push f7_goodTake_60 ?_
          refine mV_imul f7_goodTake_61 ?_
          refine mV_istore (L' := [.ref a, .int k1, .int k2, .int (y3 * 2)]) f7_goodTake_62 (by decide) rfl rfl ?_
          refine mV_goto f7_goodTake_63 ?_
          exact ih (y3 * 2) _ hr hret hk
        · rw [if_pos h2] at hr
          refine mV_iload f7_goodTake_57 rfl ?_
          have hr := Option.some.inj hr; subst hr; have hQ := hret _ rfl
          exact mV_iret rfl rfl f7_goodTake_58 hQ
set_option maxHeartbeats 4000000 in
set_option maxRecDepth 100000 in
theorem w7_goodTake (X : Nat × (Nat → Int32)) (I : mI) (s : Nat) (a : Nat) (ha : mStg a) (x0 : Int32) (Q : mQ) {res : Int32} (hr : r7_goodTake I a x0 = some res) (hQ : Q (some (.int res)) NN KK I (PP s)) : mV X m7_goodTake 1 0 0 0 [.ref a, .int x0, mX0, mX0] [] NN KK I (PP s) Q := by
  unfold r7_goodTake at hr
  refine mV_iload f7_goodTake_0 rfl ?_
  refine mV_if_lt f7_goodTake_1 (fun h0 => ?_) (fun h0 => ?_)
  · rw [if_pos h0] at hr
    refine mV_push f7_goodTake_10 ?_
    have hr := Option.some.inj hr; subst hr
    exact mV_iret rfl rfl f7_goodTake_11 hQ
  · rw [if_neg h0] at hr
    refine mV_iload f7_goodTake_4 rfl ?_
    refine mV_push f7_goodTake_5 ?_
    refine mV_icmp_lt f7_goodTake_7 (fun h1 => ?_) (fun h1 => ?_)
    · rw [if_pos h1] at hr
      refine mV_aload f7_goodTake_12 rfl ?_
      obtain ⟨z0, hz0, hr⟩ := mBind hr
      refine mV_cV f7_goodTake_13 tg_m7_worthOfAll mCls7 ha.l0 ha.1.2.1 (mC_deep (c7_worthOfAll X I s a ha hz0) (by decide)) rfl rfl (Nat.le_of_ble_eq_true rfl) ?_
      refine mV_aload f7_goodTake_16 rfl ?_
      refine mV_getP f7_goodTake_17 ha.l0 ha.1.2.1 rfl (ha.p3 _) ?_
      refine mV_iload f7_goodTake_20 rfl ?_
      obtain ⟨z1, hz1, hr⟩ := mBind hr
      refine mV_ldO f7_goodTake_21 (ha.l (by decide)) ha.1.2.2.2.2.2 hz1 ?_
      refine mV_push f7_goodTake_22 ?_
      refine mV_remC f7_goodTake_23 (by decide) ?_
      refine mV_ixor f7_goodTake_24 ?_
      refine mV_istore (L' := [.ref a, .int x0, .int (z0 ^^^ (mRm z1 3)), mX0]) f7_goodTake_25 (by decide) rfl rfl ?_
      refine mV_push f7_goodTake_26 ?_
      refine mV_istore (L' := [.ref a, .int x0, .int (z0 ^^^ (mRm z1 3)), .int 1]) f7_goodTake_27 (by decide) rfl rfl ?_
      obtain ⟨z2, hz2, hr⟩ := mBind hr
      refine t7_goodTake_28 X Q s I a ha x0 (z0 ^^^ (mRm z1 3)) FU 1 _ hz2 (fun res ez2 => ?_) (fun wz2 ez2 => ?_)
      · rw [ez2] at hr; have hr := Option.some.inj hr; subst hr; exact hQ
      rw [ez2] at hr
      dsimp only at hr
      refine mV_push f7_goodTake_66 ?_
      have hr := Option.some.inj hr; subst hr
      exact mV_iret rfl rfl f7_goodTake_67 hQ
    · rw [if_neg h1] at hr
      refine mV_push f7_goodTake_10 ?_
      have hr := Option.some.inj hr; subst hr
      exact mV_iret rfl rfl f7_goodTake_11 hQ
theorem c7_goodTake (X : Nat × (Nat → Int32)) (I : mI) (s : Nat) (a : Nat) (ha : mStg a) (x0 : Int32) {res : Int32} (hr : r7_goodTake I a x0 = some res) : mC X m7_goodTake 1 0 0 [.ref a, .int x0] NN KK I (PP s) (mRet (some (.int res)) NN KK I (PP s)) :=
  mC_of (L0 := [.ref a, .int x0, mX0, mX0]) rfl (Nat.le_of_ble_eq_true rfl) (w7_goodTake X I s a ha x0 _ hr (mRet_ok _ _ _ _ _))
def l7_goodString_11 (I : mI) (a : Nat) : Nat → Int32 → Option ((Int32) ⊕ (Unit))
  | 0, _ => none
  | f + 1, y1 => if (8 : Int32) ≤ (y1 : Int32) then some (.inr ()) else (r7_goodTake I a y1).bind fun z0 => if (z0 : Int32) = ((-1) : Int32) then l7_goodString_11 I a f (y1 + 1) else some (.inl y1)
def r7_goodString (I : mI) (a : Nat) : Option (Int32) := (r7_worthOfAll I a).bind fun z0 => if (z0 : Int32) = (0 : Int32) then some (-1) else (l7_goodString_11 I a FU 0).bind fun z1 => match z1 with | .inl rz1 => some rz1 | .inr wz1 => some (-1)
set_option maxHeartbeats 4000000 in
set_option maxRecDepth 100000 in
theorem t7_goodString_11 (X : Nat × (Nat → Int32)) (Q : mQ) (s : Nat) (I : mI) (a : Nat) (ha : mStg a) : ∀ (f : Nat) (y1 : Int32) (z : (Int32) ⊕ (Unit)), l7_goodString_11 I a f y1 = some z → (∀ res, z = .inl res → Q (some (.int res)) NN KK I (PP s)) → (∀ w, z = .inr w → mV X m7_goodString 2 0 0 34 [.ref a, mX0] [] NN KK I (PP s) Q) → mV X m7_goodString 2 0 0 11 [.ref a, .int y1] [] NN KK I (PP s) Q := by
  intro f
  induction f with
  | zero => intro y1 z hr hret hk; cases hr
  | succ f ih =>
    intro y1 z hr hret hk
    unfold l7_goodString_11 at hr
    refine mV_iload f7_goodString_11 rfl ?_
    refine mV_push f7_goodString_12 ?_
    refine mV_icmp_ge f7_goodString_14 (fun h0 => ?_) (fun h0 => ?_)
    · rw [if_pos h0] at hr
      have hr := Option.some.inj hr; subst hr
      refine mV_drop (L' := [.ref a, mX0]) (mSub_k (mSub_x mSub_n)) ?_
      exact hk _ rfl
    · rw [if_neg h0] at hr
      refine mV_aload f7_goodString_17 rfl ?_
      refine mV_iload f7_goodString_18 rfl ?_
      obtain ⟨z0, hz0, hr⟩ := mBind hr
      refine mV_cV f7_goodString_19 tg_m7_goodTake mCls7 ha.l0 ha.1.2.1 (mC_deep (c7_goodTake X I s a ha y1 hz0) (by decide)) rfl rfl (Nat.le_of_ble_eq_true rfl) ?_
      refine mV_push f7_goodString_22 ?_
      refine mV_icmp_eq f7_goodString_23 (fun h1 => ?_) (fun h1 => ?_)
      · rw [if_pos h1] at hr
        refine mV_iinc (y := (y1 + 1)) (L' := [.ref a, .int (y1 + 1)]) f7_goodString_28 rfl rfl (by decide) rfl rfl ?_
        refine mV_goto f7_goodString_31 ?_
        exact ih (y1 + 1) _ hr hret hk
      · rw [if_neg h1] at hr
        refine mV_iload f7_goodString_26 rfl ?_
        have hr := Option.some.inj hr; subst hr; have hQ := hret _ rfl
        exact mV_iret rfl rfl f7_goodString_27 hQ
set_option maxHeartbeats 4000000 in
set_option maxRecDepth 100000 in
theorem w7_goodString (X : Nat × (Nat → Int32)) (I : mI) (s : Nat) (a : Nat) (ha : mStg a) (Q : mQ) {res : Int32} (hr : r7_goodString I a = some res) (hQ : Q (some (.int res)) NN KK I (PP s)) : mV X m7_goodString 2 0 0 0 [.ref a, mX0] [] NN KK I (PP s) Q := by
  unfold r7_goodString at hr
  refine mV_aload f7_goodString_0 rfl ?_
  obtain ⟨z0, hz0, hr⟩ := mBind hr
  refine mV_cV f7_goodString_1 tg_m7_worthOfAll mCls7 ha.l0 ha.1.2.1 (mC_deep (c7_worthOfAll X I s a ha hz0) (by decide)) rfl rfl (Nat.le_of_ble_eq_true rfl) ?_
  refine mV_if_ne f7_goodString_4 (fun h0 => ?_) (fun h0 => ?_)
  · rw [if_neg h0] at hr
    refine mV_push f7_goodString_9 ?_
    refine mV_istore (L' := [.ref a, .int 0]) f7_goodString_10 (by decide) rfl rfl ?_
    obtain ⟨z1, hz1, hr⟩ := mBind hr
    refine t7_goodString_11 X Q s I a ha FU 0 _ hz1 (fun res ez1 => ?_) (fun wz1 ez1 => ?_)
    · rw [ez1] at hr; have hr := Option.some.inj hr; subst hr; exact hQ
    rw [ez1] at hr
    dsimp only at hr
    refine mV_push f7_goodString_34 ?_
    have hr := Option.some.inj hr; subst hr
    exact mV_iret rfl rfl f7_goodString_35 hQ
  · rw [if_pos h0] at hr
    refine mV_push f7_goodString_7 ?_
    have hr := Option.some.inj hr; subst hr
    exact mV_iret rfl rfl f7_goodString_8 hQ
theorem c7_goodString (X : Nat × (Nat → Int32)) (I : mI) (s : Nat) (a : Nat) (ha : mStg a) {res : Int32} (hr : r7_goodString I a = some res) : mC X m7_goodString 2 0 0 [.ref a] NN KK I (PP s) (mRet (some (.int res)) NN KK I (PP s)) :=
  mC_of (L0 := [.ref a, mX0]) rfl (Nat.le_of_ble_eq_true rfl) (w7_goodString X I s a ha _ hr (mRet_ok _ _ _ _ _))

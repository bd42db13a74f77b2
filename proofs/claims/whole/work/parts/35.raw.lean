def l4_readScript_55 (k1 : Int32) : Nat → Int32 → mI → Option (mI)
  | 0, _, _ => none
  | f + 1, y3, I => if (16 : Int32) < (y3 : Int32) then some I else if (I 109 11 : Int32) = (0 : Int32) then (r4_kind I).bind fun z0 => if (z0 : Int32) = (129 : Int32) then some I else (r4_mayBegin (mW I 114 2 y3) k1).bind fun z1 => (if (z1.1 : Int32) = (0 : Int32) then some z1.2 else if (k1 : Int32) = 0 then (r4_lawLine z1.2).bind fun z3 => some z3.2 else if (k1 : Int32) = 1 then (r4_programmeLine z1.2).bind fun z4 => some z4.2 else if (k1 : Int32) = 2 then (r4_careLine z1.2).bind fun z5 => some z5.2 else (r4_likenessLine z1.2).bind fun z6 => some z6.2 : Option (mI)).bind fun z2 => l4_readScript_55 k1 f (y3 + 1) (mW z2 114 2 (y3 + 1)) else some I
def r4_readScript (I : mI) (x0 : Int32) : Option (Int32 × mI) := (r6_clear_114 (mW (mW (mW (mW I 109 11 0) 109 12 (-1)) 109 8 (I 8 6)) 109 9 (I 8 7))).bind fun z0 => (r4_splitTape z0).bind fun z1 => if (x0 : Int32) < (0 : Int32) then some ((-1), (mW z1 109 1 0)) else if (x0 : Int32) ≤ (3 : Int32) then (l4_readScript_55 x0 FU 0 (mW z1 109 1 0)).bind fun z2 => (if (z2 109 11 : Int32) = (0 : Int32) then some (z2 114 2) else some (-1) : Option (Int32)).bind fun z3 => some (z3, z2) else some ((-1), (mW z1 109 1 0))
set_option maxHeartbeats 4000000 in
set_option maxRecDepth 100000 in
theorem t4_readScript_55 (X : Nat × (Nat → Int32)) (Q : mQ) (s : Nat) (k1 : Int32) : ∀ (f : Nat) (y3 : Int32) (I : mI) (z : mI), l4_readScript_55 k1 f y3 I = some z → mV X m4_readScript 51 0 0 165 [.ref 109, .int k1, .ref 8, mX0] [] NN KK z (PP s) Q → mV X m4_readScript 51 0 0 55 [.ref 109, .int k1, .ref 8, .int y3] [] NN KK I (PP s) Q := by
  intro f
  induction f with
  | zero => intro y3 I z hr hk; cases hr
  | succ f ih =>
    intro y3 I z hr hk
    unfold l4_readScript_55 at hr
    refine mV_iload f4_readScript_55 rfl ?_
    refine mV_push f4_readScript_56 ?_
    refine mV_icmp_gt f4_readScript_58 (fun h0 => ?_) (fun h0 => ?_)
    · rw [if_pos h0] at hr
      have hr := Option.some.inj hr; subst hr
      refine mV_drop (L' := [.ref 109, .int k1, .ref 8, mX0]) (mSub_k (mSub_k (mSub_k (mSub_x mSub_n)))) ?_
      exact hk
    · rw [if_neg h0] at hr
      refine mV_aload f4_readScript_61 rfl ?_
      refine mV_gI (I 109 11) f4_readScript_62 (by decide) kk_109 rfl rfl ?_
      refine mV_if_ne f4_readScript_65 (fun h1 => ?_) (fun h1 => ?_)
      · rw [if_neg h1] at hr
        have hr := Option.some.inj hr; subst hr
        refine mV_drop (L' := [.ref 109, .int k1, .ref 8, mX0]) (mSub_k (mSub_k (mSub_k (mSub_x mSub_n)))) ?_
        exact hk
      · rw [if_pos h1] at hr
        refine mV_aload f4_readScript_68 rfl ?_
        obtain ⟨z0, hz0, hr⟩ := mBind hr
        refine mV_cV f4_readScript_69 tg_m4_kind mCls4 (by decide) kk_109 (mC_deep (c4_kind X I s hz0) (by decide)) rfl rfl (Nat.le_of_ble_eq_true rfl) ?_
        refine mV_push f4_readScript_72 ?_
        refine mV_icmp_eq f4_readScript_75 (fun h2 => ?_) (fun h2 => ?_)
        · rw [if_pos h2] at hr
          have hr := Option.some.inj hr; subst hr
          refine mV_drop (L' := [.ref 109, .int k1, .ref 8, mX0]) (mSub_k (mSub_k (mSub_k (mSub_x mSub_n)))) ?_
          exact hk
        · rw [if_neg h2] at hr
          refine mV_aload f4_readScript_78 rfl ?_
          refine mV_getP f4_readScript_79 (by decide) kk_109 rfl (pp_109_10 _) ?_
          refine mV_iload f4_readScript_82 rfl ?_
          refine mV_putI f4_readScript_83 (by decide) kk_114 rfl rfl ?_
          refine mV_aload f4_readScript_86 rfl ?_
          refine mV_iload f4_readScript_87 rfl ?_
          obtain ⟨z1, hz1, hr⟩ := mBind hr
          refine mV_cV f4_readScript_88 tg_m4_mayBegin mCls4 (by decide) kk_109 (mC_deep (c4_mayBegin X (mW I 114 2 y3) s k1 hz1) (by decide)) rfl rfl (Nat.le_of_ble_eq_true rfl) ?_
          obtain ⟨z2, hz2, hr⟩ := mBind hr
          have keyz2 : mV X m4_readScript 51 0 0 149 [.ref 109, .int k1, .ref 8, .int y3] [] NN KK z2 (PP s) Q := by
            refine mV_aload f4_readScript_149 rfl ?_
            refine mV_getP f4_readScript_150 (by decide) kk_109 rfl (pp_109_10 _) ?_
            refine mV_iload f4_readScript_153 rfl ?_
            refine mV_push f4_readScript_154 ?_
            refine mV_iadd f4_readScript_155 ?_
            refine mV_putI f4_readScript_156 (by decide) kk_114 rfl rfl ?_
            refine mV_iinc (y := (y3 + 1)) (L' := [.ref 109, .int k1, .ref 8, .int (y3 + 1)]) f4_readScript_159 rfl rfl (by decide) rfl rfl ?_
            refine mV_goto f4_readScript_162 ?_
            exact ih (y3 + 1) (mW z2 114 2 (y3 + 1)) _ hr hk
          clear hr
          have hr := hz2
          clear hz2
          refine mV_if_eq f4_readScript_91 (fun h3 => ?_) (fun h3 => ?_)
          · rw [if_pos h3] at hr
            have hr := Option.some.inj hr; subst hr
            exact keyz2
          · rw [if_neg h3] at hr
            refine mV_iload f4_readScript_94 rfl ?_
            by_cases h4 : k1 = 0
            · rw [if_pos h4] at hr
              refine mV_tabEq (v := 0) f4_readScript_95 h4 (by decide) (by decide) (by decide) (by decide : (95 : Int) + 25 = (120 : Nat)) ?_
              refine mV_aload f4_readScript_120 rfl ?_
              obtain ⟨z3, hz3, hr⟩ := mBind hr
              refine mV_cV f4_readScript_121 tg_m4_lawLine mCls4 (by decide) kk_109 (mC_deep (c4_lawLine X z1.2 s hz3) (by decide)) rfl rfl (Nat.le_of_ble_eq_true rfl) ?_
              refine mV_pop f4_readScript_124 rfl ?_
              refine mV_goto f4_readScript_125 ?_
              have hr := Option.some.inj hr; subst hr
              exact keyz2
            rw [if_neg h4] at hr
            by_cases h5 : k1 = 1
            · rw [if_pos h5] at hr
              refine mV_tabEq (v := 1) f4_readScript_95 h5 (by decide) (by decide) (by decide) (by decide : (95 : Int) + 33 = (128 : Nat)) ?_
              refine mV_aload f4_readScript_128 rfl ?_
              obtain ⟨z4, hz4, hr⟩ := mBind hr
              refine mV_cV f4_readScript_129 tg_m4_programmeLine mCls4 (by decide) kk_109 (mC_deep (c4_programmeLine X z1.2 s hz4) (by decide)) rfl rfl (Nat.le_of_ble_eq_true rfl) ?_
              refine mV_pop f4_readScript_132 rfl ?_
              refine mV_goto f4_readScript_133 ?_
              have hr := Option.some.inj hr; subst hr
              exact keyz2
            rw [if_neg h5] at hr
            by_cases h6 : k1 = 2
            · rw [if_pos h6] at hr
              refine mV_tabEq (v := 2) f4_readScript_95 h6 (by decide) (by decide) (by decide) (by decide : (95 : Int) + 41 = (136 : Nat)) ?_
              refine mV_aload f4_readScript_136 rfl ?_
              obtain ⟨z5, hz5, hr⟩ := mBind hr
              refine mV_cV f4_readScript_137 tg_m4_careLine mCls4 (by decide) kk_109 (mC_deep (c4_careLine X z1.2 s hz5) (by decide)) rfl rfl (Nat.le_of_ble_eq_true rfl) ?_
              refine mV_pop f4_readScript_140 rfl ?_
              refine mV_goto f4_readScript_141 ?_
              have hr := Option.some.inj hr; subst hr
              exact keyz2
            rw [if_neg h6] at hr
            refine mV_tabNo f4_readScript_95 [0, 1, 2] (by decide) (List.forall_mem_cons.mpr ⟨h4, (List.forall_mem_cons.mpr ⟨h5, (List.forall_mem_cons.mpr ⟨h6, (fun _ hc => absurd hc List.not_mem_nil)⟩)⟩)⟩) (by decide : (95 : Int) + 49 = (144 : Nat)) ?_
            refine mV_aload f4_readScript_144 rfl ?_
            obtain ⟨z6, hz6, hr⟩ := mBind hr
            refine mV_cV f4_readScript_145 tg_m4_likenessLine mCls4 (by decide) kk_109 (mC_deep (c4_likenessLine X z1.2 s hz6) (by decide)) rfl rfl (Nat.le_of_ble_eq_true rfl) ?_
            refine mV_pop f4_readScript_148 rfl ?_
            have hr := Option.some.inj hr; subst hr
            exact keyz2
set_option maxHeartbeats 4000000 in
set_option maxRecDepth 100000 in
theorem w4_readScript (X : Nat × (Nat → Int32)) (I : mI) (s : Nat) (x0 : Int32) (Q : mQ) {res : Int32 × mI} (hr : r4_readScript I x0 = some res) (hQ : Q (some (.int res.1)) NN KK res.2 (PP s)) : mV X m4_readScript 51 0 0 0 [.ref 109, .int x0, .ref 8, mX0] [] NN KK I (PP s) Q := by
  unfold r4_readScript at hr
  refine mV_aload f4_readScript_0 rfl ?_
  refine mV_push f4_readScript_1 ?_
  refine mV_putI f4_readScript_2 (by decide) kk_109 rfl rfl ?_
  refine mV_aload f4_readScript_5 rfl ?_
  refine mV_push f4_readScript_6 ?_
  refine mV_putI f4_readScript_7 (by decide) kk_109 rfl rfl ?_
  refine mV_aload f4_readScript_10 rfl ?_
  refine mV_aload f4_readScript_11 rfl ?_
  refine mV_gI (I 8 6) f4_readScript_12 (by decide) kk_8 rfl rfl ?_
  refine mV_putI f4_readScript_15 (by decide) kk_109 rfl rfl ?_
  refine mV_aload f4_readScript_18 rfl ?_
  refine mV_aload f4_readScript_19 rfl ?_
  refine mV_gI (I 8 7) f4_readScript_20 (by decide) kk_8 rfl rfl ?_
  refine mV_putI f4_readScript_23 (by decide) kk_109 rfl rfl ?_
  refine mV_aload f4_readScript_26 rfl ?_
  refine mV_getP f4_readScript_27 (by decide) kk_109 rfl (pp_109_10 _) ?_
  obtain ⟨z0, hz0, hr⟩ := mBind hr
  refine mV_cV f4_readScript_30 tg_m6_clear mCls6 (by decide) kk_114 (mC_deep (c6_clear_114 X (mW (mW (mW (mW I 109 11 0) 109 12 (-1)) 109 8 (I 8 6)) 109 9 (I 8 7)) s hz0) (by decide)) rfl rfl (Nat.le_of_ble_eq_true rfl) ?_
  refine mV_aload f4_readScript_33 rfl ?_
  obtain ⟨z1, hz1, hr⟩ := mBind hr
  refine mV_cV f4_readScript_34 tg_m4_splitTape mCls4 (by decide) kk_109 (mC_deep (c4_splitTape X z0 s hz1) (by decide)) rfl rfl (Nat.le_of_ble_eq_true rfl) ?_
  refine mV_aload f4_readScript_37 rfl ?_
  refine mV_push f4_readScript_38 ?_
  refine mV_putI f4_readScript_39 (by decide) kk_109 rfl rfl ?_
  refine mV_iload f4_readScript_42 rfl ?_
  refine mV_if_lt f4_readScript_43 (fun h0 => ?_) (fun h0 => ?_)
  · rw [if_pos h0] at hr
    refine mV_push f4_readScript_51 ?_
    have hr := Option.some.inj hr; subst hr
    exact mV_iret rfl rfl f4_readScript_52 hQ
  · rw [if_neg h0] at hr
    refine mV_iload f4_readScript_46 rfl ?_
    refine mV_push f4_readScript_47 ?_
    refine mV_icmp_le f4_readScript_48 (fun h1 => ?_) (fun h1 => ?_)
    · rw [if_pos h1] at hr
      refine mV_push f4_readScript_53 ?_
      refine mV_istore (L' := [.ref 109, .int x0, .ref 8, .int 0]) f4_readScript_54 (by decide) rfl rfl ?_
      obtain ⟨z2, hz2, hr⟩ := mBind hr
      refine t4_readScript_55 X Q s x0 FU 0 (mW z1 109 1 0) _ hz2 ?_
      refine mV_aload f4_readScript_165 rfl ?_
      refine mV_gI (z2 109 11) f4_readScript_166 (by decide) kk_109 rfl rfl ?_
      obtain ⟨z3, hz3, hr⟩ := mBind hr
      have keyz3 : mV X m4_readScript 51 0 0 183 [.ref 109, mX0, .ref 8, mX0] [.int z3] NN KK z2 (PP s) Q := by
        have hr := Option.some.inj hr; subst hr
        exact mV_iret rfl rfl f4_readScript_183 hQ
      clear hr
      have hr := hz3
      clear hz3
      refine mV_if_ne f4_readScript_169 (fun h2 => ?_) (fun h2 => ?_)
      · rw [if_neg h2] at hr
        refine mV_push f4_readScript_182 ?_
        have hr := Option.some.inj hr; subst hr
        refine mV_drop (L' := [.ref 109, mX0, .ref 8, mX0]) (mSub_k (mSub_x (mSub_k (mSub_x mSub_n)))) ?_
        exact keyz3
      · rw [if_pos h2] at hr
        refine mV_aload f4_readScript_172 rfl ?_
        refine mV_getP f4_readScript_173 (by decide) kk_109 rfl (pp_109_10 _) ?_
        refine mV_gI (z2 114 2) f4_readScript_176 (by decide) kk_114 rfl rfl ?_
        refine mV_goto f4_readScript_179 ?_
        have hr := Option.some.inj hr; subst hr
        refine mV_drop (L' := [.ref 109, mX0, .ref 8, mX0]) (mSub_k (mSub_x (mSub_k (mSub_x mSub_n)))) ?_
        exact keyz3
    · rw [if_neg h1] at hr
      refine mV_push f4_readScript_51 ?_
      have hr := Option.some.inj hr; subst hr
      exact mV_iret rfl rfl f4_readScript_52 hQ
theorem c4_readScript (X : Nat × (Nat → Int32)) (I : mI) (s : Nat) (x0 : Int32) {res : Int32 × mI} (hr : r4_readScript I x0 = some res) : mC X m4_readScript 51 0 0 [.ref 109, .int x0, .ref 8] NN KK I (PP s) (mRet (some (.int res.1)) NN KK res.2 (PP s)) :=
  mC_of (L0 := [.ref 109, .int x0, .ref 8, mX0]) rfl (Nat.le_of_ble_eq_true rfl) (w4_readScript X I s x0 _ hr (mRet_ok _ _ _ _ _))
def r6_copyFrom_15_114 (I : mI) : Option (mI) := (mCpO I 115 144 16 144 0 0 144).bind fun z0 => (mCpO (mW z0 15 3 (mMin (mMin (z0 114 3) 400) 400)) 116 400 17 400 0 0 (mMin (mMin (z0 114 3) 400) 400)).bind fun z1 => some (mW z1 15 2 (z1 114 2))
set_option maxHeartbeats 4000000 in
set_option maxRecDepth 100000 in
theorem w6_copyFrom_15_114 (X : Nat × (Nat → Int32)) (I : mI) (s : Nat) (Q : mQ) {res : mI} (hr : r6_copyFrom_15_114 I = some res) (hQ : Q none NN KK res (PP s)) : mV X m6_copyFrom 1 0 0 0 [.ref 15, .ref 114] [] NN KK I (PP s) Q := by
  unfold r6_copyFrom_15_114 at hr
  refine mV_aload f6_copyFrom_0 rfl ?_
  refine mV_getP f6_copyFrom_1 (by decide) kk_114 rfl (pp_114_0 _) ?_
  refine mV_push f6_copyFrom_4 ?_
  refine mV_aload f6_copyFrom_5 rfl ?_
  refine mV_getP f6_copyFrom_6 (by decide) kk_15 rfl (pp_15_0 _) ?_
  refine mV_push f6_copyFrom_9 ?_
  refine mV_aload f6_copyFrom_10 rfl ?_
  refine mV_getP f6_copyFrom_11 (by decide) kk_15 rfl (pp_15_0 _) ?_
  refine mV_alen f6_copyFrom_14 (by decide) kk_16 ?_
  refine mV_as 144 (by decide) ?_
  obtain ⟨z0, hz0, hr⟩ := mBind hr
  refine mV_cpO f6_copyFrom_15 (by decide) (by decide) kk_115 kk_16 hz0 (Nat.le_of_ble_eq_true rfl) ?_
  refine mV_aload f6_copyFrom_18 rfl ?_
  refine mV_aload f6_copyFrom_19 rfl ?_
  refine mV_gI (z0 114 3) f6_copyFrom_20 (by decide) kk_114 rfl rfl ?_
  refine mV_aload f6_copyFrom_23 rfl ?_
  refine mV_getP f6_copyFrom_24 (by decide) kk_114 rfl (pp_114_1 _) ?_
  refine mV_alen f6_copyFrom_27 (by decide) kk_116 ?_
  refine mV_as 400 (by decide) ?_
  refine mV_minC fm6_copyFrom_28 (Nat.le_of_ble_eq_true rfl) ?_
  refine mV_aload f6_copyFrom_31 rfl ?_
  refine mV_getP f6_copyFrom_32 (by decide) kk_15 rfl (pp_15_1 _) ?_
  refine mV_alen f6_copyFrom_35 (by decide) kk_17 ?_
  refine mV_as 400 (by decide) ?_
  refine mV_minC fm6_copyFrom_36 (Nat.le_of_ble_eq_true rfl) ?_
  refine mV_putI f6_copyFrom_39 (by decide) kk_15 rfl rfl ?_
  refine mV_aload f6_copyFrom_42 rfl ?_
  refine mV_getP f6_copyFrom_43 (by decide) kk_114 rfl (pp_114_1 _) ?_
  refine mV_push f6_copyFrom_46 ?_
  refine mV_aload f6_copyFrom_47 rfl ?_
  refine mV_getP f6_copyFrom_48 (by decide) kk_15 rfl (pp_15_1 _) ?_
  refine mV_push f6_copyFrom_51 ?_
  refine mV_aload f6_copyFrom_52 rfl ?_
  refine mV_gI (mMin (mMin (z0 114 3) 400) 400) f6_copyFrom_53 (by decide) kk_15 rfl rfl ?_
  obtain ⟨z1, hz1, hr⟩ := mBind hr
  refine mV_cpO f6_copyFrom_56 (by decide) (by decide) kk_116 kk_17 hz1 (Nat.le_of_ble_eq_true rfl) ?_
  refine mV_aload f6_copyFrom_59 rfl ?_
  refine mV_aload f6_copyFrom_60 rfl ?_
  refine mV_gI (z1 114 2) f6_copyFrom_61 (by decide) kk_114 rfl rfl ?_
  refine mV_putI f6_copyFrom_64 (by decide) kk_15 rfl rfl ?_
  have hr := Option.some.inj hr; subst hr
  exact mV_vret rfl f6_copyFrom_67 hQ
theorem c6_copyFrom_15_114 (X : Nat × (Nat → Int32)) (I : mI) (s : Nat) {res : mI} (hr : r6_copyFrom_15_114 I = some res) : mC X m6_copyFrom 1 0 0 [.ref 15, .ref 114] NN KK I (PP s) (mRet none NN KK res (PP s)) :=
  mC_of (L0 := [.ref 15, .ref 114]) rfl (Nat.le_of_ble_eq_true rfl) (w6_copyFrom_15_114 X I s _ hr (mRet_ok _ _ _ _ _))
def r6_copyFrom_18_114 (I : mI) : Option (mI) := (mCpO I 115 144 19 144 0 0 144).bind fun z0 => (mCpO (mW z0 18 3 (mMin (mMin (z0 114 3) 400) 0)) 116 400 20 0 0 0 (mMin (mMin (z0 114 3) 400) 0)).bind fun z1 => some (mW z1 18 2 (z1 114 2))
set_option maxHeartbeats 4000000 in
set_option maxRecDepth 100000 in
theorem w6_copyFrom_18_114 (X : Nat × (Nat → Int32)) (I : mI) (s : Nat) (Q : mQ) {res : mI} (hr : r6_copyFrom_18_114 I = some res) (hQ : Q none NN KK res (PP s)) : mV X m6_copyFrom 1 0 0 0 [.ref 18, .ref 114] [] NN KK I (PP s) Q := by
  unfold r6_copyFrom_18_114 at hr
  refine mV_aload f6_copyFrom_0 rfl ?_
  refine mV_getP f6_copyFrom_1 (by decide) kk_114 rfl (pp_114_0 _) ?_
  refine mV_push f6_copyFrom_4 ?_
  refine mV_aload f6_copyFrom_5 rfl ?_
  refine mV_getP f6_copyFrom_6 (by decide) kk_18 rfl (pp_18_0 _) ?_
  refine mV_push f6_copyFrom_9 ?_
  refine mV_aload f6_copyFrom_10 rfl ?_
  refine mV_getP f6_copyFrom_11 (by decide) kk_18 rfl (pp_18_0 _) ?_
  refine mV_alen f6_copyFrom_14 (by decide) kk_19 ?_
  refine mV_as 144 (by decide) ?_
  obtain ⟨z0, hz0, hr⟩ := mBind hr
  refine mV_cpO f6_copyFrom_15 (by decide) (by decide) kk_115 kk_19 hz0 (Nat.le_of_ble_eq_true rfl) ?_
  refine mV_aload f6_copyFrom_18 rfl ?_
  refine mV_aload f6_copyFrom_19 rfl ?_
  refine mV_gI (z0 114 3) f6_copyFrom_20 (by decide) kk_114 rfl rfl ?_
  refine mV_aload f6_copyFrom_23 rfl ?_
  refine mV_getP f6_copyFrom_24 (by decide) kk_114 rfl (pp_114_1 _) ?_
  refine mV_alen f6_copyFrom_27 (by decide) kk_116 ?_
  refine mV_as 400 (by decide) ?_
  refine mV_minC fm6_copyFrom_28 (Nat.le_of_ble_eq_true rfl) ?_
  refine mV_aload f6_copyFrom_31 rfl ?_
  refine mV_getP f6_copyFrom_32 (by decide) kk_18 rfl (pp_18_1 _) ?_
  refine mV_alen f6_copyFrom_35 (by decide) kk_20 ?_
  refine mV_as 0 (by decide) ?_
  refine mV_minC fm6_copyFrom_36 (Nat.le_of_ble_eq_true rfl) ?_
  refine mV_putI f6_copyFrom_39 (by decide) kk_18 rfl rfl ?_
  refine mV_aload f6_copyFrom_42 rfl ?_
  refine mV_getP f6_copyFrom_43 (by decide) kk_114 rfl (pp_114_1 _) ?_
  refine mV_push f6_copyFrom_46 ?_
  refine mV_aload f6_copyFrom_47 rfl ?_
  refine mV_getP f6_copyFrom_48 (by decide) kk_18 rfl (pp_18_1 _) ?_
  refine mV_push f6_copyFrom_51 ?_
  refine mV_aload f6_copyFrom_52 rfl ?_
  refine mV_gI (mMin (mMin (z0 114 3) 400) 0) f6_copyFrom_53 (by decide) kk_18 rfl rfl ?_
  obtain ⟨z1, hz1, hr⟩ := mBind hr
  refine mV_cpO f6_copyFrom_56 (by decide) (by decide) kk_116 kk_20 hz1 (Nat.le_of_ble_eq_true rfl) ?_
  refine mV_aload f6_copyFrom_59 rfl ?_
  refine mV_aload f6_copyFrom_60 rfl ?_
  refine mV_gI (z1 114 2) f6_copyFrom_61 (by decide) kk_114 rfl rfl ?_
  refine mV_putI f6_copyFrom_64 (by decide) kk_18 rfl rfl ?_
  have hr := Option.some.inj hr; subst hr
  exact mV_vret rfl f6_copyFrom_67 hQ
theorem c6_copyFrom_18_114 (X : Nat × (Nat → Int32)) (I : mI) (s : Nat) {res : mI} (hr : r6_copyFrom_18_114 I = some res) : mC X m6_copyFrom 1 0 0 [.ref 18, .ref 114] NN KK I (PP s) (mRet none NN KK res (PP s)) :=
  mC_of (L0 := [.ref 18, .ref 114]) rfl (Nat.le_of_ble_eq_true rfl) (w6_copyFrom_18_114 X I s _ hr (mRet_ok _ _ _ _ _))
def r6_copyFrom_21_114 (I : mI) : Option (mI) := (mCpO I 115 144 22 144 0 0 144).bind fun z0 => (mCpO (mW z0 21 3 (mMin (mMin (z0 114 3) 400) 0)) 116 400 23 0 0 0 (mMin (mMin (z0 114 3) 400) 0)).bind fun z1 => some (mW z1 21 2 (z1 114 2))
set_option maxHeartbeats 4000000 in
set_option maxRecDepth 100000 in
theorem w6_copyFrom_21_114 (X : Nat × (Nat → Int32)) (I : mI) (s : Nat) (Q : mQ) {res : mI} (hr : r6_copyFrom_21_114 I = some res) (hQ : Q none NN KK res (PP s)) : mV X m6_copyFrom 1 0 0 0 [.ref 21, .ref 114] [] NN KK I (PP s) Q := by
  unfold r6_copyFrom_21_114 at hr
  refine mV_aload f6_copyFrom_0 rfl ?_
  refine mV_getP f6_copyFrom_1 (by decide) kk_114 rfl (pp_114_0 _) ?_
  refine mV_push f6_copyFrom_4 ?_
  refine mV_aload f6_copyFrom_5 rfl ?_
  refine mV_getP f6_copyFrom_6 (by decide) kk_21 rfl (pp_21_0 _) ?_
  refine mV_push f6_copyFrom_9 ?_
  refine mV_aload f6_copyFrom_10 rfl ?_
  refine mV_getP f6_copyFrom_11 (by decide) kk_21 rfl (pp_21_0 _) ?_
  refine mV_alen f6_copyFrom_14 (by decide) kk_22 ?_
  refine mV_as 144 (by decide) ?_
  obtain ⟨z0, hz0, hr⟩ := mBind hr
  refine mV_cpO f6_copyFrom_15 (by decide) (by decide) kk_115 kk_22 hz0 (Nat.le_of_ble_eq_true rfl) ?_
  refine mV_aload f6_copyFrom_18 rfl ?_
  refine mV_aload f6_copyFrom_19 rfl ?_
  refine mV_gI (z0 114 3) f6_copyFrom_20 (by decide) kk_114 rfl rfl ?_
  refine mV_aload f6_copyFrom_23 rfl ?_
  refine mV_getP f6_copyFrom_24 (by decide) kk_114 rfl (pp_114_1 _) ?_
  refine mV_alen f6_copyFrom_27 (by decide) kk_116 ?_
  refine mV_as 400 (by decide) ?_
  refine mV_minC fm6_copyFrom_28 (Nat.le_of_ble_eq_true rfl) ?_
  refine mV_aload f6_copyFrom_31 rfl ?_
  refine mV_getP f6_copyFrom_32 (by decide) kk_21 rfl (pp_21_1 _) ?_
  refine mV_alen f6_copyFrom_35 (by decide) kk_23 ?_
  refine mV_as 0 (by decide) ?_
  refine mV_minC fm6_copyFrom_36 (Nat.le_of_ble_eq_true rfl) ?_
  refine mV_putI f6_copyFrom_39 (by decide) kk_21 rfl rfl ?_
  refine mV_aload f6_copyFrom_42 rfl ?_
  refine mV_getP f6_copyFrom_43 (by decide) kk_114 rfl (pp_114_1 _) ?_
  refine mV_push f6_copyFrom_46 ?_
  refine mV_aload f6_copyFrom_47 rfl ?_
  refine mV_getP f6_copyFrom_48 (by decide) kk_21 rfl (pp_21_1 _) ?_
  refine mV_push f6_copyFrom_51 ?_
  refine mV_aload f6_copyFrom_52 rfl ?_
  refine mV_gI (mMin (mMin (z0 114 3) 400) 0) f6_copyFrom_53 (by decide) kk_21 rfl rfl ?_
  obtain ⟨z1, hz1, hr⟩ := mBind hr
  refine mV_cpO f6_copyFrom_56 (by decide) (by decide) kk_116 kk_23 hz1 (Nat.le_of_ble_eq_true rfl) ?_
  refine mV_aload f6_copyFrom_59 rfl ?_
  refine mV_aload f6_copyFrom_60 rfl ?_
  refine mV_gI (z1 114 2) f6_copyFrom_61 (by decide) kk_114 rfl rfl ?_
  refine mV_putI f6_copyFrom_64 (by decide) kk_21 rfl rfl ?_
  have hr := Option.some.inj hr; subst hr
  exact mV_vret rfl f6_copyFrom_67 hQ
theorem c6_copyFrom_21_114 (X : Nat × (Nat → Int32)) (I : mI) (s : Nat) {res : mI} (hr : r6_copyFrom_21_114 I = some res) : mC X m6_copyFrom 1 0 0 [.ref 21, .ref 114] NN KK I (PP s) (mRet none NN KK res (PP s)) :=
  mC_of (L0 := [.ref 21, .ref 114]) rfl (Nat.le_of_ble_eq_true rfl) (w6_copyFrom_21_114 X I s _ hr (mRet_ok _ _ _ _ _))
def r6_copyFrom_24_114 (I : mI) : Option (mI) := (mCpO I 115 144 25 144 0 0 144).bind fun z0 => (mCpO (mW z0 24 3 (mMin (mMin (z0 114 3) 400) 0)) 116 400 26 0 0 0 (mMin (mMin (z0 114 3) 400) 0)).bind fun z1 => some (mW z1 24 2 (z1 114 2))
set_option maxHeartbeats 4000000 in
set_option maxRecDepth 100000 in
theorem w6_copyFrom_24_114 (X : Nat × (Nat → Int32)) (I : mI) (s : Nat) (Q : mQ) {res : mI} (hr : r6_copyFrom_24_114 I = some res) (hQ : Q none NN KK res (PP s)) : mV X m6_copyFrom 1 0 0 0 [.ref 24, .ref 114] [] NN KK I (PP s) Q := by
  unfold r6_copyFrom_24_114 at hr
  refine mV_aload f6_copyFrom_0 rfl ?_
  refine mV_getP f6_copyFrom_1 (by decide) kk_114 rfl (pp_114_0 _) ?_
  refine mV_push f6_copyFrom_4 ?_
  refine mV_aload f6_copyFrom_5 rfl ?_
  refine mV_getP f6_copyFrom_6 (by decide) kk_24 rfl (pp_24_0 _) ?_
  refine mV_push f6_copyFrom_9 ?_
  refine mV_aload f6_copyFrom_10 rfl ?_
  refine mV_getP f6_copyFrom_11 (by decide) kk_24 rfl (pp_24_0 _) ?_
  refine mV_alen f6_copyFrom_14 (by decide) kk_25 ?_
  refine mV_as 144 (by decide) ?_
  obtain ⟨z0, hz0, hr⟩ := mBind hr
  refine mV_cpO f6_copyFrom_15 (by decide) (by decide) kk_115 kk_25 hz0 (Nat.le_of_ble_eq_true rfl) ?_
  refine mV_aload f6_copyFrom_18 rfl ?_
  refine mV_aload f6_copyFrom_19 rfl ?_
  refine mV_gI (z0 114 3) f6_copyFrom_20 (by decide) kk_114 rfl rfl ?_
  refine mV_aload f6_copyFrom_23 rfl ?_
  refine mV_getP f6_copyFrom_24 (by decide) kk_114 rfl (pp_114_1 _) ?_
  refine mV_alen f6_copyFrom_27 (by decide) kk_116 ?_
  refine mV_as 400 (by decide) ?_
  refine mV_minC fm6_copyFrom_28 (Nat.le_of_ble_eq_true rfl) ?_
  refine mV_aload f6_copyFrom_31 rfl ?_
  refine mV_getP f6_copyFrom_32 (by decide) kk_24 rfl (pp_24_1 _) ?_
  refine mV_alen f6_copyFrom_35 (by decide) kk_26 ?_
  refine mV_as 0 (by decide) ?_
  refine mV_minC fm6_copyFrom_36 (Nat.le_of_ble_eq_true rfl) ?_
  refine mV_putI f6_copyFrom_39 (by decide) kk_24 rfl rfl ?_
  refine mV_aload f6_copyFrom_42 rfl ?_
  refine mV_getP f6_copyFrom_43 (by decide) kk_114 rfl (pp_114_1 _) ?_
  refine mV_push f6_copyFrom_46 ?_
  refine mV_aload f6_copyFrom_47 rfl ?_
  refine mV_getP f6_copyFrom_48 (by decide) kk_24 rfl (pp_24_1 _) ?_
  refine mV_push f6_copyFrom_51 ?_
  refine mV_aload f6_copyFrom_52 rfl ?_
  refine mV_gI (mMin (mMin (z0 114 3) 400) 0) f6_copyFrom_53 (by decide) kk_24 rfl rfl ?_
  obtain ⟨z1, hz1, hr⟩ := mBind hr
  refine mV_cpO f6_copyFrom_56 (by decide) (by decide) kk_116 kk_26 hz1 (Nat.le_of_ble_eq_true rfl) ?_
  refine mV_aload f6_copyFrom_59 rfl ?_
  refine mV_aload f6_copyFrom_60 rfl ?_
  refine mV_gI (z1 114 2) f6_copyFrom_61 (by decide) kk_114 rfl rfl ?_
  refine mV_putI f6_copyFrom_64 (by decide) kk_24 rfl rfl ?_
  have hr := Option.some.inj hr; subst hr
  exact mV_vret rfl f6_copyFrom_67 hQ
theorem c6_copyFrom_24_114 (X : Nat × (Nat → Int32)) (I : mI) (s : Nat) {res : mI} (hr : r6_copyFrom_24_114 I = some res) : mC X m6_copyFrom 1 0 0 [.ref 24, .ref 114] NN KK I (PP s) (mRet none NN KK res (PP s)) :=
  mC_of (L0 := [.ref 24, .ref 114]) rfl (Nat.le_of_ble_eq_true rfl) (w6_copyFrom_24_114 X I s _ hr (mRet_ok _ _ _ _ _))
def r9_text (I : mI) (x0 : Int32) : Option (Int32 × mI) := (r4_readScript I x0).bind fun z0 => if (x0 : Int32) = 0 then if (z0.1 : Int32) = ((-1) : Int32) then some ((-1), z0.2) else (r6_copyFrom_15_114 z0.2).bind fun z1 => (if (x0 : Int32) = (1 : Int32) then (r3_forget z1).bind fun z3 => some z3 else if (x0 : Int32) = (2 : Int32) then (r3_forget z1).bind fun z4 => some z4 else some z1 : Option (mI)).bind fun z2 => some (z0.1, z2) else if (x0 : Int32) = 1 then if (z0.1 : Int32) = ((-1) : Int32) then some ((-1), z0.2) else (r6_copyFrom_18_114 z0.2).bind fun z5 => (if (x0 : Int32) = (1 : Int32) then (r3_forget z5).bind fun z7 => some z7 else if (x0 : Int32) = (2 : Int32) then (r3_forget z5).bind fun z8 => some z8 else some z5 : Option (mI)).bind fun z6 => some (z0.1, z6) else if (x0 : Int32) = 2 then if (z0.1 : Int32) = ((-1) : Int32) then some ((-1), z0.2) else (r6_copyFrom_21_114 z0.2).bind fun z9 => (if (x0 : Int32) = (1 : Int32) then (r3_forget z9).bind fun z11 => some z11 else if (x0 : Int32) = (2 : Int32) then (r3_forget z9).bind fun z12 => some z12 else some z9 : Option (mI)).bind fun z10 => some (z0.1, z10) else if (x0 : Int32) = 3 then if (z0.1 : Int32) = ((-1) : Int32) then some ((-1), z0.2) else (r6_copyFrom_24_114 z0.2).bind fun z13 => (if (x0 : Int32) = (1 : Int32) then (r3_forget z13).bind fun z15 => some z15 else if (x0 : Int32) = (2 : Int32) then (r3_forget z13).bind fun z16 => some z16 else some z13 : Option (mI)).bind fun z14 => some (z0.1, z14) else if (z0.1 : Int32) = ((-1) : Int32) then some ((-1), z0.2) else some ((-1), z0.2)
set_option maxHeartbeats 4000000 in
set_option maxRecDepth 100000 in
theorem w9_text (X : Nat × (Nat → Int32)) (I : mI) (s : Nat) (x0 : Int32) (Q : mQ) {res : Int32 × mI} (hr : r9_text I x0 = some res) (hQ : Q (some (.int res.1)) NN KK res.2 (PP s)) : mV X m9_text 52 0 0 0 [.ref 0, .int x0, mX0, mX0] [] NN KK I (PP s) Q := by
  unfold r9_text at hr
  refine mV_aload f9_text_0 rfl ?_
  refine mV_getP f9_text_1 (by decide) kk_0 rfl (pp_0_5 _) ?_
  refine mV_iload f9_text_4 rfl ?_
  refine mV_aload f9_text_5 rfl ?_
  refine mV_getP f9_text_6 (by decide) kk_0 rfl (pp_0_1 _) ?_
  refine mV_getP f9_text_9 (by decide) kk_2 rfl (pp_2_1 _) ?_
  obtain ⟨z0, hz0, hr⟩ := mBind hr
  refine mV_cV f9_text_12 tg_m4_readScript mCls4 (by decide) kk_109 (mC_deep (c4_readScript X I s x0 hz0) (by decide)) rfl rfl (Nat.le_of_ble_eq_true rfl) ?_
  refine mV_istore (L' := [.ref 0, .int x0, .int z0.1, mX0]) f9_text_15 (by decide) rfl rfl ?_
  refine mV_aload f9_text_16 rfl ?_
  refine mV_getP f9_text_17 (by decide) kk_0 rfl (pp_0_1 _) ?_
  refine mV_iload f9_text_20 rfl ?_
  by_cases h0 : x0 = 0
  · rw [if_pos h0] at hr
    refine mV_cV f9_text_21 tg_m8_script mCls8 (by decide) kk_2 (mC_deep (c8_script_0 X z0.2 s x0 h0) (by decide)) rfl rfl (Nat.le_of_ble_eq_true rfl) ?_
    refine mV_astore (L' := [.ref 0, .int x0, .int z0.1, .ref 15]) f9_text_24 (by decide) rfl rfl ?_
    refine mV_iload f9_text_25 rfl ?_
    refine mV_push f9_text_26 ?_
    refine mV_icmp_eq f9_text_27 (fun h1 => ?_) (fun h1 => ?_)
    · rw [if_pos h1] at hr
      refine mV_push f9_text_34 ?_
      have hr := Option.some.inj hr; subst hr
      exact mV_iret rfl rfl f9_text_35 hQ
    · rw [if_neg h1] at hr
      refine mV_aload f9_text_30 rfl ?_
      refine mV_ifnonnull f9_text_31 ?_
      refine mV_aload f9_text_36 rfl ?_
      refine mV_aload f9_text_37 rfl ?_
      refine mV_getP f9_text_38 (by decide) kk_0 rfl (pp_0_5 _) ?_
      refine mV_getP f9_text_41 (by decide) kk_109 rfl (pp_109_10 _) ?_
      obtain ⟨z1, hz1, hr⟩ := mBind hr
      refine mV_cV f9_text_44 tg_m6_copyFrom mCls6 (by decide) kk_15 (mC_deep (c6_copyFrom_15_114 X z0.2 s hz1) (by decide)) rfl rfl (Nat.le_of_ble_eq_true rfl) ?_
      refine mV_iload f9_text_47 rfl ?_
      refine mV_push f9_text_48 ?_
      obtain ⟨z2, hz2, hr⟩ := mBind hr
      have keyz2 : mV X m9_text 52 0 0 64 [.ref 0, mX0, .int z0.1, .ref 15] [] NN KK z2 (PP s) Q := by
        refine mV_iload f9_text_64 rfl ?_
        have hr := Option.some.inj hr; subst hr
        exact mV_iret rfl rfl f9_text_65 hQ
      clear hr
      have hr := hz2
      clear hz2
      refine mV_icmp_eq f9_text_49 (fun h2 => ?_) (fun h2 => ?_)
      · rw [if_pos h2] at hr
        refine mV_aload f9_text_57 rfl ?_
        refine mV_getP f9_text_58 (by decide) kk_0 rfl (pp_0_4 _) ?_
        obtain ⟨z3, hz3, hr⟩ := mBind hr
        refine mV_cV f9_text_61 tg_m3_forget mCls3 (by decide) kk_77 (mC_deep (c3_forget X z1 s hz3) (by decide)) rfl rfl (Nat.le_of_ble_eq_true rfl) ?_
        have hr := Option.some.inj hr; subst hr
        refine mV_drop (L' := [.ref 0, mX0, .int z0.1, .ref 15]) (mSub_k (mSub_x (mSub_k (mSub_k mSub_n)))) ?_
        exact keyz2
      · rw [if_neg h2] at hr
        refine mV_iload f9_text_52 rfl ?_
        refine mV_push f9_text_53 ?_
        refine mV_icmp_ne f9_text_54 (fun h3 => ?_) (fun h3 => ?_)
        · rw [if_neg h3] at hr
          have hr := Option.some.inj hr; subst hr
          refine mV_drop (L' := [.ref 0, mX0, .int z0.1, .ref 15]) (mSub_k (mSub_x (mSub_k (mSub_k mSub_n)))) ?_
          exact keyz2
        · rw [if_pos h3] at hr
          refine mV_aload f9_text_57 rfl ?_
          refine mV_getP f9_text_58 (by decide) kk_0 rfl (pp_0_4 _) ?_
          obtain ⟨z4, hz4, hr⟩ := mBind hr
          refine mV_cV f9_text_61 tg_m3_forget mCls3 (by decide) kk_77 (mC_deep (c3_forget X z1 s hz4) (by decide)) rfl rfl (Nat.le_of_ble_eq_true rfl) ?_
          have hr := Option.some.inj hr; subst hr
          refine mV_drop (L' := [.ref 0, mX0, .int z0.1, .ref 15]) (mSub_k (mSub_x (mSub_k (mSub_k mSub_n)))) ?_
          exact keyz2
  rw [if_neg h0] at hr
  by_cases h4 : x0 = 1
  · rw [if_pos h4] at hr
    refine mV_cV f9_text_21 tg_m8_script mCls8 (by decide) kk_2 (mC_deep (c8_script_1 X z0.2 s x0 h4) (by decide)) rfl rfl (Nat.le_of_ble_eq_true rfl) ?_
    refine mV_astore (L' := [.ref 0, .int x0, .int z0.1, .ref 18]) f9_text_24 (by decide) rfl rfl ?_
    refine mV_iload f9_text_25 rfl ?_
    refine mV_push f9_text_26 ?_
    refine mV_icmp_eq f9_text_27 (fun h5 => ?_) (fun h5 => ?_)
    · rw [if_pos h5] at hr
      refine mV_push f9_text_34 ?_
      have hr := Option.some.inj hr; subst hr
      exact mV_iret rfl rfl f9_text_35 hQ
    · rw [if_neg h5] at hr
      refine mV_aload f9_text_30 rfl ?_
      refine mV_ifnonnull f9_text_31 ?_
      refine mV_aload f9_text_36 rfl ?_
      refine mV_aload f9_text_37 rfl ?_
      refine mV_getP f9_text_38 (by decide) kk_0 rfl (pp_0_5 _) ?_
      refine mV_getP f9_text_41 (by decide) kk_109 rfl (pp_109_10 _) ?_
      obtain ⟨z5, hz5, hr⟩ := mBind hr
      refine mV_cV f9_text_44 tg_m6_copyFrom mCls6 (by decide) kk_18 (mC_deep (c6_copyFrom_18_114 X z0.2 s hz5) (by decide)) rfl rfl (Nat.le_of_ble_eq_true rfl) ?_
      refine mV_iload f9_text_47 rfl ?_
      refine mV_push f9_text_48 ?_
      obtain ⟨z6, hz6, hr⟩ := mBind hr
      have keyz6 : mV X m9_text 52 0 0 64 [.ref 0, mX0, .int z0.1, .ref 18] [] NN KK z6 (PP s) Q := by
        refine mV_iload f9_text_64 rfl ?_
        have hr := Option.some.inj hr; subst hr
        exact mV_iret rfl rfl f9_text_65 hQ
      clear hr
      have hr := hz6
      clear hz6
      refine mV_icmp_eq f9_text_49 (fun h6 => ?_) (fun h6 => ?_)
      · rw [if_pos h6] at hr
        refine mV_aload f9_text_57 rfl ?_
        refine mV_getP f9_text_58 (by decide) kk_0 rfl (pp_0_4 _) ?_
        obtain ⟨z7, hz7, hr⟩ := mBind hr
        refine mV_cV f9_text_61 tg_m3_forget mCls3 (by decide) kk_77 (mC_deep (c3_forget X z5 s hz7) (by decide)) rfl rfl (Nat.le_of_ble_eq_true rfl) ?_
        have hr := Option.some.inj hr; subst hr
        refine mV_drop (L' := [.ref 0, mX0, .int z0.1, .ref 18]) (mSub_k (mSub_x (mSub_k (mSub_k mSub_n)))) ?_
        exact keyz6
      · rw [if_neg h6] at hr
        refine mV_iload f9_text_52 rfl ?_
        refine mV_push f9_text_53 ?_
        refine mV_icmp_ne f9_text_54 (fun h7 => ?_) (fun h7 => ?_)
        · rw [if_neg h7] at hr
          have hr := Option.some.inj hr; subst hr
          refine mV_drop (L' := [.ref 0, mX0, .int z0.1, .ref 18]) (mSub_k (mSub_x (mSub_k (mSub_k mSub_n)))) ?_
          exact keyz6
        · rw [if_pos h7] at hr
          refine mV_aload f9_text_57 rfl ?_
          refine mV_getP f9_text_58 (by decide) kk_0 rfl (pp_0_4 _) ?_
          obtain ⟨z8, hz8, hr⟩ := mBind hr
          refine mV_cV f9_text_61 tg_m3_forget mCls3 (by decide) kk_77 (mC_deep (c3_forget X z5 s hz8) (by decide)) rfl rfl (Nat.le_of_ble_eq_true rfl) ?_
          have hr := Option.some.inj hr; subst hr
          refine mV_drop (L' := [.ref 0, mX0, .int z0.1, .ref 18]) (mSub_k (mSub_x (mSub_k (mSub_k mSub_n)))) ?_
          exact keyz6
  rw [if_neg h4] at hr
  by_cases h8 : x0 = 2
  · rw [if_pos h8] at hr
    refine mV_cV f9_text_21 tg_m8_script mCls8 (by decide) kk_2 (mC_deep (c8_script_2 X z0.2 s x0 h8) (by decide)) rfl rfl (Nat.le_of_ble_eq_true rfl) ?_
    refine mV_astore (L' := [.ref 0, .int x0, .int z0.1, .ref 21]) f9_text_24 (by decide) rfl rfl ?_
    refine mV_iload f9_text_25 rfl ?_
    refine mV_push f9_text_26 ?_
    refine mV_icmp_eq f9_text_27 (fun h9 => ?_) (fun h9 => ?_)
    · rw [if_pos h9] at hr
      refine mV_push f9_text_34 ?_
      have hr := Option.some.inj hr; subst hr
      exact mV_iret rfl rfl f9_text_35 hQ
    · rw [if_neg h9] at hr
      refine mV_aload f9_text_30 rfl ?_
      refine mV_ifnonnull f9_text_31 ?_
      refine mV_aload f9_text_36 rfl ?_
      refine mV_aload f9_text_37 rfl ?_
      refine mV_getP f9_text_38 (by decide) kk_0 rfl (pp_0_5 _) ?_
      refine mV_getP f9_text_41 (by decide) kk_109 rfl (pp_109_10 _) ?_
      obtain ⟨z9, hz9, hr⟩ := mBind hr
      refine mV_cV f9_text_44 tg_m6_copyFrom mCls6 (by decide) kk_21 (mC_deep (c6_copyFrom_21_114 X z0.2 s hz9) (by decide)) rfl rfl (Nat.le_of_ble_eq_true rfl) ?_
      refine mV_iload f9_text_47 rfl ?_
      refine mV_push f9_text_48 ?_
      obtain ⟨z10, hz10, hr⟩ := mBind hr
      have keyz10 : mV X m9_text 52 0 0 64 [.ref 0, mX0, .int z0.1, .ref 21] [] NN KK z10 (PP s) Q := by
        refine mV_iload f9_text_64 rfl ?_
        have hr := Option.some.inj hr; subst hr
        exact mV_iret rfl rfl f9_text_65 hQ
      clear hr
      have hr := hz10
      clear hz10
      refine mV_icmp_eq f9_text_49 (fun h10 => ?_) (fun h10 => ?_)
      · rw [if_pos h10] at hr
        refine mV_aload f9_text_57 rfl ?_
        refine mV_getP f9_text_58 (by decide) kk_0 rfl (pp_0_4 _) ?_
        obtain ⟨z11, hz11, hr⟩ := mBind hr
        refine mV_cV f9_text_61 tg_m3_forget mCls3 (by decide) kk_77 (mC_deep (c3_forget X z9 s hz11) (by decide)) rfl rfl (Nat.le_of_ble_eq_true rfl) ?_
        have hr := Option.some.inj hr; subst hr
        refine mV_drop (L' := [.ref 0, mX0, .int z0.1, .ref 21]) (mSub_k (mSub_x (mSub_k (mSub_k mSub_n)))) ?_
        exact keyz10
      · rw [if_neg h10] at hr
        refine mV_iload f9_text_52 rfl ?_
        refine mV_push f9_text_53 ?_
        refine mV_icmp_ne f9_text_54 (fun h11 => ?_) (fun h11 => ?_)
        · rw [if_neg h11] at hr
          have hr := Option.some.inj hr; subst hr
          refine mV_drop (L' := [.ref 0, mX0, .int z0.1, .ref 21]) (mSub_k (mSub_x (mSub_k (mSub_k mSub_n)))) ?_
          exact keyz10
        · rw [if_pos h11] at hr
          refine mV_aload f9_text_57 rfl ?_
          refine mV_getP f9_text_58 (by decide) kk_0 rfl (pp_0_4 _) ?_
          obtain ⟨z12, hz12, hr⟩ := mBind hr
          refine mV_cV f9_text_61 tg_m3_forget mCls3 (by decide) kk_77 (mC_deep (c3_forget X z9 s hz12) (by decide)) rfl rfl (Nat.le_of_ble_eq_true rfl) ?_
          have hr := Option.some.inj hr; subst hr
          refine mV_drop (L' := [.ref 0, mX0, .int z0.1, .ref 21]) (mSub_k (mSub_x (mSub_k (mSub_k mSub_n)))) ?_
          exact keyz10
  rw [if_neg h8] at hr
  by_cases h12 : x0 = 3
  · rw [if_pos h12] at hr
    refine mV_cV f9_text_21 tg_m8_script mCls8 (by decide) kk_2 (mC_deep (c8_script_3 X z0.2 s x0 h12) (by decide)) rfl rfl (Nat.le_of_ble_eq_true rfl) ?_
    refine mV_astore (L' := [.ref 0, .int x0, .int z0.1, .ref 24]) f9_text_24 (by decide) rfl rfl ?_
    refine mV_iload f9_text_25 rfl ?_
    refine mV_push f9_text_26 ?_
    refine mV_icmp_eq f9_text_27 (fun h13 => ?_) (fun h13 => ?_)
    · rw [if_pos h13] at hr
      refine mV_push f9_text_34 ?_
      have hr := Option.some.inj hr; subst hr
      exact mV_iret rfl rfl f9_text_35 hQ
    · rw [if_neg h13] at hr
      refine mV_aload f9_text_30 rfl ?_
      refine mV_ifnonnull f9_text_31 ?_
      refine mV_aload f9_text_36 rfl ?_
      refine mV_aload f9_text_37 rfl ?_
      refine mV_getP f9_text_38 (by decide) kk_0 rfl (pp_0_5 _) ?_
      refine mV_getP f9_text_41 (by decide) kk_109 rfl (pp_109_10 _) ?_
      obtain ⟨z13, hz13, hr⟩ := mBind hr
      refine mV_cV f9_text_44 tg_m6_copyFrom mCls6 (by decide) kk_24 (mC_deep (c6_copyFrom_24_114 X z0.2 s hz13) (by decide)) rfl rfl (Nat.le_of_ble_eq_true rfl) ?_
      refine mV_iload f9_text_47 rfl ?_
      refine mV_push f9_text_48 ?_
      obtain ⟨z14, hz14, hr⟩ := mBind hr
      have keyz14 : mV X m9_text 52 0 0 64 [.ref 0, mX0, .int z0.1, .ref 24] [] NN KK z14 (PP s) Q := by
        refine mV_iload f9_text_64 rfl ?_
        have hr := Option.some.inj hr; subst hr
        exact mV_iret rfl rfl f9_text_65 hQ
      clear hr
      have hr := hz14
      clear hz14
      refine mV_icmp_eq f9_text_49 (fun h14 => ?_) (fun h14 => ?_)
      · rw [if_pos h14] at hr
        refine mV_aload f9_text_57 rfl ?_
        refine mV_getP f9_text_58 (by decide) kk_0 rfl (pp_0_4 _) ?_
        obtain ⟨z15, hz15, hr⟩ := mBind hr
        refine mV_cV f9_text_61 tg_m3_forget mCls3 (by decide) kk_77 (mC_deep (c3_forget X z13 s hz15) (by decide)) rfl rfl (Nat.le_of_ble_eq_true rfl) ?_
        have hr := Option.some.inj hr; subst hr
        refine mV_drop (L' := [.ref 0, mX0, .int z0.1, .ref 24]) (mSub_k (mSub_x (mSub_k (mSub_k mSub_n)))) ?_
        exact keyz14
      · rw [if_neg h14] at hr
        refine mV_iload f9_text_52 rfl ?_
        refine mV_push f9_text_53 ?_
        refine mV_icmp_ne f9_text_54 (fun h15 => ?_) (fun h15 => ?_)
        · rw [if_neg h15] at hr
          have hr := Option.some.inj hr; subst hr
          refine mV_drop (L' := [.ref 0, mX0, .int z0.1, .ref 24]) (mSub_k (mSub_x (mSub_k (mSub_k mSub_n)))) ?_
          exact keyz14
        · rw [if_pos h15] at hr
          refine mV_aload f9_text_57 rfl ?_
          refine mV_getP f9_text_58 (by decide) kk_0 rfl (pp_0_4 _) ?_
          obtain ⟨z16, hz16, hr⟩ := mBind hr
          refine mV_cV f9_text_61 tg_m3_forget mCls3 (by decide) kk_77 (mC_deep (c3_forget X z13 s hz16) (by decide)) rfl rfl (Nat.le_of_ble_eq_true rfl) ?_
          have hr := Option.some.inj hr; subst hr
          refine mV_drop (L' := [.ref 0, mX0, .int z0.1, .ref 24]) (mSub_k (mSub_x (mSub_k (mSub_k mSub_n)))) ?_
          exact keyz14
  rw [if_neg h12] at hr
  refine mV_cV f9_text_21 tg_m8_script mCls8 (by decide) kk_2 (mC_deep (c8_script_n X z0.2 s x0 h0 h4 h8 h12) (by decide)) rfl rfl (Nat.le_of_ble_eq_true rfl) ?_
  refine mV_astoreN (L' := [.ref 0, .int x0, .int z0.1, .null]) f9_text_24 (by decide) rfl rfl ?_
  refine mV_iload f9_text_25 rfl ?_
  refine mV_push f9_text_26 ?_
  refine mV_icmp_eq f9_text_27 (fun h16 => ?_) (fun h16 => ?_)
  · rw [if_pos h16] at hr
    refine mV_push f9_text_34 ?_
    have hr := Option.some.inj hr; subst hr
    exact mV_iret rfl rfl f9_text_35 hQ
  · rw [if_neg h16] at hr
    refine mV_aloadN f9_text_30 rfl ?_
    refine mV_ifnonnullN f9_text_31 ?_
    refine mV_push f9_text_34 ?_
    have hr := Option.some.inj hr; subst hr
    exact mV_iret rfl rfl f9_text_35 hQ
theorem c9_text (X : Nat × (Nat → Int32)) (I : mI) (s : Nat) (x0 : Int32) {res : Int32 × mI} (hr : r9_text I x0 = some res) : mC X m9_text 52 0 0 [.ref 0, .int x0] NN KK I (PP s) (mRet (some (.int res.1)) NN KK res.2 (PP s)) :=
  mC_of (L0 := [.ref 0, .int x0, mX0, mX0]) rfl (Nat.le_of_ble_eq_true rfl) (w9_text X I s x0 _ hr (mRet_ok _ _ _ _ _))
def r9_fault (I : mI) (x0 : Int32) : Int32 := if (x0 : Int32) = (0 : Int32) then I 109 11 else if (x0 : Int32) = (1 : Int32) then I 109 12 else (-1)
set_option maxHeartbeats 4000000 in
set_option maxRecDepth 100000 in
theorem w9_fault (X : Nat × (Nat → Int32)) (I : mI) (s : Nat) (x0 : Int32) (Q : mQ) {res : Int32} (hr : r9_fault I x0 = res) (hQ : Q (some (.int res)) NN KK I (PP s)) : mV X m9_fault 0 0 0 0 [.ref 0, .int x0] [] NN KK I (PP s) Q := by
  unfold r9_fault at hr
  refine mV_iload f9_fault_0 rfl ?_
  refine mV_if_ne f9_fault_1 (fun h0 => ?_) (fun h0 => ?_)
  · rw [if_neg h0] at hr
    refine mV_iload f9_fault_14 rfl ?_
    refine mV_push f9_fault_15 ?_
    refine mV_icmp_ne f9_fault_16 (fun h1 => ?_) (fun h1 => ?_)
    · rw [if_neg h1] at hr
      refine mV_push f9_fault_29 ?_
      subst hr
      exact mV_iret rfl rfl f9_fault_30 hQ
    · rw [if_pos h1] at hr
      refine mV_aload f9_fault_19 rfl ?_
      refine mV_getP f9_fault_20 (by decide) kk_0 rfl (pp_0_5 _) ?_
      refine mV_gI (I 109 12) f9_fault_23 (by decide) kk_109 rfl rfl ?_
      refine mV_goto f9_fault_26 ?_
      subst hr
      exact mV_iret rfl rfl f9_fault_30 hQ
  · rw [if_pos h0] at hr
    refine mV_aload f9_fault_4 rfl ?_
    refine mV_getP f9_fault_5 (by decide) kk_0 rfl (pp_0_5 _) ?_
    refine mV_gI (I 109 11) f9_fault_8 (by decide) kk_109 rfl rfl ?_
    refine mV_goto f9_fault_11 ?_
    subst hr
    exact mV_iret rfl rfl f9_fault_30 hQ
theorem c9_fault (X : Nat × (Nat → Int32)) (I : mI) (s : Nat) (x0 : Int32) {res : Int32} (hr : r9_fault I x0 = res) : mC X m9_fault 0 0 0 [.ref 0, .int x0] NN KK I (PP s) (mRet (some (.int res)) NN KK I (PP s)) :=
  mC_of (L0 := [.ref 0, .int x0]) rfl (Nat.le_of_ble_eq_true rfl) (w9_fault X I s x0 _ hr (mRet_ok _ _ _ _ _))
def r5_askNow (I : mI) (s : Nat) (x0 : Int32) (x1 : Int32) (x2 : Int32) (x3 : Int32) : Option (Int32 × mI × Nat) := if ((r0_knows I x1 x2) : Int32) = (0 : Int32) then some ((-1), I, s) else (r5_wake I s).bind fun z0 => (r5_seat z0 3 x1 x2).bind fun z1 => (if (x3 : Int32) < (0 : Int32) then some z1 else if (8 : Int32) ≤ (x3 : Int32) then some z1 else (mLd (mW z1 40 7 x3) 7 8 x3).bind fun z3 => some (mW (mW z1 40 7 x3) 40 6 z3) : Option (mI)).bind fun z2 => (r5_ask z2 3 x0).bind fun z4 => some (z4.1, z4.2, 3)
set_option maxHeartbeats 4000000 in
set_option maxRecDepth 100000 in
theorem w5_askNow (X : Nat × (Nat → Int32)) (I : mI) (s : Nat) (hs : mStg s) (x0 : Int32) (x1 : Int32) (x2 : Int32) (x3 : Int32) (Q : mQ) {res : Int32 × mI × Nat} (hr : r5_askNow I s x0 x1 x2 x3 = some res) (hQ : Q (some (.int res.1)) NN KK res.2.1 (PP res.2.2)) : mV X m5_askNow 3 0 0 0 [.ref 1, .int x0, .int x1, .int x2, .int x3] [] NN KK I (PP s) Q := by
  unfold r5_askNow at hr
  refine mV_aload f5_askNow_0 rfl ?_
  refine mV_getP f5_askNow_1 (by decide) kk_1 rfl (pp_1_0 _) ?_
  refine mV_getP f5_askNow_4 (by decide) kk_2 rfl (pp_2_1 _) ?_
  refine mV_iload f5_askNow_7 rfl ?_
  refine mV_iload f5_askNow_8 rfl ?_
  refine mV_cV f5_askNow_9 tg_m0_knows mCls0 (by decide) kk_8 (mC_deep (c0_knows X I s x1 x2 rfl) (by decide)) rfl rfl (Nat.le_of_ble_eq_true rfl) ?_
  refine mV_if_ne f5_askNow_12 (fun h0 => ?_) (fun h0 => ?_)
  · rw [if_neg h0] at hr
    refine mV_aload f5_askNow_17 rfl ?_
    obtain ⟨z0, hz0, hr⟩ := mBind hr
    refine mV_cV f5_askNow_18 tg_m5_wake mCls5 (by decide) kk_1 (mC_deep (c5_wake X I s hz0) (by decide)) rfl rfl (Nat.le_of_ble_eq_true rfl) ?_
    refine mV_aload f5_askNow_21 rfl ?_
    refine mV_iload f5_askNow_22 rfl ?_
    refine mV_iload f5_askNow_23 rfl ?_
    obtain ⟨z1, hz1, hr⟩ := mBind hr
    refine mV_cV f5_askNow_24 tg_m5_seat mCls5 (by decide) kk_1 (mC_deep (c5_seat X z0 3 mStg_3 x1 x2 hz1) (by decide)) rfl rfl (Nat.le_of_ble_eq_true rfl) ?_
    refine mV_iload f5_askNow_27 rfl ?_
    obtain ⟨z2, hz2, hr⟩ := mBind hr
    have keyz2 : mV X m5_askNow 3 0 0 65 [.ref 1, .int x0, mX0, mX0, mX0] [] NN KK z2 (PP 3) Q := by
      refine mV_aload f5_askNow_65 rfl ?_
      refine mV_iload f5_askNow_66 rfl ?_
      obtain ⟨z4, hz4, hr⟩ := mBind hr
      refine mV_cV f5_askNow_67 tg_m5_ask mCls5 (by decide) kk_1 (mC_deep (c5_ask X z2 3 mStg_3 x0 hz4) (by decide)) rfl rfl (Nat.le_of_ble_eq_true rfl) ?_
      have hr := Option.some.inj hr; subst hr
      exact mV_iret rfl rfl f5_askNow_70 hQ
    clear hr
    have hr := hz2
    clear hz2
    refine mV_if_lt f5_askNow_29 (fun h1 => ?_) (fun h1 => ?_)
    · rw [if_pos h1] at hr
      have hr := Option.some.inj hr; subst hr
      refine mV_drop (L' := [.ref 1, .int x0, mX0, mX0, mX0]) (mSub_k (mSub_k (mSub_x (mSub_x (mSub_x mSub_n))))) ?_
      exact keyz2
    · rw [if_neg h1] at hr
      refine mV_iload f5_askNow_32 rfl ?_
      refine mV_push f5_askNow_34 ?_
      refine mV_icmp_ge f5_askNow_36 (fun h2 => ?_) (fun h2 => ?_)
      · rw [if_pos h2] at hr
        have hr := Option.some.inj hr; subst hr
        refine mV_drop (L' := [.ref 1, .int x0, mX0, mX0, mX0]) (mSub_k (mSub_k (mSub_x (mSub_x (mSub_x mSub_n))))) ?_
        exact keyz2
      · rw [if_neg h2] at hr
        refine mV_aload f5_askNow_39 rfl ?_
        refine mV_getP f5_askNow_40 (by decide) kk_1 rfl (pp_1_4 _) ?_
        refine mV_push f5_askNow_43 ?_
        refine mV_iload f5_askNow_45 rfl ?_
        refine mV_sto 7 f5_askNow_47 (by decide) kk_40 (by decide) ?_
        refine mV_aload f5_askNow_48 rfl ?_
        refine mV_getP f5_askNow_49 (by decide) kk_1 rfl (pp_1_4 _) ?_
        refine mV_push f5_askNow_52 ?_
        refine mV_aload f5_askNow_54 rfl ?_
        refine mV_getP f5_askNow_55 (by decide) kk_1 rfl (pp_1_2 _) ?_
        refine mV_getP f5_askNow_58 (by decide) kk_3 rfl (pp_3_3 _) ?_
        refine mV_iload f5_askNow_61 rfl ?_
        obtain ⟨z3, hz3, hr⟩ := mBind hr
        refine mV_ldO f5_askNow_63 (by decide) kk_7 hz3 ?_
        refine mV_sto 6 f5_askNow_64 (by decide) kk_40 (by decide) ?_
        have hr := Option.some.inj hr; subst hr
        refine mV_drop (L' := [.ref 1, .int x0, mX0, mX0, mX0]) (mSub_k (mSub_k (mSub_x (mSub_x (mSub_x mSub_n))))) ?_
        exact keyz2
  · rw [if_pos h0] at hr
    refine mV_push f5_askNow_15 ?_
    have hr := Option.some.inj hr; subst hr
    exact mV_iret rfl rfl f5_askNow_16 hQ
theorem c5_askNow (X : Nat × (Nat → Int32)) (I : mI) (s : Nat) (hs : mStg s) (x0 : Int32) (x1 : Int32) (x2 : Int32) (x3 : Int32) {res : Int32 × mI × Nat} (hr : r5_askNow I s x0 x1 x2 x3 = some res) : mC X m5_askNow 3 0 0 [.ref 1, .int x0, .int x1, .int x2, .int x3] NN KK I (PP s) (mRet (some (.int res.1)) NN KK res.2.1 (PP res.2.2)) :=
  mC_of (L0 := [.ref 1, .int x0, .int x1, .int x2, .int x3]) rfl (Nat.le_of_ble_eq_true rfl) (w5_askNow X I s hs x0 x1 x2 x3 _ hr (mRet_ok _ _ _ _ _))
def r6_cell_24 (I : mI) (x0 : Int32) (x1 : Int32) : Option (Int32) := (if (((x0 * 9) + x1) : Int32) < (0 : Int32) then some 0 else if (144 : Int32) ≤ (((x0 * 9) + x1) : Int32) then some 0 else (mLd I 25 144 ((x0 * 9) + x1)).bind fun z1 => some z1 : Option (Int32)).bind fun z0 => some z0
set_option maxHeartbeats 4000000 in
set_option maxRecDepth 100000 in
theorem w6_cell_24 (X : Nat × (Nat → Int32)) (I : mI) (s : Nat) (x0 : Int32) (x1 : Int32) (Q : mQ) {res : Int32} (hr : r6_cell_24 I x0 x1 = some res) (hQ : Q (some (.int res)) NN KK I (PP s)) : mV X m6_cell 0 0 0 0 [.ref 24, .int x0, .int x1, mX0] [] NN KK I (PP s) Q := by
  unfold r6_cell_24 at hr
  refine mV_iload f6_cell_0 rfl ?_
  refine mV_push f6_cell_1 ?_
  refine mV_imul f6_cell_3 ?_
  refine mV_iload f6_cell_4 rfl ?_
  refine mV_iadd f6_cell_5 ?_
  refine mV_istore (L' := [.ref 24, .int x0, .int x1, .int ((x0 * 9) + x1)]) f6_cell_6 (by decide) rfl rfl ?_
  refine mV_iload f6_cell_7 rfl ?_
  obtain ⟨z0, hz0, hr⟩ := mBind hr
  have keyz0 : mV X m6_cell 0 0 0 30 [.ref 24, mX0, mX0, mX0] [.int z0] NN KK I (PP s) Q := by
    have hr := Option.some.inj hr; subst hr
    exact mV_iret rfl rfl f6_cell_30 hQ
  clear hr
  have hr := hz0
  clear hz0
  refine mV_if_lt f6_cell_8 (fun h0 => ?_) (fun h0 => ?_)
  · rw [if_pos h0] at hr
    refine mV_push f6_cell_29 ?_
    have hr := Option.some.inj hr; subst hr
    refine mV_drop (L' := [.ref 24, mX0, mX0, mX0]) (mSub_k (mSub_x (mSub_x (mSub_x mSub_n)))) ?_
    exact keyz0
  · rw [if_neg h0] at hr
    refine mV_iload f6_cell_11 rfl ?_
    refine mV_aload f6_cell_12 rfl ?_
    refine mV_getP f6_cell_13 (by decide) kk_24 rfl (pp_24_0 _) ?_
    refine mV_alen f6_cell_16 (by decide) kk_25 ?_
    refine mV_as 144 (by decide) ?_
    refine mV_icmp_ge f6_cell_17 (fun h1 => ?_) (fun h1 => ?_)
    · rw [if_pos h1] at hr
      refine mV_push f6_cell_29 ?_
      have hr := Option.some.inj hr; subst hr
      refine mV_drop (L' := [.ref 24, mX0, mX0, mX0]) (mSub_k (mSub_x (mSub_x (mSub_x mSub_n)))) ?_
      exact keyz0
    · rw [if_neg h1] at hr
      refine mV_aload f6_cell_20 rfl ?_
      refine mV_getP f6_cell_21 (by decide) kk_24 rfl (pp_24_0 _) ?_
      refine mV_iload f6_cell_24 rfl ?_
      obtain ⟨z1, hz1, hr⟩ := mBind hr
      refine mV_ldO f6_cell_25 (by decide) kk_25 hz1 ?_
      refine mV_goto f6_cell_26 ?_
      have hr := Option.some.inj hr; subst hr
      refine mV_drop (L' := [.ref 24, mX0, mX0, mX0]) (mSub_k (mSub_x (mSub_x (mSub_x mSub_n)))) ?_
      exact keyz0
theorem c6_cell_24 (X : Nat × (Nat → Int32)) (I : mI) (s : Nat) (x0 : Int32) (x1 : Int32) {res : Int32} (hr : r6_cell_24 I x0 x1 = some res) : mC X m6_cell 0 0 0 [.ref 24, .int x0, .int x1] NN KK I (PP s) (mRet (some (.int res)) NN KK I (PP s)) :=
  mC_of (L0 := [.ref 24, .int x0, .int x1, mX0]) rfl (Nat.le_of_ble_eq_true rfl) (w6_cell_24 X I s x0 x1 _ hr (mRet_ok _ _ _ _ _))
def l8_likeOf_4 (I : mI) (k1 : Int32) : Nat → Int32 → Int32 → Option (Int32)
  | 0, _, _ => none
  | f + 1, y2, y3 => if (I 24 2 : Int32) ≤ (y3 : Int32) then some y2 else (r6_cell_24 I y3 0).bind fun z0 => (r6_cell_24 I y3 1).bind fun z1 => (if (z0 : Int32) = (k1 : Int32) then some ((1 : Int32) <<< (z1 &&& 31)) else if (z1 : Int32) = (k1 : Int32) then some ((1 : Int32) <<< (z0 &&& 31)) else some 0 : Option (Int32)).bind fun z2 => l8_likeOf_4 I k1 f (y2 ||| z2) (y3 + 1)
def r8_likeOf (I : mI) (x0 : Int32) : Option (Int32) := (l8_likeOf_4 I x0 FU 0 0).bind fun z0 => some z0
set_option maxHeartbeats 4000000 in
set_option maxRecDepth 100000 in
theorem t8_likeOf_4 (X : Nat × (Nat → Int32)) (Q : mQ) (s : Nat) (I : mI) (k1 : Int32) : ∀ (f : Nat) (y2 : Int32) (y3 : Int32) (z : Int32), l8_likeOf_4 I k1 f y2 y3 = some z → mV X m8_likeOf 1 0 0 73 [.ref 2, .int k1, .int z, mX0, mX0, mX0] [] NN KK I (PP s) Q → mV X m8_likeOf 1 0 0 4 [.ref 2, .int k1, .int y2, .int y3, mX0, mX0] [] NN KK I (PP s) Q := by
  intro f
  induction f with
  | zero => intro y2 y3 z hr hk; cases hr
  | succ f ih =>
    intro y2 y3 z hr hk
    unfold l8_likeOf_4 at hr
    refine mV_iload f8_likeOf_4 rfl ?_
    refine mV_aload f8_likeOf_5 rfl ?_
    refine mV_getP f8_likeOf_6 (by decide) kk_2 rfl (pp_2_5 _) ?_
    refine mV_gI (I 24 2) f8_likeOf_9 (by decide) kk_24 rfl rfl ?_
    refine mV_icmp_ge f8_likeOf_12 (fun h0 => ?_) (fun h0 => ?_)
    · rw [if_pos h0] at hr
      have hr := Option.some.inj hr; subst hr
      refine mV_drop (L' := [.ref 2, .int k1, .int y2, mX0, mX0, mX0]) (mSub_k (mSub_k (mSub_k (mSub_x (mSub_x (mSub_x mSub_n)))))) ?_
      exact hk
    · rw [if_neg h0] at hr
      refine mV_aload f8_likeOf_15 rfl ?_
      refine mV_getP f8_likeOf_16 (by decide) kk_2 rfl (pp_2_5 _) ?_
      refine mV_iload f8_likeOf_19 rfl ?_
      refine mV_push f8_likeOf_20 ?_
      obtain ⟨z0, hz0, hr⟩ := mBind hr
      refine mV_cV f8_likeOf_21 tg_m6_cell mCls6 (by decide) kk_24 (mC_deep (c6_cell_24 X I s y3 0 hz0) (by decide)) rfl rfl (Nat.le_of_ble_eq_true rfl) ?_
      refine mV_istore (L' := [.ref 2, .int k1, .int y2, .int y3, .int z0, mX0]) f8_likeOf_24 (by decide) rfl rfl ?_
      refine mV_aload f8_likeOf_26 rfl ?_
      refine mV_getP f8_likeOf_27 (by decide) kk_2 rfl (pp_2_5 _) ?_
      refine mV_iload f8_likeOf_30 rfl ?_
      refine mV_push f8_likeOf_31 ?_
      obtain ⟨z1, hz1, hr⟩ := mBind hr
      refine mV_cV f8_likeOf_32 tg_m6_cell mCls6 (by decide) kk_24 (mC_deep (c6_cell_24 X I s y3 1 hz1) (by decide)) rfl rfl (Nat.le_of_ble_eq_true rfl) ?_
      refine mV_istore (L' := [.ref 2, .int k1, .int y2, .int y3, .int z0, .int z1]) f8_likeOf_35 (by decide) rfl rfl ?_
      refine mV_iload f8_likeOf_37 rfl ?_
      refine mV_iload f8_likeOf_38 rfl ?_
      refine mV_iload f8_likeOf_40 rfl ?_
      obtain ⟨z2, hz2, hr⟩ := mBind hr
      have keyz2 : mV X m8_likeOf 1 0 0 65 [.ref 2, .int k1, mX0, .int y3, mX0, mX0] [.int z2, .int y2] NN KK I (PP s) Q := by
        refine mV_ior f8_likeOf_65 ?_
        refine mV_istore (L' := [.ref 2, .int k1, .int (y2 ||| z2), .int y3, mX0, mX0]) f8_likeOf_66 (by decide) rfl rfl ?_
        refine mV_iinc (y := (y3 + 1)) (L' := [.ref 2, .int k1, .int (y2 ||| z2), .int (y3 + 1), mX0, mX0]) f8_likeOf_67 rfl rfl (by decide) rfl rfl ?_
        refine mV_goto f8_likeOf_70 ?_
        exact ih (y2 ||| z2) (y3 + 1) _ hr hk
      clear hr
      have hr := hz2
      clear hz2
      refine mV_icmp_ne f8_likeOf_41 (fun h1 => ?_) (fun h1 => ?_)
      · rw [if_neg h1] at hr
        refine mV_iload f8_likeOf_51 rfl ?_
        refine mV_iload f8_likeOf_53 rfl ?_
        refine mV_icmp_ne f8_likeOf_54 (fun h2 => ?_) (fun h2 => ?_)
        · rw [if_neg h2] at hr
          refine mV_push f8_likeOf_64 ?_
          have hr := Option.some.inj hr; subst hr
          refine mV_drop (L' := [.ref 2, .int k1, mX0, .int y3, mX0, mX0]) (mSub_k (mSub_k (mSub_x (mSub_k (mSub_x (mSub_x mSub_n)))))) ?_
          exact keyz2
        · rw [if_pos h2] at hr
          refine mV_push f8_likeOf_57 ?_
          refine mV_iload f8_likeOf_58 rfl ?_
          refine mV_ishl f8_likeOf_60 ?_
          refine mV_goto f8_likeOf_61 ?_
          have hr := Option.some.inj hr; subst hr
          refine mV_drop (L' := [.ref 2, .int k1, mX0, .int y3, mX0, mX0]) (mSub_k (mSub_k (mSub_x (mSub_k (mSub_x (mSub_x mSub_n)))))) ?_
          exact keyz2
      · rw [if_pos h1] at hr
        refine mV_push f8_likeOf_44 ?_
        refine mV_iload f8_likeOf_45 rfl ?_
        refine mV_ishl f8_likeOf_47 ?_
        refine mV_goto f8_likeOf_48 ?_
        have hr := Option.some.inj hr; subst hr
        refine mV_drop (L' := [.ref 2, .int k1, mX0, .int y3, mX0, mX0]) (mSub_k (mSub_k (mSub_x (mSub_k (mSub_x (mSub_x mSub_n)))))) ?_
        exact keyz2
set_option maxHeartbeats 4000000 in
set_option maxRecDepth 100000 in
theorem w8_likeOf (X : Nat × (Nat → Int32)) (I : mI) (s : Nat) (x0 : Int32) (Q : mQ) {res : Int32} (hr : r8_likeOf I x0 = some res) (hQ : Q (some (.int res)) NN KK I (PP s)) : mV X m8_likeOf 1 0 0 0 [.ref 2, .int x0, mX0, mX0, mX0, mX0] [] NN KK I (PP s) Q := by
  unfold r8_likeOf at hr
  refine mV_push f8_likeOf_0 ?_
  refine mV_istore (L' := [.ref 2, .int x0, .int 0, mX0, mX0, mX0]) f8_likeOf_1 (by decide) rfl rfl ?_
  refine mV_push f8_likeOf_2 ?_
  refine mV_istore (L' := [.ref 2, .int x0, .int 0, .int 0, mX0, mX0]) f8_likeOf_3 (by decide) rfl rfl ?_
  obtain ⟨z0, hz0, hr⟩ := mBind hr
  refine t8_likeOf_4 X Q s I x0 FU 0 0 _ hz0 ?_
  refine mV_iload f8_likeOf_73 rfl ?_
  have hr := Option.some.inj hr; subst hr
  exact mV_iret rfl rfl f8_likeOf_74 hQ
theorem c8_likeOf (X : Nat × (Nat → Int32)) (I : mI) (s : Nat) (x0 : Int32) {res : Int32} (hr : r8_likeOf I x0 = some res) : mC X m8_likeOf 1 0 0 [.ref 2, .int x0] NN KK I (PP s) (mRet (some (.int res)) NN KK I (PP s)) :=
  mC_of (L0 := [.ref 2, .int x0, mX0, mX0, mX0, mX0]) rfl (Nat.le_of_ble_eq_true rfl) (w8_likeOf X I s x0 _ hr (mRet_ok _ _ _ _ _))
def r9_of (I : mI) (s : Nat) (x0 : Int32) (x1 : Int32) : Option (Int32 × mI × Nat) := if ((r0_hasPiece I x0) : Int32) = (0 : Int32) then some ((-1), I, s) else if (x1 : Int32) < (10 : Int32) then if (x1 : Int32) = 0 then (mLd I 9 12 x0).bind fun z0 => some (z0, I, s) else if (x1 : Int32) = 1 then (mLd I 10 12 x0).bind fun z1 => some (z1, I, s) else if (x1 : Int32) = 2 then (mLd I 11 12 x0).bind fun z2 => some (z2, I, s) else if (x1 : Int32) = 3 then (mLd I 4 12 x0).bind fun z3 => some (z3, I, s) else if (x1 : Int32) = 4 then (mLd I 5 12 x0).bind fun z4 => some (z4, I, s) else if (x1 : Int32) = 5 then (r8_likeOf I x0).bind fun z5 => some (z5, I, s) else some ((-1), I, s) else if ((r0_hasPlayer I (x1 - 10)) : Int32) = (0 : Int32) then if (x1 : Int32) = 0 then (mLd I 9 12 x0).bind fun z6 => some (z6, I, s) else if (x1 : Int32) = 1 then (mLd I 10 12 x0).bind fun z7 => some (z7, I, s) else if (x1 : Int32) = 2 then (mLd I 11 12 x0).bind fun z8 => some (z8, I, s) else if (x1 : Int32) = 3 then (mLd I 4 12 x0).bind fun z9 => some (z9, I, s) else if (x1 : Int32) = 4 then (mLd I 5 12 x0).bind fun z10 => some (z10, I, s) else if (x1 : Int32) = 5 then (r8_likeOf I x0).bind fun z11 => some (z11, I, s) else some ((-1), I, s) else (r5_askNow I s 0 (x1 - 10) x0 (-1)).bind fun z12 => some (z12.1, z12.2.1, z12.2.2)
set_option maxHeartbeats 4000000 in
set_option maxRecDepth 100000 in
theorem w9_of (X : Nat × (Nat → Int32)) (I : mI) (s : Nat) (hs : mStg s) (x0 : Int32) (x1 : Int32) (Q : mQ) {res : Int32 × mI × Nat} (hr : r9_of I s x0 x1 = some res) (hQ : Q (some (.int res.1)) NN KK res.2.1 (PP res.2.2)) : mV X m9_of 4 0 0 0 [.ref 0, .int x0, .int x1] [] NN KK I (PP s) Q := by
  unfold r9_of at hr
  refine mV_aload f9_of_0 rfl ?_
  refine mV_getP f9_of_1 (by decide) kk_0 rfl (pp_0_1 _) ?_
  refine mV_getP f9_of_4 (by decide) kk_2 rfl (pp_2_1 _) ?_
  refine mV_iload f9_of_7 rfl ?_
  refine mV_cV f9_of_8 tg_m0_hasPiece mCls0 (by decide) kk_8 (mC_deep (c0_hasPiece X I s x0 rfl) (by decide)) rfl rfl (Nat.le_of_ble_eq_true rfl) ?_
  refine mV_if_ne f9_of_11 (fun h0 => ?_) (fun h0 => ?_)
  · rw [if_neg h0] at hr
    refine mV_iload f9_of_16 rfl ?_
    refine mV_push f9_of_17 ?_
    refine mV_icmp_lt f9_of_19 (fun h1 => ?_) (fun h1 => ?_)
    · rw [if_pos h1] at hr
      refine mV_iload f9_of_54 rfl ?_
      by_cases h2 : x1 = 0
      · rw [if_pos h2] at hr
        refine mV_tabEq (v := 0) f9_of_55 h2 (by decide) (by decide) (by decide) (by decide : (55 : Int) + 37 = (92 : Nat)) ?_
        refine mV_aload f9_of_92 rfl ?_
        refine mV_getP f9_of_93 (by decide) kk_0 rfl (pp_0_1 _) ?_
        refine mV_getP f9_of_96 (by decide) kk_2 rfl (pp_2_1 _) ?_
        refine mV_getP f9_of_99 (by decide) kk_8 rfl (pp_8_0 _) ?_
        refine mV_iload f9_of_102 rfl ?_
        obtain ⟨z0, hz0, hr⟩ := mBind hr
        refine mV_ldO f9_of_103 (by decide) kk_9 hz0 ?_
        have hr := Option.some.inj hr; subst hr
        exact mV_iret rfl rfl f9_of_104 hQ
      rw [if_neg h2] at hr
      by_cases h3 : x1 = 1
      · rw [if_pos h3] at hr
        refine mV_tabEq (v := 1) f9_of_55 h3 (by decide) (by decide) (by decide) (by decide : (55 : Int) + 50 = (105 : Nat)) ?_
        refine mV_aload f9_of_105 rfl ?_
        refine mV_getP f9_of_106 (by decide) kk_0 rfl (pp_0_1 _) ?_
        refine mV_getP f9_of_109 (by decide) kk_2 rfl (pp_2_1 _) ?_
        refine mV_getP f9_of_112 (by decide) kk_8 rfl (pp_8_1 _) ?_
        refine mV_iload f9_of_115 rfl ?_
        obtain ⟨z1, hz1, hr⟩ := mBind hr
        refine mV_ldO f9_of_116 (by decide) kk_10 hz1 ?_
        have hr := Option.some.inj hr; subst hr
        exact mV_iret rfl rfl f9_of_117 hQ
      rw [if_neg h3] at hr
      by_cases h4 : x1 = 2
      · rw [if_pos h4] at hr
        refine mV_tabEq (v := 2) f9_of_55 h4 (by decide) (by decide) (by decide) (by decide : (55 : Int) + 63 = (118 : Nat)) ?_
        refine mV_aload f9_of_118 rfl ?_
        refine mV_getP f9_of_119 (by decide) kk_0 rfl (pp_0_1 _) ?_
        refine mV_getP f9_of_122 (by decide) kk_2 rfl (pp_2_1 _) ?_
        refine mV_getP f9_of_125 (by decide) kk_8 rfl (pp_8_2 _) ?_
        refine mV_iload f9_of_128 rfl ?_
        obtain ⟨z2, hz2, hr⟩ := mBind hr
        refine mV_ldO f9_of_129 (by decide) kk_11 hz2 ?_
        have hr := Option.some.inj hr; subst hr
        exact mV_iret rfl rfl f9_of_130 hQ
      rw [if_neg h4] at hr
      by_cases h5 : x1 = 3
      · rw [if_pos h5] at hr
        refine mV_tabEq (v := 3) f9_of_55 h5 (by decide) (by decide) (by decide) (by decide : (55 : Int) + 76 = (131 : Nat)) ?_
        refine mV_aload f9_of_131 rfl ?_
        refine mV_getP f9_of_132 (by decide) kk_0 rfl (pp_0_1 _) ?_
        refine mV_getP f9_of_135 (by decide) kk_2 rfl (pp_2_0 _) ?_
        refine mV_getP f9_of_138 (by decide) kk_3 rfl (pp_3_0 _) ?_
        refine mV_iload f9_of_141 rfl ?_
        obtain ⟨z3, hz3, hr⟩ := mBind hr
        refine mV_ldO f9_of_142 (by decide) kk_4 hz3 ?_
        have hr := Option.some.inj hr; subst hr
        exact mV_iret rfl rfl f9_of_143 hQ
      rw [if_neg h5] at hr
      by_cases h6 : x1 = 4
      · rw [if_pos h6] at hr
        refine mV_tabEq (v := 4) f9_of_55 h6 (by decide) (by decide) (by decide) (by decide : (55 : Int) + 89 = (144 : Nat)) ?_
        refine mV_aload f9_of_144 rfl ?_
        refine mV_getP f9_of_145 (by decide) kk_0 rfl (pp_0_1 _) ?_
        refine mV_getP f9_of_148 (by decide) kk_2 rfl (pp_2_0 _) ?_
        refine mV_getP f9_of_151 (by decide) kk_3 rfl (pp_3_1 _) ?_
        refine mV_iload f9_of_154 rfl ?_
        obtain ⟨z4, hz4, hr⟩ := mBind hr
        refine mV_ldO f9_of_155 (by decide) kk_5 hz4 ?_
        have hr := Option.some.inj hr; subst hr
        exact mV_iret rfl rfl f9_of_156 hQ
      rw [if_neg h6] at hr
      by_cases h7 : x1 = 5
      · rw [if_pos h7] at hr
        refine mV_tabEq (v := 5) f9_of_55 h7 (by decide) (by decide) (by decide) (by decide : (55 : Int) + 102 = (157 : Nat)) ?_
        refine mV_aload f9_of_157 rfl ?_
        refine mV_getP f9_of_158 (by decide) kk_0 rfl (pp_0_1 _) ?_
        refine mV_iload f9_of_161 rfl ?_
        obtain ⟨z5, hz5, hr⟩ := mBind hr
        refine mV_cV f9_of_162 tg_m8_likeOf mCls8 (by decide) kk_2 (mC_deep (c8_likeOf X I s x0 hz5) (by decide)) rfl rfl (Nat.le_of_ble_eq_true rfl) ?_
        have hr := Option.some.inj hr; subst hr
        exact mV_iret rfl rfl f9_of_165 hQ
      rw [if_neg h7] at hr
      refine mV_tabNo f9_of_55 [0, 1, 2, 3, 4, 5] (by decide) (List.forall_mem_cons.mpr ⟨h2, (List.forall_mem_cons.mpr ⟨h3, (List.forall_mem_cons.mpr ⟨h4, (List.forall_mem_cons.mpr ⟨h5, (List.forall_mem_cons.mpr ⟨h6, (List.forall_mem_cons.mpr ⟨h7, (fun _ hc => absurd hc List.not_mem_nil)⟩)⟩)⟩)⟩)⟩)⟩) (by decide : (55 : Int) + 111 = (166 : Nat)) ?_
      refine mV_push f9_of_166 ?_
      have hr := Option.some.inj hr; subst hr
      exact mV_iret rfl rfl f9_of_167 hQ
    · rw [if_neg h1] at hr
      refine mV_aload f9_of_22 rfl ?_
      refine mV_getP f9_of_23 (by decide) kk_0 rfl (pp_0_1 _) ?_
      refine mV_getP f9_of_26 (by decide) kk_2 rfl (pp_2_1 _) ?_
      refine mV_iload f9_of_29 rfl ?_
      refine mV_push f9_of_30 ?_
      refine mV_isub f9_of_32 ?_
      refine mV_cV f9_of_33 tg_m0_hasPlayer mCls0 (by decide) kk_8 (mC_deep (c0_hasPlayer X I s (x1 - 10) rfl) (by decide)) rfl rfl (Nat.le_of_ble_eq_true rfl) ?_
      refine mV_if_eq f9_of_36 (fun h8 => ?_) (fun h8 => ?_)
      · rw [if_pos h8] at hr
        refine mV_iload f9_of_54 rfl ?_
        by_cases h9 : x1 = 0
        · rw [if_pos h9] at hr
          refine mV_tabEq (v := 0) f9_of_55 h9 (by decide) (by decide) (by decide) (by decide : (55 : Int) + 37 = (92 : Nat)) ?_
          refine mV_aload f9_of_92 rfl ?_
          refine mV_getP f9_of_93 (by decide) kk_0 rfl (pp_0_1 _) ?_
          refine mV_getP f9_of_96 (by decide) kk_2 rfl (pp_2_1 _) ?_
          refine mV_getP f9_of_99 (by decide) kk_8 rfl (pp_8_0 _) ?_
          refine mV_iload f9_of_102 rfl ?_
          obtain ⟨z6, hz6, hr⟩ := mBind hr
          refine mV_ldO f9_of_103 (by decide) kk_9 hz6 ?_
          have hr := Option.some.inj hr; subst hr
          exact mV_iret rfl rfl f9_of_104 hQ
        rw [if_neg h9] at hr
        by_cases h10 : x1 = 1
        · rw [if_pos h10] at hr
          refine mV_tabEq (v := 1) f9_of_55 h10 (by decide) (by decide) (by decide) (by decide : (55 : Int) + 50 = (105 : Nat)) ?_
          refine mV_aload f9_of_105 rfl ?_
          refine mV_getP f9_of_106 (by decide) kk_0 rfl (pp_0_1 _) ?_
          refine mV_getP f9_of_109 (by decide) kk_2 rfl (pp_2_1 _) ?_
          refine mV_getP f9_of_112 (by decide) kk_8 rfl (pp_8_1 _) ?_
          refine mV_iload f9_of_115 rfl ?_
          obtain ⟨z7, hz7, hr⟩ := mBind hr
          refine mV_ldO f9_of_116 (by decide) kk_10 hz7 ?_
          have hr := Option.some.inj hr; subst hr
          exact mV_iret rfl rfl f9_of_117 hQ
        rw [if_neg h10] at hr
        by_cases h11 : x1 = 2
        · rw [if_pos h11] at hr
          refine mV_tabEq (v := 2) f9_of_55 h11 (by decide) (by decide) (by decide) (by decide : (55 : Int) + 63 = (118 : Nat)) ?_
          refine mV_aload f9_of_118 rfl ?_
          refine mV_getP f9_of_119 (by decide) kk_0 rfl (pp_0_1 _) ?_
          refine mV_getP f9_of_122 (by decide) kk_2 rfl (pp_2_1 _) ?_
          refine mV_getP f9_of_125 (by decide) kk_8 rfl (pp_8_2 _) ?_
          refine mV_iload f9_of_128 rfl ?_
          obtain ⟨z8, hz8, hr⟩ := mBind hr
          refine mV_ldO f9_of_129 (by decide) kk_11 hz8 ?_
          have hr := Option.some.inj hr; subst hr
          exact mV_iret rfl rfl f9_of_130 hQ
        rw [if_neg h11] at hr
        by_cases h12 : x1 = 3
        · rw [if_pos h12] at hr
          refine mV_tabEq (v := 3) f9_of_55 h12 (by decide) (by decide) (by decide) (by decide : (55 : Int) + 76 = (131 : Nat)) ?_
          refine mV_aload f9_of_131 rfl ?_
          refine mV_getP f9_of_132 (by decide) kk_0 rfl (pp_0_1 _) ?_
          refine mV_getP f9_of_135 (by decide) kk_2 rfl (pp_2_0 _) ?_
          refine mV_getP f9_of_138 (by decide) kk_3 rfl (pp_3_0 _) ?_
          refine mV_iload f9_of_141 rfl ?_
          obtain ⟨z9, hz9, hr⟩ := mBind hr
          refine mV_ldO f9_of_142 (by decide) kk_4 hz9 ?_
          have hr := Option.some.inj hr; subst hr
          exact mV_iret rfl rfl f9_of_143 hQ
        rw [if_neg h12] at hr
        by_cases h13 : x1 = 4
        · rw [if_pos h13] at hr
          refine mV_tabEq (v := 4) f9_of_55 h13 (by decide) (by decide) (by decide) (by decide : (55 : Int) + 89 = (144 : Nat)) ?_
          refine mV_aload f9_of_144 rfl ?_
          refine mV_getP f9_of_145 (by decide) kk_0 rfl (pp_0_1 _) ?_
          refine mV_getP f9_of_148 (by decide) kk_2 rfl (pp_2_0 _) ?_
          refine mV_getP f9_of_151 (by decide) kk_3 rfl (pp_3_1 _) ?_
          refine mV_iload f9_of_154 rfl ?_
          obtain ⟨z10, hz10, hr⟩ := mBind hr
          refine mV_ldO f9_of_155 (by decide) kk_5 hz10 ?_
          have hr := Option.some.inj hr; subst hr
          exact mV_iret rfl rfl f9_of_156 hQ
        rw [if_neg h13] at hr
        by_cases h14 : x1 = 5
        · rw [if_pos h14] at hr
          refine mV_tabEq (v := 5) f9_of_55 h14 (by decide) (by decide) (by decide) (by decide : (55 : Int) + 102 = (157 : Nat)) ?_
          refine mV_aload f9_of_157 rfl ?_
          refine mV_getP f9_of_158 (by decide) kk_0 rfl (pp_0_1 _) ?_
          refine mV_iload f9_of_161 rfl ?_
          obtain ⟨z11, hz11, hr⟩ := mBind hr
          refine mV_cV f9_of_162 tg_m8_likeOf mCls8 (by decide) kk_2 (mC_deep (c8_likeOf X I s x0 hz11) (by decide)) rfl rfl (Nat.le_of_ble_eq_true rfl) ?_
          have hr := Option.some.inj hr; subst hr
          exact mV_iret rfl rfl f9_of_165 hQ
        rw [if_neg h14] at hr
        refine mV_tabNo f9_of_55 [0, 1, 2, 3, 4, 5] (by decide) (List.forall_mem_cons.mpr ⟨h9, (List.forall_mem_cons.mpr ⟨h10, (List.forall_mem_cons.mpr ⟨h11, (List.forall_mem_cons.mpr ⟨h12, (List.forall_mem_cons.mpr ⟨h13, (List.forall_mem_cons.mpr ⟨h14, (fun _ hc => absurd hc List.not_mem_nil)⟩)⟩)⟩)⟩)⟩)⟩) (by decide : (55 : Int) + 111 = (166 : Nat)) ?_
        refine mV_push f9_of_166 ?_
        have hr := Option.some.inj hr; subst hr
        exact mV_iret rfl rfl f9_of_167 hQ
      · rw [if_neg h8] at hr
        refine mV_aload f9_of_39 rfl ?_
        refine mV_getP f9_of_40 (by decide) kk_0 rfl (pp_0_0 _) ?_
        refine mV_push f9_of_43 ?_
        refine mV_iload f9_of_44 rfl ?_
        refine mV_push f9_of_45 ?_
        refine mV_isub f9_of_47 ?_
        refine mV_iload f9_of_48 rfl ?_
        refine mV_push f9_of_49 ?_
        obtain ⟨z12, hz12, hr⟩ := mBind hr
        refine mV_cV f9_of_50 tg_m5_askNow mCls5 (by decide) kk_1 (mC_deep (c5_askNow X I s hs 0 (x1 - 10) x0 (-1) hz12) (by decide)) rfl rfl (Nat.le_of_ble_eq_true rfl) ?_
        have hr := Option.some.inj hr; subst hr
        exact mV_iret rfl rfl f9_of_53 hQ
  · rw [if_pos h0] at hr
    refine mV_push f9_of_14 ?_
    have hr := Option.some.inj hr; subst hr
    exact mV_iret rfl rfl f9_of_15 hQ
theorem c9_of (X : Nat × (Nat → Int32)) (I : mI) (s : Nat) (hs : mStg s) (x0 : Int32) (x1 : Int32) {res : Int32 × mI × Nat} (hr : r9_of I s x0 x1 = some res) : mC X m9_of 4 0 0 [.ref 0, .int x0, .int x1] NN KK I (PP s) (mRet (some (.int res.1)) NN KK res.2.1 (PP res.2.2)) :=
  mC_of (L0 := [.ref 0, .int x0, .int x1]) rfl (Nat.le_of_ble_eq_true rfl) (w9_of X I s hs x0 x1 _ hr (mRet_ok _ _ _ _ _))
def r9_who (I : mI) (x0 : Int32) (x1 : Int32) : Option (Int32) := if ((r0_hasPlayer I x0) : Int32) = (0 : Int32) then some (-1) else if (x1 : Int32) = 0 then (mLd I 12 6 x0).bind fun z0 => some z0 else if (x1 : Int32) = 1 then (mLd I 13 6 x0).bind fun z1 => some z1 else if (x1 : Int32) = 2 then (mLd I 6 6 x0).bind fun z2 => some z2 else some (-1)
set_option maxHeartbeats 4000000 in
set_option maxRecDepth 100000 in
theorem w9_who (X : Nat × (Nat → Int32)) (I : mI) (s : Nat) (x0 : Int32) (x1 : Int32) (Q : mQ) {res : Int32} (hr : r9_who I x0 x1 = some res) (hQ : Q (some (.int res)) NN KK I (PP s)) : mV X m9_who 1 0 0 0 [.ref 0, .int x0, .int x1] [] NN KK I (PP s) Q := by
  unfold r9_who at hr
  refine mV_aload f9_who_0 rfl ?_
  refine mV_getP f9_who_1 (by decide) kk_0 rfl (pp_0_1 _) ?_
  refine mV_getP f9_who_4 (by decide) kk_2 rfl (pp_2_1 _) ?_
  refine mV_iload f9_who_7 rfl ?_
  refine mV_cV f9_who_8 tg_m0_hasPlayer mCls0 (by decide) kk_8 (mC_deep (c0_hasPlayer X I s x0 rfl) (by decide)) rfl rfl (Nat.le_of_ble_eq_true rfl) ?_
  refine mV_if_ne f9_who_11 (fun h0 => ?_) (fun h0 => ?_)
  · rw [if_neg h0] at hr
    refine mV_iload f9_who_16 rfl ?_
    by_cases h1 : x1 = 0
    · rw [if_pos h1] at hr
      refine mV_tabEq (v := 0) f9_who_17 h1 (by decide) (by decide) (by decide) (by decide : (17 : Int) + 27 = (44 : Nat)) ?_
      refine mV_aload f9_who_44 rfl ?_
      refine mV_getP f9_who_45 (by decide) kk_0 rfl (pp_0_1 _) ?_
      refine mV_getP f9_who_48 (by decide) kk_2 rfl (pp_2_1 _) ?_
      refine mV_getP f9_who_51 (by decide) kk_8 rfl (pp_8_3 _) ?_
      refine mV_iload f9_who_54 rfl ?_
      obtain ⟨z0, hz0, hr⟩ := mBind hr
      refine mV_ldO f9_who_55 (by decide) kk_12 hz0 ?_
      have hr := Option.some.inj hr; subst hr
      exact mV_iret rfl rfl f9_who_56 hQ
    rw [if_neg h1] at hr
    by_cases h2 : x1 = 1
    · rw [if_pos h2] at hr
      refine mV_tabEq (v := 1) f9_who_17 h2 (by decide) (by decide) (by decide) (by decide : (17 : Int) + 40 = (57 : Nat)) ?_
      refine mV_aload f9_who_57 rfl ?_
      refine mV_getP f9_who_58 (by decide) kk_0 rfl (pp_0_1 _) ?_
      refine mV_getP f9_who_61 (by decide) kk_2 rfl (pp_2_1 _) ?_
      refine mV_getP f9_who_64 (by decide) kk_8 rfl (pp_8_4 _) ?_
      refine mV_iload f9_who_67 rfl ?_
      obtain ⟨z1, hz1, hr⟩ := mBind hr
      refine mV_ldO f9_who_68 (by decide) kk_13 hz1 ?_
      have hr := Option.some.inj hr; subst hr
      exact mV_iret rfl rfl f9_who_69 hQ
    rw [if_neg h2] at hr
    by_cases h3 : x1 = 2
    · rw [if_pos h3] at hr
      refine mV_tabEq (v := 2) f9_who_17 h3 (by decide) (by decide) (by decide) (by decide : (17 : Int) + 53 = (70 : Nat)) ?_
      refine mV_aload f9_who_70 rfl ?_
      refine mV_getP f9_who_71 (by decide) kk_0 rfl (pp_0_1 _) ?_
      refine mV_getP f9_who_74 (by decide) kk_2 rfl (pp_2_0 _) ?_
      refine mV_getP f9_who_77 (by decide) kk_3 rfl (pp_3_2 _) ?_
      refine mV_iload f9_who_80 rfl ?_
      obtain ⟨z2, hz2, hr⟩ := mBind hr
      refine mV_ldO f9_who_81 (by decide) kk_6 hz2 ?_
      have hr := Option.some.inj hr; subst hr
      exact mV_iret rfl rfl f9_who_82 hQ
    rw [if_neg h3] at hr
    refine mV_tabNo f9_who_17 [0, 1, 2] (by decide) (List.forall_mem_cons.mpr ⟨h1, (List.forall_mem_cons.mpr ⟨h2, (List.forall_mem_cons.mpr ⟨h3, (fun _ hc => absurd hc List.not_mem_nil)⟩)⟩)⟩) (by decide : (17 : Int) + 66 = (83 : Nat)) ?_
    refine mV_push f9_who_83 ?_
    have hr := Option.some.inj hr; subst hr
    exact mV_iret rfl rfl f9_who_84 hQ
  · rw [if_pos h0] at hr
    refine mV_push f9_who_14 ?_
    have hr := Option.some.inj hr; subst hr
    exact mV_iret rfl rfl f9_who_15 hQ
theorem c9_who (X : Nat × (Nat → Int32)) (I : mI) (s : Nat) (x0 : Int32) (x1 : Int32) {res : Int32} (hr : r9_who I x0 x1 = some res) : mC X m9_who 1 0 0 [.ref 0, .int x0, .int x1] NN KK I (PP s) (mRet (some (.int res)) NN KK I (PP s)) :=
  mC_of (L0 := [.ref 0, .int x0, .int x1]) rfl (Nat.le_of_ble_eq_true rfl) (w9_who X I s x0 x1 _ hr (mRet_ok _ _ _ _ _))
def r9_string (I : mI) (x0 : Int32) (x1 : Int32) : Option (Int32) := if (x0 : Int32) < (0 : Int32) then some (-1) else if (x0 : Int32) < (8 : Int32) then (if (x1 : Int32) = (0 : Int32) then (mLd I 7 8 x0).bind fun z2 => some z2 else if (x1 : Int32) = (1 : Int32) then (mLd I 29 8 x0).bind fun z1 => some z1 else some (-1) : Option (Int32)).bind fun z0 => some z0 else some (-1)
set_option maxHeartbeats 4000000 in
set_option maxRecDepth 100000 in
theorem w9_string (X : Nat × (Nat → Int32)) (I : mI) (s : Nat) (x0 : Int32) (x1 : Int32) (Q : mQ) {res : Int32} (hr : r9_string I x0 x1 = some res) (hQ : Q (some (.int res)) NN KK I (PP s)) : mV X m9_string 0 0 0 0 [.ref 0, .int x0, .int x1] [] NN KK I (PP s) Q := by
  unfold r9_string at hr
  refine mV_iload f9_string_0 rfl ?_
  refine mV_if_lt f9_string_1 (fun h0 => ?_) (fun h0 => ?_)
  · rw [if_pos h0] at hr
    refine mV_push f9_string_10 ?_
    have hr := Option.some.inj hr; subst hr
    exact mV_iret rfl rfl f9_string_11 hQ
  · rw [if_neg h0] at hr
    refine mV_iload f9_string_4 rfl ?_
    refine mV_push f9_string_5 ?_
    refine mV_icmp_lt f9_string_7 (fun h1 => ?_) (fun h1 => ?_)
    · rw [if_pos h1] at hr
      refine mV_iload f9_string_12 rfl ?_
      obtain ⟨z0, hz0, hr⟩ := mBind hr
      have keyz0 : mV X m9_string 0 0 0 52 [.ref 0, mX0, mX0] [.int z0] NN KK I (PP s) Q := by
        have hr := Option.some.inj hr; subst hr
        exact mV_iret rfl rfl f9_string_52 hQ
      clear hr
      have hr := hz0
      clear hz0
      refine mV_if_ne f9_string_13 (fun h2 => ?_) (fun h2 => ?_)
      · rw [if_neg h2] at hr
        refine mV_iload f9_string_31 rfl ?_
        refine mV_push f9_string_32 ?_
        refine mV_icmp_ne f9_string_33 (fun h3 => ?_) (fun h3 => ?_)
        · rw [if_neg h3] at hr
          refine mV_push f9_string_51 ?_
          have hr := Option.some.inj hr; subst hr
          refine mV_drop (L' := [.ref 0, mX0, mX0]) (mSub_k (mSub_x (mSub_x mSub_n))) ?_
          exact keyz0
        · rw [if_pos h3] at hr
          refine mV_aload f9_string_36 rfl ?_
          refine mV_getP f9_string_37 (by decide) kk_0 rfl (pp_0_1 _) ?_
          refine mV_getP f9_string_40 (by decide) kk_2 rfl (pp_2_6 _) ?_
          refine mV_getP f9_string_43 (by decide) kk_27 rfl (pp_27_1 _) ?_
          refine mV_iload f9_string_46 rfl ?_
          obtain ⟨z1, hz1, hr⟩ := mBind hr
          refine mV_ldO f9_string_47 (by decide) kk_29 hz1 ?_
          refine mV_goto f9_string_48 ?_
          have hr := Option.some.inj hr; subst hr
          refine mV_drop (L' := [.ref 0, mX0, mX0]) (mSub_k (mSub_x (mSub_x mSub_n))) ?_
          exact keyz0
      · rw [if_pos h2] at hr
        refine mV_aload f9_string_16 rfl ?_
        refine mV_getP f9_string_17 (by decide) kk_0 rfl (pp_0_1 _) ?_
        refine mV_getP f9_string_20 (by decide) kk_2 rfl (pp_2_0 _) ?_
        refine mV_getP f9_string_23 (by decide) kk_3 rfl (pp_3_3 _) ?_
        refine mV_iload f9_string_26 rfl ?_
        obtain ⟨z2, hz2, hr⟩ := mBind hr
        refine mV_ldO f9_string_27 (by decide) kk_7 hz2 ?_
        refine mV_goto f9_string_28 ?_
        have hr := Option.some.inj hr; subst hr
        refine mV_drop (L' := [.ref 0, mX0, mX0]) (mSub_k (mSub_x (mSub_x mSub_n))) ?_
        exact keyz0
    · rw [if_neg h1] at hr
      refine mV_push f9_string_10 ?_
      have hr := Option.some.inj hr; subst hr
      exact mV_iret rfl rfl f9_string_11 hQ
theorem c9_string (X : Nat × (Nat → Int32)) (I : mI) (s : Nat) (x0 : Int32) (x1 : Int32) {res : Int32} (hr : r9_string I x0 x1 = some res) : mC X m9_string 0 0 0 [.ref 0, .int x0, .int x1] NN KK I (PP s) (mRet (some (.int res)) NN KK I (PP s)) :=
  mC_of (L0 := [.ref 0, .int x0, .int x1]) rfl (Nat.le_of_ble_eq_true rfl) (w9_string X I s x0 x1 _ hr (mRet_ok _ _ _ _ _))
def r9_damps (I : mI) (s : Nat) (x0 : Int32) (x1 : Int32) (x2 : Int32) : Option (Int32 × mI × Nat) := if ((r0_knows I x0 x1) : Int32) = (0 : Int32) then some ((-1), I, s) else if (x2 : Int32) < (0 : Int32) then some ((-1), I, s) else if (x2 : Int32) < (8 : Int32) then (r5_askNow I s 1 x0 x1 x2).bind fun z0 => some (z0.1, z0.2.1, z0.2.2) else some ((-1), I, s)
set_option maxHeartbeats 4000000 in
set_option maxRecDepth 100000 in
theorem w9_damps (X : Nat × (Nat → Int32)) (I : mI) (s : Nat) (hs : mStg s) (x0 : Int32) (x1 : Int32) (x2 : Int32) (Q : mQ) {res : Int32 × mI × Nat} (hr : r9_damps I s x0 x1 x2 = some res) (hQ : Q (some (.int res.1)) NN KK res.2.1 (PP res.2.2)) : mV X m9_damps 4 0 0 0 [.ref 0, .int x0, .int x1, .int x2] [] NN KK I (PP s) Q := by
  unfold r9_damps at hr
  refine mV_aload f9_damps_0 rfl ?_
  refine mV_getP f9_damps_1 (by decide) kk_0 rfl (pp_0_1 _) ?_
  refine mV_getP f9_damps_4 (by decide) kk_2 rfl (pp_2_1 _) ?_
  refine mV_iload f9_damps_7 rfl ?_
  refine mV_iload f9_damps_8 rfl ?_
  refine mV_cV f9_damps_9 tg_m0_knows mCls0 (by decide) kk_8 (mC_deep (c0_knows X I s x0 x1 rfl) (by decide)) rfl rfl (Nat.le_of_ble_eq_true rfl) ?_
  refine mV_if_eq f9_damps_12 (fun h0 => ?_) (fun h0 => ?_)
  · rw [if_pos h0] at hr
    refine mV_push f9_damps_25 ?_
    have hr := Option.some.inj hr; subst hr
    exact mV_iret rfl rfl f9_damps_26 hQ
  · rw [if_neg h0] at hr
    refine mV_iload f9_damps_15 rfl ?_
    refine mV_if_lt f9_damps_16 (fun h1 => ?_) (fun h1 => ?_)
    · rw [if_pos h1] at hr
      refine mV_push f9_damps_25 ?_
      have hr := Option.some.inj hr; subst hr
      exact mV_iret rfl rfl f9_damps_26 hQ
    · rw [if_neg h1] at hr
      refine mV_iload f9_damps_19 rfl ?_
      refine mV_push f9_damps_20 ?_
      refine mV_icmp_lt f9_damps_22 (fun h2 => ?_) (fun h2 => ?_)
      · rw [if_pos h2] at hr
        refine mV_aload f9_damps_27 rfl ?_
        refine mV_getP f9_damps_28 (by decide) kk_0 rfl (pp_0_0 _) ?_
        refine mV_push f9_damps_31 ?_
        refine mV_iload f9_damps_32 rfl ?_
        refine mV_iload f9_damps_33 rfl ?_
        refine mV_iload f9_damps_34 rfl ?_
        obtain ⟨z0, hz0, hr⟩ := mBind hr
        refine mV_cV f9_damps_35 tg_m5_askNow mCls5 (by decide) kk_1 (mC_deep (c5_askNow X I s hs 1 x0 x1 x2 hz0) (by decide)) rfl rfl (Nat.le_of_ble_eq_true rfl) ?_
        have hr := Option.some.inj hr; subst hr
        exact mV_iret rfl rfl f9_damps_38 hQ
      · rw [if_neg h2] at hr
        refine mV_push f9_damps_25 ?_
        have hr := Option.some.inj hr; subst hr
        exact mV_iret rfl rfl f9_damps_26 hQ
theorem c9_damps (X : Nat × (Nat → Int32)) (I : mI) (s : Nat) (hs : mStg s) (x0 : Int32) (x1 : Int32) (x2 : Int32) {res : Int32 × mI × Nat} (hr : r9_damps I s x0 x1 x2 = some res) : mC X m9_damps 4 0 0 [.ref 0, .int x0, .int x1, .int x2] NN KK I (PP s) (mRet (some (.int res.1)) NN KK res.2.1 (PP res.2.2)) :=
  mC_of (L0 := [.ref 0, .int x0, .int x1, .int x2]) rfl (Nat.le_of_ble_eq_true rfl) (w9_damps X I s hs x0 x1 x2 _ hr (mRet_ok _ _ _ _ _))
def r9_settles (I : mI) (s : Nat) (x0 : Int32) (x1 : Int32) : Option (Int32 × mI × Nat) := if ((r0_knows I x0 x1) : Int32) = (0 : Int32) then some ((-1), I, s) else (r5_askNow I s 2 x0 x1 (-1)).bind fun z0 => some (z0.1, z0.2.1, z0.2.2)
set_option maxHeartbeats 4000000 in
set_option maxRecDepth 100000 in
theorem w9_settles (X : Nat × (Nat → Int32)) (I : mI) (s : Nat) (hs : mStg s) (x0 : Int32) (x1 : Int32) (Q : mQ) {res : Int32 × mI × Nat} (hr : r9_settles I s x0 x1 = some res) (hQ : Q (some (.int res.1)) NN KK res.2.1 (PP res.2.2)) : mV X m9_settles 4 0 0 0 [.ref 0, .int x0, .int x1] [] NN KK I (PP s) Q := by
  unfold r9_settles at hr
  refine mV_aload f9_settles_0 rfl ?_
  refine mV_getP f9_settles_1 (by decide) kk_0 rfl (pp_0_1 _) ?_
  refine mV_getP f9_settles_4 (by decide) kk_2 rfl (pp_2_1 _) ?_
  refine mV_iload f9_settles_7 rfl ?_
  refine mV_iload f9_settles_8 rfl ?_
  refine mV_cV f9_settles_9 tg_m0_knows mCls0 (by decide) kk_8 (mC_deep (c0_knows X I s x0 x1 rfl) (by decide)) rfl rfl (Nat.le_of_ble_eq_true rfl) ?_
  refine mV_if_eq f9_settles_12 (fun h0 => ?_) (fun h0 => ?_)
  · rw [if_pos h0] at hr
    refine mV_push f9_settles_29 ?_
    have hr := Option.some.inj hr; subst hr
    exact mV_iret rfl rfl f9_settles_30 hQ
  · rw [if_neg h0] at hr
    refine mV_aload f9_settles_15 rfl ?_
    refine mV_getP f9_settles_16 (by decide) kk_0 rfl (pp_0_0 _) ?_
    refine mV_push f9_settles_19 ?_
    refine mV_iload f9_settles_20 rfl ?_
    refine mV_iload f9_settles_21 rfl ?_
    refine mV_push f9_settles_22 ?_
    obtain ⟨z0, hz0, hr⟩ := mBind hr
    refine mV_cV f9_settles_23 tg_m5_askNow mCls5 (by decide) kk_1 (mC_deep (c5_askNow X I s hs 2 x0 x1 (-1) hz0) (by decide)) rfl rfl (Nat.le_of_ble_eq_true rfl) ?_
    refine mV_goto f9_settles_26 ?_
    have hr := Option.some.inj hr; subst hr
    exact mV_iret rfl rfl f9_settles_30 hQ
theorem c9_settles (X : Nat × (Nat → Int32)) (I : mI) (s : Nat) (hs : mStg s) (x0 : Int32) (x1 : Int32) {res : Int32 × mI × Nat} (hr : r9_settles I s x0 x1 = some res) : mC X m9_settles 4 0 0 [.ref 0, .int x0, .int x1] NN KK I (PP s) (mRet (some (.int res.1)) NN KK res.2.1 (PP res.2.2)) :=
  mC_of (L0 := [.ref 0, .int x0, .int x1]) rfl (Nat.le_of_ble_eq_true rfl) (w9_settles X I s hs x0 x1 _ hr (mRet_ok _ _ _ _ _))
def r9_book (I : mI) (x0 : Int32) (x1 : Int32) : Option (Int32) := if (x0 : Int32) < (0 : Int32) then some (-2) else if (I 3 12 : Int32) ≤ (x0 : Int32) then some (-2) else if (150 : Int32) ≤ (x0 : Int32) then some (-2) else if (x1 : Int32) < (0 : Int32) then some (-2) else if (x1 : Int32) < (4 : Int32) then (mLd I 34 600 ((x0 * 4) + x1)).bind fun z0 => some z0 else some (-2)
set_option maxHeartbeats 4000000 in
set_option maxRecDepth 100000 in
theorem w9_book (X : Nat × (Nat → Int32)) (I : mI) (s : Nat) (x0 : Int32) (x1 : Int32) (Q : mQ) {res : Int32} (hr : r9_book I x0 x1 = some res) (hQ : Q (some (.int res)) NN KK I (PP s)) : mV X m9_book 0 0 0 0 [.ref 0, .int x0, .int x1] [] NN KK I (PP s) Q := by
  unfold r9_book at hr
  refine mV_iload f9_book_0 rfl ?_
  refine mV_if_lt f9_book_1 (fun h0 => ?_) (fun h0 => ?_)
  · rw [if_pos h0] at hr
    refine mV_push f9_book_34 ?_
    have hr := Option.some.inj hr; subst hr
    exact mV_iret rfl rfl f9_book_36 hQ
  · rw [if_neg h0] at hr
    refine mV_iload f9_book_4 rfl ?_
    refine mV_aload f9_book_5 rfl ?_
    refine mV_getP f9_book_6 (by decide) kk_0 rfl (pp_0_1 _) ?_
    refine mV_getP f9_book_9 (by decide) kk_2 rfl (pp_2_0 _) ?_
    refine mV_gI (I 3 12) f9_book_12 (by decide) kk_3 rfl rfl ?_
    refine mV_icmp_ge f9_book_15 (fun h1 => ?_) (fun h1 => ?_)
    · rw [if_pos h1] at hr
      refine mV_push f9_book_34 ?_
      have hr := Option.some.inj hr; subst hr
      exact mV_iret rfl rfl f9_book_36 hQ
    · rw [if_neg h1] at hr
      refine mV_iload f9_book_18 rfl ?_
      refine mV_push f9_book_19 ?_
      refine mV_icmp_ge f9_book_22 (fun h2 => ?_) (fun h2 => ?_)
      · rw [if_pos h2] at hr
        refine mV_push f9_book_34 ?_
        have hr := Option.some.inj hr; subst hr
        exact mV_iret rfl rfl f9_book_36 hQ
      · rw [if_neg h2] at hr
        refine mV_iload f9_book_25 rfl ?_
        refine mV_if_lt f9_book_26 (fun h3 => ?_) (fun h3 => ?_)
        · rw [if_pos h3] at hr
          refine mV_push f9_book_34 ?_
          have hr := Option.some.inj hr; subst hr
          exact mV_iret rfl rfl f9_book_36 hQ
        · rw [if_neg h3] at hr
          refine mV_iload f9_book_29 rfl ?_
          refine mV_push f9_book_30 ?_
          refine mV_icmp_lt f9_book_31 (fun h4 => ?_) (fun h4 => ?_)
          · rw [if_pos h4] at hr
            refine mV_aload f9_book_37 rfl ?_
            refine mV_getP f9_book_38 (by decide) kk_0 rfl (pp_0_1 _) ?_
            refine mV_getP f9_book_41 (by decide) kk_2 rfl (pp_2_7 _) ?_
            refine mV_iload f9_book_44 rfl ?_
            refine mV_push f9_book_45 ?_
            refine mV_imul f9_book_46 ?_
            refine mV_iload f9_book_47 rfl ?_
            refine mV_iadd f9_book_48 ?_
            obtain ⟨z0, hz0, hr⟩ := mBind hr
            refine mV_ldO f9_book_49 (by decide) kk_34 hz0 ?_
            have hr := Option.some.inj hr; subst hr
            exact mV_iret rfl rfl f9_book_50 hQ
          · rw [if_neg h4] at hr
            refine mV_push f9_book_34 ?_
            have hr := Option.some.inj hr; subst hr
            exact mV_iret rfl rfl f9_book_36 hQ
theorem c9_book (X : Nat × (Nat → Int32)) (I : mI) (s : Nat) (x0 : Int32) (x1 : Int32) {res : Int32} (hr : r9_book I x0 x1 = some res) : mC X m9_book 0 0 0 [.ref 0, .int x0, .int x1] NN KK I (PP s) (mRet (some (.int res)) NN KK I (PP s)) :=
  mC_of (L0 := [.ref 0, .int x0, .int x1]) rfl (Nat.le_of_ble_eq_true rfl) (w9_book X I s x0 x1 _ hr (mRet_ok _ _ _ _ _))
def r5_fallAsleep (I : mI) (s : Nat) : Option (mI) := (r7_copyFrom I 35 3).bind fun z0 => some (mW z0 1 3 0)
set_option maxHeartbeats 4000000 in
set_option maxRecDepth 100000 in
theorem w5_fallAsleep (X : Nat × (Nat → Int32)) (I : mI) (s : Nat) (Q : mQ) {res : mI} (hr : r5_fallAsleep I s = some res) (hQ : Q (some (.ref 35)) NN KK res (PP 35)) : mV X m5_fallAsleep 2 0 0 0 [.ref 1] [] NN KK I (PP s) Q := by
  unfold r5_fallAsleep at hr
  refine mV_aload f5_fallAsleep_0 rfl ?_
  refine mV_getP f5_fallAsleep_1 (by decide) kk_1 rfl (pp_1_1 _) ?_
  refine mV_aload f5_fallAsleep_4 rfl ?_
  refine mV_getP f5_fallAsleep_5 (by decide) kk_1 rfl (pp_1_0 _) ?_
  refine mV_getP f5_fallAsleep_8 (by decide) kk_2 rfl (pp_2_0 _) ?_
  obtain ⟨z0, hz0, hr⟩ := mBind hr
  refine mV_cV f5_fallAsleep_11 tg_m7_copyFrom mCls7 (by decide) kk_35 (mC_deep (c7_copyFrom X I s 35 3 mStg_35 mStg_3 hz0) (by decide)) rfl rfl (Nat.le_of_ble_eq_true rfl) ?_
  refine mV_aload f5_fallAsleep_14 rfl ?_
  refine mV_aload f5_fallAsleep_15 rfl ?_
  refine mV_getP f5_fallAsleep_16 (by decide) kk_1 rfl (pp_1_1 _) ?_
  refine mV_putP f5_fallAsleep_19 (by decide) kk_1 rfl ?_
  rw [PP_set]
  refine mV_aload f5_fallAsleep_22 rfl ?_
  refine mV_push f5_fallAsleep_23 ?_
  refine mV_putI f5_fallAsleep_24 (by decide) kk_1 rfl rfl ?_
  refine mV_aload f5_fallAsleep_27 rfl ?_
  refine mV_getP f5_fallAsleep_28 (by decide) kk_1 rfl (pp_1_1 _) ?_
  have hr := Option.some.inj hr; subst hr
  exact mV_aret rfl f5_fallAsleep_31 hQ
theorem c5_fallAsleep (X : Nat × (Nat → Int32)) (I : mI) (s : Nat) {res : mI} (hr : r5_fallAsleep I s = some res) : mC X m5_fallAsleep 2 0 0 [.ref 1] NN KK I (PP s) (mRet (some (.ref 35)) NN KK res (PP 35)) :=
  mC_of (L0 := [.ref 1]) rfl (Nat.le_of_ble_eq_true rfl) (w5_fallAsleep X I s _ hr (mRet_ok _ _ _ _ _))
def l7_flatOfAll_4 (I : mI) (a : Nat) : Nat → Int32 → Int32 → Option (Int32)
  | 0, _, _ => none
  | f + 1, y1, y2 => if (8 : Int32) ≤ (y2 : Int32) then some y1 else (mLd I (a + 4) 8 y2).bind fun z0 => l7_flatOfAll_4 I a f (y1 + z0) (y2 + 1)
def r7_flatOfAll (I : mI) (a : Nat) : Option (Int32) := (l7_flatOfAll_4 I a FU 0 0).bind fun z0 => some z0
set_option maxHeartbeats 4000000 in
set_option maxRecDepth 100000 in
theorem t7_flatOfAll_4 (X : Nat × (Nat → Int32)) (Q : mQ) (s : Nat) (I : mI) (a : Nat) (ha : mStg a) : ∀ (f : Nat) (y1 : Int32) (y2 : Int32) (z : Int32), l7_flatOfAll_4 I a f y1 y2 = some z → mV X m7_flatOfAll 0 0 0 25 [.ref a, .int z, mX0] [] NN KK I (PP s) Q → mV X m7_flatOfAll 0 0 0 4 [.ref a, .int y1, .int y2] [] NN KK I (PP s) Q := by
  intro f
  induction f with
  | zero => intro y1 y2 z hr hk; cases hr
  | succ f ih =>
    intro y1 y2 z hr hk
    unfold l7_flatOfAll_4 at hr
    refine mV_iload f7_flatOfAll_4 rfl ?_
    refine mV_push f7_flatOfAll_5 ?_
    refine mV_icmp_ge f7_flatOfAll_7 (fun h0 => ?_) (fun h0 => ?_)
    · rw [if_pos h0] at hr
      have hr := Option.some.inj hr; subst hr
      refine mV_drop (L' := [.ref a, .int y1, mX0]) (mSub_k (mSub_k (mSub_x mSub_n))) ?_
      exact hk
    · rw [if_neg h0] at hr
      refine mV_iload f7_flatOfAll_10 rfl ?_
      refine mV_aload f7_flatOfAll_11 rfl ?_
      refine mV_getP f7_flatOfAll_12 ha.l0 ha.1.2.1 rfl (ha.p3 _) ?_
      refine mV_iload f7_flatOfAll_15 rfl ?_
      obtain ⟨z0, hz0, hr⟩ := mBind hr
      refine mV_ldO f7_flatOfAll_16 (ha.l (by decide)) ha.1.2.2.2.2.2 hz0 ?_
      refine mV_iadd f7_flatOfAll_17 ?_
      refine mV_istore (L' := [.ref a, .int (y1 + z0), .int y2]) f7_flatOfAll_18 (by decide) rfl rfl ?_
      refine mV_iinc (y := (y2 + 1)) (L' := [.ref a, .int (y1 + z0), .int (y2 + 1)]) f7_flatOfAll_19 rfl rfl (by decide) rfl rfl ?_
      refine mV_goto f7_flatOfAll_22 ?_
      exact ih (y1 + z0) (y2 + 1) _ hr hk
set_option maxHeartbeats 4000000 in
set_option maxRecDepth 100000 in
theorem w7_flatOfAll (X : Nat × (Nat → Int32)) (I : mI) (s : Nat) (a : Nat) (ha : mStg a) (Q : mQ) {res : Int32} (hr : r7_flatOfAll I a = some res) (hQ : Q (some (.int res)) NN KK I (PP s)) : mV X m7_flatOfAll 0 0 0 0 [.ref a, mX0, mX0] [] NN KK I (PP s) Q := by
  unfold r7_flatOfAll at hr
  refine mV_push f7_flatOfAll_0 ?_
  refine mV_istore (L' := [.ref a, .int 0, mX0]) f7_flatOfAll_1 (by decide) rfl rfl ?_
  refine mV_push f7_flatOfAll_2 ?_
  refine mV_istore (L' := [.ref a, .int 0, .int 0]) f7_flatOfAll_3 (by decide) rfl rfl ?_
  obtain ⟨z0, hz0, hr⟩ := mBind hr
  refine t7_flatOfAll_4 X Q s I a ha FU 0 0 _ hz0 ?_
  refine mV_iload f7_flatOfAll_25 rfl ?_
  have hr := Option.some.inj hr; subst hr
  exact mV_iret rfl rfl f7_flatOfAll_26 hQ
theorem c7_flatOfAll (X : Nat × (Nat → Int32)) (I : mI) (s : Nat) (a : Nat) (ha : mStg a) {res : Int32} (hr : r7_flatOfAll I a = some res) : mC X m7_flatOfAll 0 0 0 [.ref a] NN KK I (PP s) (mRet (some (.int res)) NN KK I (PP s)) :=
  mC_of (L0 := [.ref a, mX0, mX0]) rfl (Nat.le_of_ble_eq_true rfl) (w7_flatOfAll X I s a ha _ hr (mRet_ok _ _ _ _ _))
def l9_goes_33 (s : Nat) (k1 : Int32) : Nat → Int32 → mI → Option (mI)
  | 0, _, _ => none
  | f + 1, y4, I => if (k1 : Int32) ≤ (y4 : Int32) then some I else (r5_passDay I 35).bind fun z0 => l9_goes_33 s k1 f (y4 + 1) z0.2
def r9_goes (I : mI) (s : Nat) (x0 : Int32) (x1 : Int32) : Option (Int32 × mI × Nat) := if (x0 : Int32) < (1 : Int32) then some ((-1), I, s) else if (20 : Int32) < (x0 : Int32) then some ((-1), I, s) else if (x1 : Int32) < (0 : Int32) then some ((-1), I, s) else if (x1 : Int32) ≤ (3 : Int32) then (r5_fallAsleep I s).bind fun z0 => (l9_goes_33 35 x0 FU 0 z0).bind fun z1 => if (x1 : Int32) = 0 then some (z1 35 4, z1, 35) else if (x1 : Int32) = 1 then some (z1 35 5, z1, 35) else if (x1 : Int32) = 2 then (r7_flatOfAll z1 35).bind fun z2 => some (z2, z1, 35) else some (z1 35 9, z1, 35) else some ((-1), I, s)
set_option maxHeartbeats 4000000 in
set_option maxRecDepth 100000 in
theorem t9_goes_33 (X : Nat × (Nat → Int32)) (Q : mQ) (s : Nat) (hs : mStg s) (k1 : Int32) (k2 : Int32) : ∀ (f : Nat) (y4 : Int32) (I : mI) (z : mI), l9_goes_33 s k1 f y4 I = some z → mV X m9_goes 7 0 0 53 [.ref 0, .int k1, .int k2, .ref 35, mX0] [] NN KK z (PP 35) Q → mV X m9_goes 7 0 0 33 [.ref 0, .int k1, .int k2, .ref 35, .int y4] [] NN KK I (PP 35) Q := by
  intro f
  induction f with
  | zero => intro y4 I z hr hk; cases hr
  | succ f ih =>
    intro y4 I z hr hk
    unfold l9_goes_33 at hr
    refine mV_iload f9_goes_33 rfl ?_
    refine mV_iload f9_goes_35 rfl ?_
    refine mV_icmp_ge f9_goes_36 (fun h0 => ?_) (fun h0 => ?_)
    · rw [if_pos h0] at hr
      have hr := Option.some.inj hr; subst hr
      refine mV_drop (L' := [.ref 0, .int k1, .int k2, .ref 35, mX0]) (mSub_k (mSub_k (mSub_k (mSub_k (mSub_x mSub_n))))) ?_
      exact hk
    · rw [if_neg h0] at hr
      refine mV_aload f9_goes_39 rfl ?_
      refine mV_getP f9_goes_40 (by decide) kk_0 rfl (pp_0_0 _) ?_
      obtain ⟨z0, hz0, hr⟩ := mBind hr
      refine mV_cV f9_goes_43 tg_m5_passDay mCls5 (by decide) kk_1 (mC_deep (c5_passDay X I 35 mStg_35 hz0) (by decide)) rfl rfl (Nat.le_of_ble_eq_true rfl) ?_
      refine mV_pop f9_goes_46 rfl ?_
      refine mV_iinc (y := (y4 + 1)) (L' := [.ref 0, .int k1, .int k2, .ref 35, .int (y4 + 1)]) f9_goes_47 rfl rfl (by decide) rfl rfl ?_
      refine mV_goto f9_goes_50 ?_
      exact ih (y4 + 1) z0.2 _ hr hk
set_option maxHeartbeats 4000000 in
set_option maxRecDepth 100000 in
theorem w9_goes (X : Nat × (Nat → Int32)) (I : mI) (s : Nat) (hs : mStg s) (x0 : Int32) (x1 : Int32) (Q : mQ) {res : Int32 × mI × Nat} (hr : r9_goes I s x0 x1 = some res) (hQ : Q (some (.int res.1)) NN KK res.2.1 (PP res.2.2)) : mV X m9_goes 7 0 0 0 [.ref 0, .int x0, .int x1, mX0, mX0] [] NN KK I (PP s) Q := by
  unfold r9_goes at hr
  refine mV_iload f9_goes_0 rfl ?_
  refine mV_push f9_goes_1 ?_
  refine mV_icmp_lt f9_goes_2 (fun h0 => ?_) (fun h0 => ?_)
  · rw [if_pos h0] at hr
    refine mV_push f9_goes_20 ?_
    have hr := Option.some.inj hr; subst hr
    exact mV_iret rfl rfl f9_goes_21 hQ
  · rw [if_neg h0] at hr
    refine mV_iload f9_goes_5 rfl ?_
    refine mV_push f9_goes_6 ?_
    refine mV_icmp_gt f9_goes_8 (fun h1 => ?_) (fun h1 => ?_)
    · rw [if_pos h1] at hr
      refine mV_push f9_goes_20 ?_
      have hr := Option.some.inj hr; subst hr
      exact mV_iret rfl rfl f9_goes_21 hQ
    · rw [if_neg h1] at hr
      refine mV_iload f9_goes_11 rfl ?_
      refine mV_if_lt f9_goes_12 (fun h2 => ?_) (fun h2 => ?_)
      · rw [if_pos h2] at hr
        refine mV_push f9_goes_20 ?_
        have hr := Option.some.inj hr; subst hr
        exact mV_iret rfl rfl f9_goes_21 hQ
      · rw [if_neg h2] at hr
        refine mV_iload f9_goes_15 rfl ?_
        refine mV_push f9_goes_16 ?_
        refine mV_icmp_le f9_goes_17 (fun h3 => ?_) (fun h3 => ?_)
        · rw [if_pos h3] at hr
          refine mV_aload f9_goes_22 rfl ?_
          refine mV_getP f9_goes_23 (by decide) kk_0 rfl (pp_0_0 _) ?_
          obtain ⟨z0, hz0, hr⟩ := mBind hr
          refine mV_cV f9_goes_26 tg_m5_fallAsleep mCls5 (by decide) kk_1 (mC_deep (c5_fallAsleep X I s hz0) (by decide)) rfl rfl (Nat.le_of_ble_eq_true rfl) ?_
          refine mV_astore (L' := [.ref 0, .int x0, .int x1, .ref 35, mX0]) f9_goes_29 (by decide) rfl rfl ?_
          refine mV_push f9_goes_30 ?_
          refine mV_istore (L' := [.ref 0, .int x0, .int x1, .ref 35, .int 0]) f9_goes_31 (by decide) rfl rfl ?_
          obtain ⟨z1, hz1, hr⟩ := mBind hr
          refine t9_goes_33 X Q 35 mStg_35 x0 x1 FU 0 z0 _ hz1 ?_
          refine mV_iload f9_goes_53 rfl ?_
          by_cases h4 : x1 = 0
          · rw [if_pos h4] at hr
            refine mV_tabEq (v := 0) f9_goes_54 h4 (by decide) (by decide) (by decide) (by decide : (54 : Int) + 26 = (80 : Nat)) ?_
            refine mV_aload f9_goes_80 rfl ?_
            refine mV_gI (z1 35 4) f9_goes_81 (by decide) kk_35 rfl rfl ?_
            have hr := Option.some.inj hr; subst hr
            exact mV_iret rfl rfl f9_goes_84 hQ
          rw [if_neg h4] at hr
          by_cases h5 : x1 = 1
          · rw [if_pos h5] at hr
            refine mV_tabEq (v := 1) f9_goes_54 h5 (by decide) (by decide) (by decide) (by decide : (54 : Int) + 31 = (85 : Nat)) ?_
            refine mV_aload f9_goes_85 rfl ?_
            refine mV_gI (z1 35 5) f9_goes_86 (by decide) kk_35 rfl rfl ?_
            have hr := Option.some.inj hr; subst hr
            exact mV_iret rfl rfl f9_goes_89 hQ
          rw [if_neg h5] at hr
          by_cases h6 : x1 = 2
          · rw [if_pos h6] at hr
            refine mV_tabEq (v := 2) f9_goes_54 h6 (by decide) (by decide) (by decide) (by decide : (54 : Int) + 36 = (90 : Nat)) ?_
            refine mV_aload f9_goes_90 rfl ?_
            obtain ⟨z2, hz2, hr⟩ := mBind hr
            refine mV_cV f9_goes_91 tg_m7_flatOfAll mCls7 (by decide) kk_35 (mC_deep (c7_flatOfAll X z1 35 35 mStg_35 hz2) (by decide)) rfl rfl (Nat.le_of_ble_eq_true rfl) ?_
            have hr := Option.some.inj hr; subst hr
            exact mV_iret rfl rfl f9_goes_94 hQ
          rw [if_neg h6] at hr
          refine mV_tabNo f9_goes_54 [0, 1, 2] (by decide) (List.forall_mem_cons.mpr ⟨h4, (List.forall_mem_cons.mpr ⟨h5, (List.forall_mem_cons.mpr ⟨h6, (fun _ hc => absurd hc List.not_mem_nil)⟩)⟩)⟩) (by decide : (54 : Int) + 41 = (95 : Nat)) ?_
          refine mV_aload f9_goes_95 rfl ?_
          refine mV_gI (z1 35 9) f9_goes_96 (by decide) kk_35 rfl rfl ?_
          have hr := Option.some.inj hr; subst hr
          exact mV_iret rfl rfl f9_goes_99 hQ
        · rw [if_neg h3] at hr
          refine mV_push f9_goes_20 ?_
          have hr := Option.some.inj hr; subst hr
          exact mV_iret rfl rfl f9_goes_21 hQ
theorem c9_goes (X : Nat × (Nat → Int32)) (I : mI) (s : Nat) (hs : mStg s) (x0 : Int32) (x1 : Int32) {res : Int32 × mI × Nat} (hr : r9_goes I s x0 x1 = some res) : mC X m9_goes 7 0 0 [.ref 0, .int x0, .int x1] NN KK I (PP s) (mRet (some (.int res.1)) NN KK res.2.1 (PP res.2.2)) :=
  mC_of (L0 := [.ref 0, .int x0, .int x1, mX0, mX0]) rfl (Nat.le_of_ble_eq_true rfl) (w9_goes X I s hs x0 x1 _ hr (mRet_ok _ _ _ _ _))

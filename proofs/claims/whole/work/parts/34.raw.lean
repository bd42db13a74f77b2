def l4_row_4 : Nat → Int32 → Int32 → mI → Option ((Int32 × mI) ⊕ (Int32 × Int32 × mI))
  | 0, _, _, _ => none
  | f + 1, y1, y2, I => if (y2 : Int32) = (0 : Int32) then some (.inr (y1, y2, I)) else if (6 : Int32) < (y1 : Int32) then some (.inr (y1, y2, I)) else if (y1 : Int32) = (0 : Int32) then if (y1 : Int32) = (6 : Int32) then (mLd I 112 401 (I 109 6)).bind fun z1 => if (I 109 8 : Int32) ≤ (z1 : Int32) then (r4_number I (3 + y1) 0 (I 109 8 - 1)).bind fun z2 => l4_row_4 f (y1 + 1) z2.1 z2.2 else (r4_blame I 3).bind fun z3 => some (.inl ((z3.1 &&& 1), z3.2)) else (r4_number I (3 + y1) 0 (I 109 8 - 1)).bind fun z0 => l4_row_4 f (y1 + 1) z0.1 z0.2 else (r4_kind I).bind fun z4 => if (z4 : Int32) = (128 : Int32) then if (y1 : Int32) = (6 : Int32) then (mLd I 112 401 (I 109 6)).bind fun z6 => if (I 109 8 : Int32) ≤ (z6 : Int32) then (r4_number I (3 + y1) 0 (I 109 8 - 1)).bind fun z7 => l4_row_4 f (y1 + 1) z7.1 z7.2 else (r4_blame I 3).bind fun z8 => some (.inl ((z8.1 &&& 1), z8.2)) else (r4_number I (3 + y1) 0 (I 109 8 - 1)).bind fun z5 => l4_row_4 f (y1 + 1) z5.1 z5.2 else some (.inr (y1, y2, I))
def r4_row (I : mI) : Option (Int32 × mI) := (l4_row_4 FU 0 1 I).bind fun z0 => match z0 with | .inl rz0 => some rz0 | .inr wz0 => (r6_write_114 wz0.2.2 2 wz0.1).bind fun z1 => some ((wz0.2.1 &&& 1), z1)
set_option maxHeartbeats 4000000 in
set_option maxRecDepth 100000 in
theorem t4_row_4 (X : Nat × (Nat → Int32)) (Q : mQ) (s : Nat) : ∀ (f : Nat) (y1 : Int32) (y2 : Int32) (I : mI) (z : (Int32 × mI) ⊕ (Int32 × Int32 × mI)), l4_row_4 f y1 y2 I = some z → (∀ res, z = .inl res → Q (some (.int res.1)) NN KK res.2 (PP s)) → (∀ w, z = .inr w → mV X m4_row 2 0 0 77 [.ref 109, .int w.1, .int w.2.1] [] NN KK w.2.2 (PP s) Q) → mV X m4_row 2 0 0 4 [.ref 109, .int y1, .int y2] [] NN KK I (PP s) Q := by
  intro f
  induction f with
  | zero => intro y1 y2 I z hr hret hk; cases hr
  | succ f ih =>
    intro y1 y2 I z hr hret hk
    unfold l4_row_4 at hr
    refine mV_iload f4_row_4 rfl ?_
    refine mV_if_eq f4_row_5 (fun h0 => ?_) (fun h0 => ?_)
    · rw [if_pos h0] at hr
      have hr := Option.some.inj hr; subst hr
      exact hk _ rfl
    · rw [if_neg h0] at hr
      refine mV_iload f4_row_8 rfl ?_
      refine mV_push f4_row_9 ?_
      refine mV_icmp_gt f4_row_11 (fun h1 => ?_) (fun h1 => ?_)
      · rw [if_pos h1] at hr
        have hr := Option.some.inj hr; subst hr
        exact hk _ rfl
      · rw [if_neg h1] at hr
        refine mV_iload f4_row_14 rfl ?_
        refine mV_if_eq f4_row_15 (fun h2 => ?_) (fun h2 => ?_)
        · rw [if_pos h2] at hr
          refine mV_iload f4_row_28 rfl ?_
          refine mV_push f4_row_29 ?_
          refine mV_icmp_ne f4_row_31 (fun h3 => ?_) (fun h3 => ?_)
          · rw [if_neg h3] at hr
            refine mV_aload f4_row_56 rfl ?_
            refine mV_push f4_row_57 ?_
            refine mV_iload f4_row_58 rfl ?_
            refine mV_iadd f4_row_59 ?_
            refine mV_push f4_row_60 ?_
            refine mV_aload f4_row_61 rfl ?_
            refine mV_gI (I 109 8) f4_row_62 (by decide) kk_109 rfl rfl ?_
            refine mV_push f4_row_65 ?_
            refine mV_isub f4_row_66 ?_
            obtain ⟨z0, hz0, hr⟩ := mBind hr
            refine mV_cV f4_row_67 tg_m4_number mCls4 (by decide) kk_109 (mC_deep (c4_number X I s (3 + y1) 0 (I 109 8 - 1) hz0) (by decide)) rfl rfl (Nat.le_of_ble_eq_true rfl) ?_
            refine mV_istore (L' := [.ref 109, .int y1, .int z0.1]) f4_row_70 (by decide) rfl rfl ?_
            refine mV_iinc (y := (y1 + 1)) (L' := [.ref 109, .int (y1 + 1), .int z0.1]) f4_row_71 rfl rfl (by decide) rfl rfl ?_
            refine mV_goto f4_row_74 ?_
            exact ih (y1 + 1) z0.1 z0.2 _ hr hret hk
          · rw [if_pos h3] at hr
            refine mV_aload f4_row_34 rfl ?_
            refine mV_getP f4_row_35 (by decide) kk_109 rfl (pp_109_3 _) ?_
            refine mV_aload f4_row_38 rfl ?_
            refine mV_gI (I 109 6) f4_row_39 (by decide) kk_109 rfl rfl ?_
            obtain ⟨z1, hz1, hr⟩ := mBind hr
            refine mV_ldO f4_row_42 (by decide) kk_112 hz1 ?_
            refine mV_aload f4_row_43 rfl ?_
            refine mV_gI (I 109 8) f4_row_44 (by decide) kk_109 rfl rfl ?_
            refine mV_icmp_ge f4_row_47 (fun h4 => ?_) (fun h4 => ?_)
            · rw [if_pos h4] at hr
              refine mV_aload f4_row_56 rfl ?_
              refine mV_push f4_row_57 ?_
              refine mV_iload f4_row_58 rfl ?_
              refine mV_iadd f4_row_59 ?_
              refine mV_push f4_row_60 ?_
              refine mV_aload f4_row_61 rfl ?_
              refine mV_gI (I 109 8) f4_row_62 (by decide) kk_109 rfl rfl ?_
              refine mV_push f4_row_65 ?_
              refine mV_isub f4_row_66 ?_
              obtain ⟨z2, hz2, hr⟩ := mBind hr
              refine mV_cV f4_row_67 tg_m4_number mCls4 (by decide) kk_109 (mC_deep (c4_number X I s (3 + y1) 0 (I 109 8 - 1) hz2) (by decide)) rfl rfl (Nat.le_of_ble_eq_true rfl) ?_
              refine mV_istore (L' := [.ref 109, .int y1, .int z2.1]) f4_row_70 (by decide) rfl rfl ?_
              refine mV_iinc (y := (y1 + 1)) (L' := [.ref 109, .int (y1 + 1), .int z2.1]) f4_row_71 rfl rfl (by decide) rfl rfl ?_
              refine mV_goto f4_row_74 ?_
              exact ih (y1 + 1) z2.1 z2.2 _ hr hret hk
            · rw [if_neg h4] at hr
              refine mV_aload f4_row_50 rfl ?_
              refine mV_push f4_row_51 ?_
              obtain ⟨z3, hz3, hr⟩ := mBind hr
              refine mV_cV f4_row_52 tg_m4_blame mCls4 (by decide) kk_109 (mC_deep (c4_blame X I s 3 hz3) (by decide)) rfl rfl (Nat.le_of_ble_eq_true rfl) ?_
              have hr := Option.some.inj hr; subst hr; have hQ := hret _ rfl
              exact mV_zret rfl f4_row_55 hQ
        · rw [if_neg h2] at hr
          refine mV_aload f4_row_18 rfl ?_
          obtain ⟨z4, hz4, hr⟩ := mBind hr
          refine mV_cV f4_row_19 tg_m4_kind mCls4 (by decide) kk_109 (mC_deep (c4_kind X I s hz4) (by decide)) rfl rfl (Nat.le_of_ble_eq_true rfl) ?_
          refine mV_push f4_row_22 ?_
          refine mV_icmp_ne f4_row_25 (fun h5 => ?_) (fun h5 => ?_)
          · rw [if_neg h5] at hr
            have hr := Option.some.inj hr; subst hr
            exact hk _ rfl
          · rw [if_pos h5] at hr
            refine mV_iload f4_row_28 rfl ?_
            refine mV_push f4_row_29 ?_
            refine mV_icmp_ne f4_row_31 (fun h6 => ?_) (fun h6 => ?_)
            · rw [if_neg h6] at hr
              refine mV_aload f4_row_56 rfl ?_
              refine mV_push f4_row_57 ?_
              refine mV_iload f4_row_58 rfl ?_
              refine mV_iadd f4_row_59 ?_
              refine mV_push f4_row_60 ?_
              refine mV_aload f4_row_61 rfl ?_
              refine mV_gI (I 109 8) f4_row_62 (by decide) kk_109 rfl rfl ?_
              refine mV_push f4_row_65 ?_
              refine mV_isub f4_row_66 ?_
              obtain ⟨z5, hz5, hr⟩ := mBind hr
              refine mV_cV f4_row_67 tg_m4_number mCls4 (by decide) kk_109 (mC_deep (c4_number X I s (3 + y1) 0 (I 109 8 - 1) hz5) (by decide)) rfl rfl (Nat.le_of_ble_eq_true rfl) ?_
              refine mV_istore (L' := [.ref 109, .int y1, .int z5.1]) f4_row_70 (by decide) rfl rfl ?_
              refine mV_iinc (y := (y1 + 1)) (L' := [.ref 109, .int (y1 + 1), .int z5.1]) f4_row_71 rfl rfl (by decide) rfl rfl ?_
              refine mV_goto f4_row_74 ?_
              exact ih (y1 + 1) z5.1 z5.2 _ hr hret hk
            · rw [if_pos h6] at hr
              refine mV_aload f4_row_34 rfl ?_
              refine mV_getP f4_row_35 (by decide) kk_109 rfl (pp_109_3 _) ?_
              refine mV_aload f4_row_38 rfl ?_
              refine mV_gI (I 109 6) f4_row_39 (by decide) kk_109 rfl rfl ?_
              obtain ⟨z6, hz6, hr⟩ := mBind hr
              refine mV_ldO f4_row_42 (by decide) kk_112 hz6 ?_
              refine mV_aload f4_row_43 rfl ?_
              refine mV_gI (I 109 8) f4_row_44 (by decide) kk_109 rfl rfl ?_
              refine mV_icmp_ge f4_row_47 (fun h7 => ?_) (fun h7 => ?_)
              · rw [if_pos h7] at hr
                refine mV_aload f4_row_56 rfl ?_
                refine mV_push f4_row_57 ?_
                refine mV_iload f4_row_58 rfl ?_
                refine mV_iadd f4_row_59 ?_
                refine mV_push f4_row_60 ?_
                refine mV_aload f4_row_61 rfl ?_
                refine mV_gI (I 109 8) f4_row_62 (by decide) kk_109 rfl rfl ?_
                refine mV_push f4_row_65 ?_
                refine mV_isub f4_row_66 ?_
                obtain ⟨z7, hz7, hr⟩ := mBind hr
                refine mV_cV f4_row_67 tg_m4_number mCls4 (by decide) kk_109 (mC_deep (c4_number X I s (3 + y1) 0 (I 109 8 - 1) hz7) (by decide)) rfl rfl (Nat.le_of_ble_eq_true rfl) ?_
                refine mV_istore (L' := [.ref 109, .int y1, .int z7.1]) f4_row_70 (by decide) rfl rfl ?_
                refine mV_iinc (y := (y1 + 1)) (L' := [.ref 109, .int (y1 + 1), .int z7.1]) f4_row_71 rfl rfl (by decide) rfl rfl ?_
                refine mV_goto f4_row_74 ?_
                exact ih (y1 + 1) z7.1 z7.2 _ hr hret hk
              · rw [if_neg h7] at hr
                refine mV_aload f4_row_50 rfl ?_
                refine mV_push f4_row_51 ?_
                obtain ⟨z8, hz8, hr⟩ := mBind hr
                refine mV_cV f4_row_52 tg_m4_blame mCls4 (by decide) kk_109 (mC_deep (c4_blame X I s 3 hz8) (by decide)) rfl rfl (Nat.le_of_ble_eq_true rfl) ?_
                have hr := Option.some.inj hr; subst hr; have hQ := hret _ rfl
                exact mV_zret rfl f4_row_55 hQ
set_option maxHeartbeats 4000000 in
set_option maxRecDepth 100000 in
theorem w4_row (X : Nat × (Nat → Int32)) (I : mI) (s : Nat) (Q : mQ) {res : Int32 × mI} (hr : r4_row I = some res) (hQ : Q (some (.int res.1)) NN KK res.2 (PP s)) : mV X m4_row 2 0 0 0 [.ref 109, mX0, mX0] [] NN KK I (PP s) Q := by
  unfold r4_row at hr
  refine mV_push f4_row_0 ?_
  refine mV_istore (L' := [.ref 109, .int 0, mX0]) f4_row_1 (by decide) rfl rfl ?_
  refine mV_push f4_row_2 ?_
  refine mV_istore (L' := [.ref 109, .int 0, .int 1]) f4_row_3 (by decide) rfl rfl ?_
  obtain ⟨z0, hz0, hr⟩ := mBind hr
  refine t4_row_4 X Q s FU 0 1 I _ hz0 (fun res ez0 => ?_) (fun wz0 ez0 => ?_)
  · rw [ez0] at hr; have hr := Option.some.inj hr; subst hr; exact hQ
  rw [ez0] at hr
  dsimp only at hr
  refine mV_aload f4_row_77 rfl ?_
  refine mV_getP f4_row_78 (by decide) kk_109 rfl (pp_109_10 _) ?_
  refine mV_push f4_row_81 ?_
  refine mV_iload f4_row_82 rfl ?_
  obtain ⟨z1, hz1, hr⟩ := mBind hr
  refine mV_cV f4_row_83 tg_m6_write mCls6 (by decide) kk_114 (mC_deep (c6_write_114 X wz0.2.2 s 2 wz0.1 hz1) (by decide)) rfl rfl (Nat.le_of_ble_eq_true rfl) ?_
  refine mV_iload f4_row_86 rfl ?_
  have hr := Option.some.inj hr; subst hr
  exact mV_zret rfl f4_row_87 hQ
theorem c4_row (X : Nat × (Nat → Int32)) (I : mI) (s : Nat) {res : Int32 × mI} (hr : r4_row I = some res) : mC X m4_row 2 0 0 [.ref 109] NN KK I (PP s) (mRet (some (.int res.1)) NN KK res.2 (PP s)) :=
  mC_of (L0 := [.ref 109, mX0, mX0]) rfl (Nat.le_of_ble_eq_true rfl) (w4_row X I s _ hr (mRet_ok _ _ _ _ _))
def r4_programmeLine (I : mI) : Option (Int32 × mI) := (r4_pass I 19).bind fun z0 => (if (z0.1 : Int32) = (0 : Int32) then some (0, z0.2) else (r4_number z0.2 0 0 999).bind fun z2 => if (z2.1 : Int32) = (0 : Int32) then some (0, z2.2) else (r4_pass z2.2 20).bind fun z3 => if (z3.1 : Int32) = (0 : Int32) then some (0, z3.2) else (r4_number z3.2 1 0 (z3.2 109 9 - 1)).bind fun z4 => if (z4.1 : Int32) = (0 : Int32) then some (0, z4.2) else (r4_pass z4.2 21).bind fun z5 => if (z5.1 : Int32) = (0 : Int32) then some (0, z5.2) else (r4_row z5.2).bind fun z6 => if (z6.1 : Int32) = (0 : Int32) then some (0, z6.2) else (r4_pass z6.2 59).bind fun z7 => if (z7.1 : Int32) = (0 : Int32) then some (0, z7.2) else some (1, z7.2) : Option (Int32 × mI)).bind fun z1 => some ((z1.1 &&& 1), z1.2)
set_option maxHeartbeats 4000000 in
set_option maxRecDepth 100000 in
theorem w4_programmeLine (X : Nat × (Nat → Int32)) (I : mI) (s : Nat) (Q : mQ) {res : Int32 × mI} (hr : r4_programmeLine I = some res) (hQ : Q (some (.int res.1)) NN KK res.2 (PP s)) : mV X m4_programmeLine 3 0 0 0 [.ref 109] [] NN KK I (PP s) Q := by
  unfold r4_programmeLine at hr
  refine mV_aload f4_programmeLine_0 rfl ?_
  refine mV_push f4_programmeLine_1 ?_
  obtain ⟨z0, hz0, hr⟩ := mBind hr
  refine mV_cV f4_programmeLine_3 tg_m4_pass mCls4 (by decide) kk_109 (mC_deep (c4_pass X I s 19 hz0) (by decide)) rfl rfl (Nat.le_of_ble_eq_true rfl) ?_
  obtain ⟨z1, hz1, hr⟩ := mBind hr
  have keyz1 : mV X m4_programmeLine 3 0 0 75 [.ref 109] [.int z1.1] NN KK z1.2 (PP s) Q := by
    have hr := Option.some.inj hr; subst hr
    exact mV_zret rfl f4_programmeLine_75 hQ
  clear hr
  have hr := hz1
  clear hz1
  refine mV_if_eq f4_programmeLine_6 (fun h0 => ?_) (fun h0 => ?_)
  · rw [if_pos h0] at hr
    refine mV_push f4_programmeLine_74 ?_
    have hr := Option.some.inj hr; subst hr
    exact keyz1
  · rw [if_neg h0] at hr
    refine mV_aload f4_programmeLine_9 rfl ?_
    refine mV_push f4_programmeLine_10 ?_
    refine mV_push f4_programmeLine_11 ?_
    refine mV_push f4_programmeLine_12 ?_
    obtain ⟨z2, hz2, hr⟩ := mBind hr
    refine mV_cV f4_programmeLine_15 tg_m4_number mCls4 (by decide) kk_109 (mC_deep (c4_number X z0.2 s 0 0 999 hz2) (by decide)) rfl rfl (Nat.le_of_ble_eq_true rfl) ?_
    refine mV_if_eq f4_programmeLine_18 (fun h1 => ?_) (fun h1 => ?_)
    · rw [if_pos h1] at hr
      refine mV_push f4_programmeLine_74 ?_
      have hr := Option.some.inj hr; subst hr
      exact keyz1
    · rw [if_neg h1] at hr
      refine mV_aload f4_programmeLine_21 rfl ?_
      refine mV_push f4_programmeLine_22 ?_
      obtain ⟨z3, hz3, hr⟩ := mBind hr
      refine mV_cV f4_programmeLine_24 tg_m4_pass mCls4 (by decide) kk_109 (mC_deep (c4_pass X z2.2 s 20 hz3) (by decide)) rfl rfl (Nat.le_of_ble_eq_true rfl) ?_
      refine mV_if_eq f4_programmeLine_27 (fun h2 => ?_) (fun h2 => ?_)
      · rw [if_pos h2] at hr
        refine mV_push f4_programmeLine_74 ?_
        have hr := Option.some.inj hr; subst hr
        exact keyz1
      · rw [if_neg h2] at hr
        refine mV_aload f4_programmeLine_30 rfl ?_
        refine mV_push f4_programmeLine_31 ?_
        refine mV_push f4_programmeLine_32 ?_
        refine mV_aload f4_programmeLine_33 rfl ?_
        refine mV_gI (z3.2 109 9) f4_programmeLine_34 (by decide) kk_109 rfl rfl ?_
        refine mV_push f4_programmeLine_37 ?_
        refine mV_isub f4_programmeLine_38 ?_
        obtain ⟨z4, hz4, hr⟩ := mBind hr
        refine mV_cV f4_programmeLine_39 tg_m4_number mCls4 (by decide) kk_109 (mC_deep (c4_number X z3.2 s 1 0 (z3.2 109 9 - 1) hz4) (by decide)) rfl rfl (Nat.le_of_ble_eq_true rfl) ?_
        refine mV_if_eq f4_programmeLine_42 (fun h3 => ?_) (fun h3 => ?_)
        · rw [if_pos h3] at hr
          refine mV_push f4_programmeLine_74 ?_
          have hr := Option.some.inj hr; subst hr
          exact keyz1
        · rw [if_neg h3] at hr
          refine mV_aload f4_programmeLine_45 rfl ?_
          refine mV_push f4_programmeLine_46 ?_
          obtain ⟨z5, hz5, hr⟩ := mBind hr
          refine mV_cV f4_programmeLine_48 tg_m4_pass mCls4 (by decide) kk_109 (mC_deep (c4_pass X z4.2 s 21 hz5) (by decide)) rfl rfl (Nat.le_of_ble_eq_true rfl) ?_
          refine mV_if_eq f4_programmeLine_51 (fun h4 => ?_) (fun h4 => ?_)
          · rw [if_pos h4] at hr
            refine mV_push f4_programmeLine_74 ?_
            have hr := Option.some.inj hr; subst hr
            exact keyz1
          · rw [if_neg h4] at hr
            refine mV_aload f4_programmeLine_54 rfl ?_
            obtain ⟨z6, hz6, hr⟩ := mBind hr
            refine mV_cV f4_programmeLine_55 tg_m4_row mCls4 (by decide) kk_109 (mC_deep (c4_row X z5.2 s hz6) (by decide)) rfl rfl (Nat.le_of_ble_eq_true rfl) ?_
            refine mV_if_eq f4_programmeLine_58 (fun h5 => ?_) (fun h5 => ?_)
            · rw [if_pos h5] at hr
              refine mV_push f4_programmeLine_74 ?_
              have hr := Option.some.inj hr; subst hr
              exact keyz1
            · rw [if_neg h5] at hr
              refine mV_aload f4_programmeLine_61 rfl ?_
              refine mV_push f4_programmeLine_62 ?_
              obtain ⟨z7, hz7, hr⟩ := mBind hr
              refine mV_cV f4_programmeLine_64 tg_m4_pass mCls4 (by decide) kk_109 (mC_deep (c4_pass X z6.2 s 59 hz7) (by decide)) rfl rfl (Nat.le_of_ble_eq_true rfl) ?_
              refine mV_if_eq f4_programmeLine_67 (fun h6 => ?_) (fun h6 => ?_)
              · rw [if_pos h6] at hr
                refine mV_push f4_programmeLine_74 ?_
                have hr := Option.some.inj hr; subst hr
                exact keyz1
              · rw [if_neg h6] at hr
                refine mV_push f4_programmeLine_70 ?_
                refine mV_goto f4_programmeLine_71 ?_
                have hr := Option.some.inj hr; subst hr
                exact keyz1
theorem c4_programmeLine (X : Nat × (Nat → Int32)) (I : mI) (s : Nat) {res : Int32 × mI} (hr : r4_programmeLine I = some res) : mC X m4_programmeLine 3 0 0 [.ref 109] NN KK I (PP s) (mRet (some (.int res.1)) NN KK res.2 (PP s)) :=
  mC_of (L0 := [.ref 109]) rfl (Nat.le_of_ble_eq_true rfl) (w4_programmeLine X I s _ hr (mRet_ok _ _ _ _ _))
def r6_emit_114 (I : mI) (x0 : Int32) (x1 : Int32) : Option (mI) := (if (400 : Int32) ≤ (I 114 3 : Int32) then some I else (mSto I 116 400 (I 114 3) ((x1 * 16) + x0)).bind fun z1 => some (mW z1 114 3 (z1 114 3 + 1)) : Option (mI)).bind fun z0 => some z0
set_option maxHeartbeats 4000000 in
set_option maxRecDepth 100000 in
theorem w6_emit_114 (X : Nat × (Nat → Int32)) (I : mI) (s : Nat) (x0 : Int32) (x1 : Int32) (Q : mQ) {res : mI} (hr : r6_emit_114 I x0 x1 = some res) (hQ : Q none NN KK res (PP s)) : mV X m6_emit 0 0 0 0 [.ref 114, .int x0, .int x1] [] NN KK I (PP s) Q := by
  unfold r6_emit_114 at hr
  refine mV_aload f6_emit_0 rfl ?_
  refine mV_gI (I 114 3) f6_emit_1 (by decide) kk_114 rfl rfl ?_
  refine mV_aload f6_emit_4 rfl ?_
  refine mV_getP f6_emit_5 (by decide) kk_114 rfl (pp_114_1 _) ?_
  refine mV_alen f6_emit_8 (by decide) kk_116 ?_
  refine mV_as 400 (by decide) ?_
  obtain ⟨z0, hz0, hr⟩ := mBind hr
  have keyz0 : mV X m6_emit 0 0 0 37 [.ref 114, mX0, mX0] [] NN KK z0 (PP s) Q := by
    have hr := Option.some.inj hr; subst hr
    exact mV_vret rfl f6_emit_37 hQ
  clear hr
  have hr := hz0
  clear hz0
  refine mV_icmp_ge f6_emit_9 (fun h0 => ?_) (fun h0 => ?_)
  · rw [if_pos h0] at hr
    have hr := Option.some.inj hr; subst hr
    refine mV_drop (L' := [.ref 114, mX0, mX0]) (mSub_k (mSub_x (mSub_x mSub_n))) ?_
    exact keyz0
  · rw [if_neg h0] at hr
    refine mV_aload f6_emit_12 rfl ?_
    refine mV_getP f6_emit_13 (by decide) kk_114 rfl (pp_114_1 _) ?_
    refine mV_aload f6_emit_16 rfl ?_
    refine mV_gI (I 114 3) f6_emit_17 (by decide) kk_114 rfl rfl ?_
    refine mV_iload f6_emit_20 rfl ?_
    refine mV_push f6_emit_21 ?_
    refine mV_imul f6_emit_23 ?_
    refine mV_iload f6_emit_24 rfl ?_
    refine mV_iadd f6_emit_25 ?_
    obtain ⟨z1, hz1, hr⟩ := mBind hr
    refine mV_stO f6_emit_26 (by decide) kk_116 hz1 ?_
    refine mV_aload f6_emit_27 rfl ?_
    refine mV_dup f6_emit_28 rfl ?_
    refine mV_gI (z1 114 3) f6_emit_29 (by decide) kk_114 rfl rfl ?_
    refine mV_push f6_emit_32 ?_
    refine mV_iadd f6_emit_33 ?_
    refine mV_putI f6_emit_34 (by decide) kk_114 rfl rfl ?_
    have hr := Option.some.inj hr; subst hr
    refine mV_drop (L' := [.ref 114, mX0, mX0]) (mSub_k (mSub_x (mSub_x mSub_n))) ?_
    exact keyz0
theorem c6_emit_114 (X : Nat × (Nat → Int32)) (I : mI) (s : Nat) (x0 : Int32) (x1 : Int32) {res : mI} (hr : r6_emit_114 I x0 x1 = some res) : mC X m6_emit 0 0 0 [.ref 114, .int x0, .int x1] NN KK I (PP s) (mRet none NN KK res (PP s)) :=
  mC_of (L0 := [.ref 114, .int x0, .int x1]) rfl (Nat.le_of_ble_eq_true rfl) (w6_emit_114 X I s x0 x1 _ hr (mRet_ok _ _ _ _ _))
def r4_unit (I : mI) : Option (Int32 × mI) := (r4_kind I).bind fun z0 => if (z0 : Int32) = (128 : Int32) then (mLd I 112 401 (I 109 6)).bind fun z5 => (r6_emit_114 I 0 z5).bind fun z6 => (r4_step z6).bind fun z7 => some (1, z7) else if (z0 : Int32) < (7 : Int32) then (r4_blame I 1).bind fun z1 => some ((z1.1 &&& 1), z1.2) else if (18 : Int32) < (z0 : Int32) then (r4_blame I 1).bind fun z2 => some ((z2.1 &&& 1), z2.2) else (r6_emit_114 I 1 (z0 - 7)).bind fun z3 => (r4_step z3).bind fun z4 => some (1, z4)
set_option maxHeartbeats 4000000 in
set_option maxRecDepth 100000 in
theorem w4_unit (X : Nat × (Nat → Int32)) (I : mI) (s : Nat) (Q : mQ) {res : Int32 × mI} (hr : r4_unit I = some res) (hQ : Q (some (.int res.1)) NN KK res.2 (PP s)) : mV X m4_unit 1 0 0 0 [.ref 109, mX0] [] NN KK I (PP s) Q := by
  unfold r4_unit at hr
  refine mV_aload f4_unit_0 rfl ?_
  obtain ⟨z0, hz0, hr⟩ := mBind hr
  refine mV_cV f4_unit_1 tg_m4_kind mCls4 (by decide) kk_109 (mC_deep (c4_kind X I s hz0) (by decide)) rfl rfl (Nat.le_of_ble_eq_true rfl) ?_
  refine mV_istore (L' := [.ref 109, .int z0]) f4_unit_4 (by decide) rfl rfl ?_
  refine mV_iload f4_unit_5 rfl ?_
  refine mV_push f4_unit_6 ?_
  refine mV_icmp_ne f4_unit_9 (fun h0 => ?_) (fun h0 => ?_)
  · rw [if_neg h0] at hr
    refine mV_iload f4_unit_32 rfl ?_
    refine mV_push f4_unit_33 ?_
    refine mV_icmp_lt f4_unit_35 (fun h1 => ?_) (fun h1 => ?_)
    · rw [if_pos h1] at hr
      refine mV_aload f4_unit_59 rfl ?_
      refine mV_push f4_unit_60 ?_
      obtain ⟨z1, hz1, hr⟩ := mBind hr
      refine mV_cV f4_unit_61 tg_m4_blame mCls4 (by decide) kk_109 (mC_deep (c4_blame X I s 1 hz1) (by decide)) rfl rfl (Nat.le_of_ble_eq_true rfl) ?_
      have hr := Option.some.inj hr; subst hr
      exact mV_zret rfl f4_unit_64 hQ
    · rw [if_neg h1] at hr
      refine mV_iload f4_unit_38 rfl ?_
      refine mV_push f4_unit_39 ?_
      refine mV_icmp_gt f4_unit_41 (fun h2 => ?_) (fun h2 => ?_)
      · rw [if_pos h2] at hr
        refine mV_aload f4_unit_59 rfl ?_
        refine mV_push f4_unit_60 ?_
        obtain ⟨z2, hz2, hr⟩ := mBind hr
        refine mV_cV f4_unit_61 tg_m4_blame mCls4 (by decide) kk_109 (mC_deep (c4_blame X I s 1 hz2) (by decide)) rfl rfl (Nat.le_of_ble_eq_true rfl) ?_
        have hr := Option.some.inj hr; subst hr
        exact mV_zret rfl f4_unit_64 hQ
      · rw [if_neg h2] at hr
        refine mV_aload f4_unit_44 rfl ?_
        refine mV_getP f4_unit_45 (by decide) kk_109 rfl (pp_109_10 _) ?_
        refine mV_push f4_unit_48 ?_
        refine mV_iload f4_unit_49 rfl ?_
        refine mV_push f4_unit_50 ?_
        refine mV_isub f4_unit_52 ?_
        obtain ⟨z3, hz3, hr⟩ := mBind hr
        refine mV_cV f4_unit_53 tg_m6_emit mCls6 (by decide) kk_114 (mC_deep (c6_emit_114 X I s 1 (z0 - 7) hz3) (by decide)) rfl rfl (Nat.le_of_ble_eq_true rfl) ?_
        refine mV_goto f4_unit_56 ?_
        refine mV_aload f4_unit_65 rfl ?_
        obtain ⟨z4, hz4, hr⟩ := mBind hr
        refine mV_cV f4_unit_66 tg_m4_step mCls4 (by decide) kk_109 (mC_deep (c4_step X z3 s hz4) (by decide)) rfl rfl (Nat.le_of_ble_eq_true rfl) ?_
        refine mV_push f4_unit_69 ?_
        have hr := Option.some.inj hr; subst hr
        exact mV_iret rfl rfl f4_unit_70 hQ
  · rw [if_pos h0] at hr
    refine mV_aload f4_unit_12 rfl ?_
    refine mV_getP f4_unit_13 (by decide) kk_109 rfl (pp_109_10 _) ?_
    refine mV_push f4_unit_16 ?_
    refine mV_aload f4_unit_17 rfl ?_
    refine mV_getP f4_unit_18 (by decide) kk_109 rfl (pp_109_3 _) ?_
    refine mV_aload f4_unit_21 rfl ?_
    refine mV_gI (I 109 6) f4_unit_22 (by decide) kk_109 rfl rfl ?_
    obtain ⟨z5, hz5, hr⟩ := mBind hr
    refine mV_ldO f4_unit_25 (by decide) kk_112 hz5 ?_
    obtain ⟨z6, hz6, hr⟩ := mBind hr
    refine mV_cV f4_unit_26 tg_m6_emit mCls6 (by decide) kk_114 (mC_deep (c6_emit_114 X I s 0 z5 hz6) (by decide)) rfl rfl (Nat.le_of_ble_eq_true rfl) ?_
    refine mV_goto f4_unit_29 ?_
    refine mV_aload f4_unit_65 rfl ?_
    obtain ⟨z7, hz7, hr⟩ := mBind hr
    refine mV_cV f4_unit_66 tg_m4_step mCls4 (by decide) kk_109 (mC_deep (c4_step X z6 s hz7) (by decide)) rfl rfl (Nat.le_of_ble_eq_true rfl) ?_
    refine mV_push f4_unit_69 ?_
    have hr := Option.some.inj hr; subst hr
    exact mV_iret rfl rfl f4_unit_70 hQ
theorem c4_unit (X : Nat × (Nat → Int32)) (I : mI) (s : Nat) {res : Int32 × mI} (hr : r4_unit I = some res) : mC X m4_unit 1 0 0 [.ref 109] NN KK I (PP s) (mRet (some (.int res.1)) NN KK res.2 (PP s)) :=
  mC_of (L0 := [.ref 109, mX0]) rfl (Nat.le_of_ble_eq_true rfl) (w4_unit X I s _ hr (mRet_ok _ _ _ _ _))
def r4_isReckoning (x0 : Int32) : Int32 := if (x0 : Int32) = (42 : Int32) then 1 else if (x0 : Int32) = (47 : Int32) then 1 else if (x0 : Int32) = (43 : Int32) then 1 else if (x0 : Int32) = (45 : Int32) then 1 else 0
set_option maxHeartbeats 4000000 in
set_option maxRecDepth 100000 in
theorem w4_isReckoning (X : Nat × (Nat → Int32)) (I : mI) (s : Nat) (x0 : Int32) (Q : mQ) {res : Int32} (hr : r4_isReckoning x0 = res) (hQ : Q (some (.int res)) NN KK I (PP s)) : mV X m4_isReckoning 0 0 0 0 [.int x0] [] NN KK I (PP s) Q := by
  unfold r4_isReckoning at hr
  refine mV_iload f4_isReckoning_0 rfl ?_
  refine mV_push f4_isReckoning_1 ?_
  refine mV_icmp_eq f4_isReckoning_3 (fun h0 => ?_) (fun h0 => ?_)
  · rw [if_pos h0] at hr
    refine mV_push f4_isReckoning_24 ?_
    refine mV_goto f4_isReckoning_25 ?_
    subst hr
    exact mV_iret rfl rfl f4_isReckoning_29 hQ
  · rw [if_neg h0] at hr
    refine mV_iload f4_isReckoning_6 rfl ?_
    refine mV_push f4_isReckoning_7 ?_
    refine mV_icmp_eq f4_isReckoning_9 (fun h1 => ?_) (fun h1 => ?_)
    · rw [if_pos h1] at hr
      refine mV_push f4_isReckoning_24 ?_
      refine mV_goto f4_isReckoning_25 ?_
      subst hr
      exact mV_iret rfl rfl f4_isReckoning_29 hQ
    · rw [if_neg h1] at hr
      refine mV_iload f4_isReckoning_12 rfl ?_
      refine mV_push f4_isReckoning_13 ?_
      refine mV_icmp_eq f4_isReckoning_15 (fun h2 => ?_) (fun h2 => ?_)
      · rw [if_pos h2] at hr
        refine mV_push f4_isReckoning_24 ?_
        refine mV_goto f4_isReckoning_25 ?_
        subst hr
        exact mV_iret rfl rfl f4_isReckoning_29 hQ
      · rw [if_neg h2] at hr
        refine mV_iload f4_isReckoning_18 rfl ?_
        refine mV_push f4_isReckoning_19 ?_
        refine mV_icmp_ne f4_isReckoning_21 (fun h3 => ?_) (fun h3 => ?_)
        · rw [if_neg h3] at hr
          refine mV_push f4_isReckoning_28 ?_
          subst hr
          exact mV_iret rfl rfl f4_isReckoning_29 hQ
        · rw [if_pos h3] at hr
          refine mV_push f4_isReckoning_24 ?_
          refine mV_goto f4_isReckoning_25 ?_
          subst hr
          exact mV_iret rfl rfl f4_isReckoning_29 hQ
theorem c4_isReckoning (X : Nat × (Nat → Int32)) (I : mI) (s : Nat) (x0 : Int32) {res : Int32} (hr : r4_isReckoning x0 = res) : mC X m4_isReckoning 0 0 0 [.int x0] NN KK I (PP s) (mRet (some (.int res)) NN KK I (PP s)) :=
  mC_of (L0 := [.int x0]) rfl (Nat.le_of_ble_eq_true rfl) (w4_isReckoning X I s x0 _ hr (mRet_ok _ _ _ _ _))
def r4_part (I : mI) : Option (Int32 × mI) := (r4_kind I).bind fun z0 => if (z0 : Int32) = (128 : Int32) then (mLd I 112 401 (I 109 6)).bind fun z1 => if (z1 : Int32) = (0 : Int32) then (r4_blame I 2).bind fun z5 => some ((z5.1 &&& 1), z5.2) else (mLd I 112 401 (I 109 6)).bind fun z2 => (r6_emit_114 I 5 z2).bind fun z3 => (r4_step z3).bind fun z4 => some (1, z4) else (r4_blame I 1).bind fun z6 => some ((z6.1 &&& 1), z6.2)
set_option maxHeartbeats 4000000 in
set_option maxRecDepth 100000 in
theorem w4_part (X : Nat × (Nat → Int32)) (I : mI) (s : Nat) (Q : mQ) {res : Int32 × mI} (hr : r4_part I = some res) (hQ : Q (some (.int res.1)) NN KK res.2 (PP s)) : mV X m4_part 1 0 0 0 [.ref 109] [] NN KK I (PP s) Q := by
  unfold r4_part at hr
  refine mV_aload f4_part_0 rfl ?_
  obtain ⟨z0, hz0, hr⟩ := mBind hr
  refine mV_cV f4_part_1 tg_m4_kind mCls4 (by decide) kk_109 (mC_deep (c4_kind X I s hz0) (by decide)) rfl rfl (Nat.le_of_ble_eq_true rfl) ?_
  refine mV_push f4_part_4 ?_
  refine mV_icmp_eq f4_part_7 (fun h0 => ?_) (fun h0 => ?_)
  · rw [if_pos h0] at hr
    refine mV_aload f4_part_16 rfl ?_
    refine mV_getP f4_part_17 (by decide) kk_109 rfl (pp_109_3 _) ?_
    refine mV_aload f4_part_20 rfl ?_
    refine mV_gI (I 109 6) f4_part_21 (by decide) kk_109 rfl rfl ?_
    obtain ⟨z1, hz1, hr⟩ := mBind hr
    refine mV_ldO f4_part_24 (by decide) kk_112 hz1 ?_
    refine mV_if_ne f4_part_25 (fun h1 => ?_) (fun h1 => ?_)
    · rw [if_neg h1] at hr
      refine mV_aload f4_part_34 rfl ?_
      refine mV_getP f4_part_35 (by decide) kk_109 rfl (pp_109_10 _) ?_
      refine mV_push f4_part_38 ?_
      refine mV_aload f4_part_39 rfl ?_
      refine mV_getP f4_part_40 (by decide) kk_109 rfl (pp_109_3 _) ?_
      refine mV_aload f4_part_43 rfl ?_
      refine mV_gI (I 109 6) f4_part_44 (by decide) kk_109 rfl rfl ?_
      obtain ⟨z2, hz2, hr⟩ := mBind hr
      refine mV_ldO f4_part_47 (by decide) kk_112 hz2 ?_
      obtain ⟨z3, hz3, hr⟩ := mBind hr
      refine mV_cV f4_part_48 tg_m6_emit mCls6 (by decide) kk_114 (mC_deep (c6_emit_114 X I s 5 z2 hz3) (by decide)) rfl rfl (Nat.le_of_ble_eq_true rfl) ?_
      refine mV_aload f4_part_51 rfl ?_
      obtain ⟨z4, hz4, hr⟩ := mBind hr
      refine mV_cV f4_part_52 tg_m4_step mCls4 (by decide) kk_109 (mC_deep (c4_step X z3 s hz4) (by decide)) rfl rfl (Nat.le_of_ble_eq_true rfl) ?_
      refine mV_push f4_part_55 ?_
      have hr := Option.some.inj hr; subst hr
      exact mV_iret rfl rfl f4_part_56 hQ
    · rw [if_pos h1] at hr
      refine mV_aload f4_part_28 rfl ?_
      refine mV_push f4_part_29 ?_
      obtain ⟨z5, hz5, hr⟩ := mBind hr
      refine mV_cV f4_part_30 tg_m4_blame mCls4 (by decide) kk_109 (mC_deep (c4_blame X I s 2 hz5) (by decide)) rfl rfl (Nat.le_of_ble_eq_true rfl) ?_
      have hr := Option.some.inj hr; subst hr
      exact mV_zret rfl f4_part_33 hQ
  · rw [if_neg h0] at hr
    refine mV_aload f4_part_10 rfl ?_
    refine mV_push f4_part_11 ?_
    obtain ⟨z6, hz6, hr⟩ := mBind hr
    refine mV_cV f4_part_12 tg_m4_blame mCls4 (by decide) kk_109 (mC_deep (c4_blame X I s 1 hz6) (by decide)) rfl rfl (Nat.le_of_ble_eq_true rfl) ?_
    have hr := Option.some.inj hr; subst hr
    exact mV_zret rfl f4_part_15 hQ
theorem c4_part (X : Nat × (Nat → Int32)) (I : mI) (s : Nat) {res : Int32 × mI} (hr : r4_part I = some res) : mC X m4_part 1 0 0 [.ref 109] NN KK I (PP s) (mRet (some (.int res.1)) NN KK res.2 (PP s)) :=
  mC_of (L0 := [.ref 109]) rfl (Nat.le_of_ble_eq_true rfl) (w4_part X I s _ hr (mRet_ok _ _ _ _ _))
def l4_expression_9 : Nat → Int32 → Int32 → Int32 → mI → Option (Int32 × Int32 × mI)
  | 0, _, _, _, _ => none
  | f + 1, y1, y2, y3, I => if (400 : Int32) ≤ (y3 : Int32) then some (y1, y2, I) else if (y2 : Int32) = (0 : Int32) then some (y1, y2, I) else (r4_kind I).bind fun z0 => if ((r4_isReckoning z0) : Int32) = (0 : Int32) then some (y1, y2, I) else (r4_kind I).bind fun z1 => (r4_step I).bind fun z2 => (if (z1 : Int32) = (47 : Int32) then (r4_part z2).bind fun z10 => some (y1, z10.1, z10.2) else if (z1 : Int32) = (42 : Int32) then (r4_unit z2).bind fun z8 => (r6_emit_114 z8.2 4 0).bind fun z9 => some (y1, z8.1, z9) else (if (y1 : Int32) = ((-1) : Int32) then some z2 else (r6_emit_114 z2 y1 0).bind fun z5 => some z5 : Option (mI)).bind fun z4 => (if (z1 : Int32) = (43 : Int32) then some 2 else some 3 : Option (Int32)).bind fun z6 => (r4_unit z4).bind fun z7 => some (z6, z7.1, z7.2) : Option (Int32 × Int32 × mI)).bind fun z3 => l4_expression_9 f z3.1 z3.2.1 (y3 + 1) z3.2.2
def r4_expression (I : mI) : Option (Int32 × mI) := (r4_unit I).bind fun z0 => (l4_expression_9 FU (-1) z0.1 0 z0.2).bind fun z1 => (if (z1.1 : Int32) = ((-1) : Int32) then some z1.2.2 else (r6_emit_114 z1.2.2 z1.1 0).bind fun z3 => some z3 : Option (mI)).bind fun z2 => some ((z1.2.1 &&& 1), z2)
set_option maxHeartbeats 4000000 in
set_option maxRecDepth 100000 in
theorem t4_expression_9 (X : Nat × (Nat → Int32)) (Q : mQ) (s : Nat) : ∀ (f : Nat) (y1 : Int32) (y2 : Int32) (y3 : Int32) (I : mI) (z : Int32 × Int32 × mI), l4_expression_9 f y1 y2 y3 I = some z → mV X m4_expression 2 0 0 117 [.ref 109, .int z.1, .int z.2.1, mX0, mX0] [] NN KK z.2.2 (PP s) Q → mV X m4_expression 2 0 0 9 [.ref 109, .int y1, .int y2, .int y3, mX0] [] NN KK I (PP s) Q := by
  intro f
  induction f with
  | zero => intro y1 y2 y3 I z hr hk; cases hr
  | succ f ih =>
    intro y1 y2 y3 I z hr hk
    unfold l4_expression_9 at hr
    refine mV_iload f4_expression_9 rfl ?_
    refine mV_push f4_expression_10 ?_
    refine mV_icmp_ge f4_expression_13 (fun h0 => ?_) (fun h0 => ?_)
    · rw [if_pos h0] at hr
      have hr := Option.some.inj hr; subst hr
      refine mV_drop (L' := [.ref 109, .int y1, .int y2, mX0, mX0]) (mSub_k (mSub_k (mSub_k (mSub_x (mSub_x mSub_n))))) ?_
      exact hk
    · rw [if_neg h0] at hr
      refine mV_iload f4_expression_16 rfl ?_
      refine mV_if_eq f4_expression_17 (fun h1 => ?_) (fun h1 => ?_)
      · rw [if_pos h1] at hr
        have hr := Option.some.inj hr; subst hr
        refine mV_drop (L' := [.ref 109, .int y1, .int y2, mX0, mX0]) (mSub_k (mSub_k (mSub_k (mSub_x (mSub_x mSub_n))))) ?_
        exact hk
      · rw [if_neg h1] at hr
        refine mV_aload f4_expression_20 rfl ?_
        obtain ⟨z0, hz0, hr⟩ := mBind hr
        refine mV_cV f4_expression_21 tg_m4_kind mCls4 (by decide) kk_109 (mC_deep (c4_kind X I s hz0) (by decide)) rfl rfl (Nat.le_of_ble_eq_true rfl) ?_
        refine mV_cS f4_expression_24 tg_m4_isReckoning (mC_deep (c4_isReckoning X I s z0 rfl) (by decide)) rfl rfl (Nat.le_of_ble_eq_true rfl) ?_
        refine mV_if_eq f4_expression_27 (fun h2 => ?_) (fun h2 => ?_)
        · rw [if_pos h2] at hr
          have hr := Option.some.inj hr; subst hr
          refine mV_drop (L' := [.ref 109, .int y1, .int y2, mX0, mX0]) (mSub_k (mSub_k (mSub_k (mSub_x (mSub_x mSub_n))))) ?_
          exact hk
        · rw [if_neg h2] at hr
          refine mV_aload f4_expression_30 rfl ?_
          obtain ⟨z1, hz1, hr⟩ := mBind hr
          refine mV_cV f4_expression_31 tg_m4_kind mCls4 (by decide) kk_109 (mC_deep (c4_kind X I s hz1) (by decide)) rfl rfl (Nat.le_of_ble_eq_true rfl) ?_
          refine mV_istore (L' := [.ref 109, .int y1, .int y2, .int y3, .int z1]) f4_expression_34 (by decide) rfl rfl ?_
          refine mV_aload f4_expression_36 rfl ?_
          obtain ⟨z2, hz2, hr⟩ := mBind hr
          refine mV_cV f4_expression_37 tg_m4_step mCls4 (by decide) kk_109 (mC_deep (c4_step X I s hz2) (by decide)) rfl rfl (Nat.le_of_ble_eq_true rfl) ?_
          refine mV_iload f4_expression_40 rfl ?_
          refine mV_push f4_expression_42 ?_
          obtain ⟨z3, hz3, hr⟩ := mBind hr
          have keyz3 : mV X m4_expression 2 0 0 111 [.ref 109, .int z3.1, .int z3.2.1, .int y3, mX0] [] NN KK z3.2.2 (PP s) Q := by
            refine mV_iinc (y := (y3 + 1)) (L' := [.ref 109, .int z3.1, .int z3.2.1, .int (y3 + 1), mX0]) f4_expression_111 rfl rfl (by decide) rfl rfl ?_
            refine mV_goto f4_expression_114 ?_
            exact ih z3.1 z3.2.1 (y3 + 1) z3.2.2 _ hr hk
          clear hr
          have hr := hz3
          clear hz3
          refine mV_icmp_ne f4_expression_44 (fun h3 => ?_) (fun h3 => ?_)
          · rw [if_neg h3] at hr
            refine mV_iload f4_expression_55 rfl ?_
            refine mV_push f4_expression_57 ?_
            refine mV_icmp_ne f4_expression_59 (fun h4 => ?_) (fun h4 => ?_)
            · rw [if_neg h4] at hr
              refine mV_iload f4_expression_79 rfl ?_
              refine mV_push f4_expression_80 ?_
              obtain ⟨z4, hz4, hr⟩ := mBind hr
              have keyz4 : mV X m4_expression 2 0 0 93 [.ref 109, mX0, mX0, .int y3, .int z1] [] NN KK z4 (PP s) Q := by
                refine mV_iload f4_expression_93 rfl ?_
                refine mV_push f4_expression_95 ?_
                obtain ⟨z6, hz6, hr⟩ := mBind hr
                have keyz6 : mV X m4_expression 2 0 0 105 [.ref 109, mX0, mX0, .int y3, mX0] [.int z6] NN KK z4 (PP s) Q := by
                  refine mV_istore (L' := [.ref 109, .int z6, mX0, .int y3, mX0]) f4_expression_105 (by decide) rfl rfl ?_
                  refine mV_aload f4_expression_106 rfl ?_
                  obtain ⟨z7, hz7, hr⟩ := mBind hr
                  refine mV_cV f4_expression_107 tg_m4_unit mCls4 (by decide) kk_109 (mC_deep (c4_unit X z4 s hz7) (by decide)) rfl rfl (Nat.le_of_ble_eq_true rfl) ?_
                  refine mV_istore (L' := [.ref 109, .int z6, .int z7.1, .int y3, mX0]) f4_expression_110 (by decide) rfl rfl ?_
                  have hr := Option.some.inj hr; subst hr
                  exact keyz3
                clear hr
                have hr := hz6
                clear hz6
                refine mV_icmp_ne f4_expression_97 (fun h6 => ?_) (fun h6 => ?_)
                · rw [if_neg h6] at hr
                  refine mV_push f4_expression_104 ?_
                  have hr := Option.some.inj hr; subst hr
                  refine mV_drop (L' := [.ref 109, mX0, mX0, .int y3, mX0]) (mSub_k (mSub_x (mSub_x (mSub_k (mSub_x mSub_n))))) ?_
                  exact keyz6
                · rw [if_pos h6] at hr
                  refine mV_push f4_expression_100 ?_
                  refine mV_goto f4_expression_101 ?_
                  have hr := Option.some.inj hr; subst hr
                  refine mV_drop (L' := [.ref 109, mX0, mX0, .int y3, mX0]) (mSub_k (mSub_x (mSub_x (mSub_k (mSub_x mSub_n))))) ?_
                  exact keyz6
              clear hr
              have hr := hz4
              clear hz4
              refine mV_icmp_eq f4_expression_81 (fun h5 => ?_) (fun h5 => ?_)
              · rw [if_pos h5] at hr
                have hr := Option.some.inj hr; subst hr
                refine mV_drop (L' := [.ref 109, mX0, mX0, .int y3, .int z1]) (mSub_k (mSub_x (mSub_x (mSub_k (mSub_k mSub_n))))) ?_
                exact keyz4
              · rw [if_neg h5] at hr
                refine mV_aload f4_expression_84 rfl ?_
                refine mV_getP f4_expression_85 (by decide) kk_109 rfl (pp_109_10 _) ?_
                refine mV_iload f4_expression_88 rfl ?_
                refine mV_push f4_expression_89 ?_
                obtain ⟨z5, hz5, hr⟩ := mBind hr
                refine mV_cV f4_expression_90 tg_m6_emit mCls6 (by decide) kk_114 (mC_deep (c6_emit_114 X z2 s y1 0 hz5) (by decide)) rfl rfl (Nat.le_of_ble_eq_true rfl) ?_
                have hr := Option.some.inj hr; subst hr
                refine mV_drop (L' := [.ref 109, mX0, mX0, .int y3, .int z1]) (mSub_k (mSub_x (mSub_x (mSub_k (mSub_k mSub_n))))) ?_
                exact keyz4
            · rw [if_pos h4] at hr
              refine mV_aload f4_expression_62 rfl ?_
              obtain ⟨z8, hz8, hr⟩ := mBind hr
              refine mV_cV f4_expression_63 tg_m4_unit mCls4 (by decide) kk_109 (mC_deep (c4_unit X z2 s hz8) (by decide)) rfl rfl (Nat.le_of_ble_eq_true rfl) ?_
              refine mV_istore (L' := [.ref 109, .int y1, .int z8.1, .int y3, .int z1]) f4_expression_66 (by decide) rfl rfl ?_
              refine mV_aload f4_expression_67 rfl ?_
              refine mV_getP f4_expression_68 (by decide) kk_109 rfl (pp_109_10 _) ?_
              refine mV_push f4_expression_71 ?_
              refine mV_push f4_expression_72 ?_
              obtain ⟨z9, hz9, hr⟩ := mBind hr
              refine mV_cV f4_expression_73 tg_m6_emit mCls6 (by decide) kk_114 (mC_deep (c6_emit_114 X z8.2 s 4 0 hz9) (by decide)) rfl rfl (Nat.le_of_ble_eq_true rfl) ?_
              refine mV_goto f4_expression_76 ?_
              have hr := Option.some.inj hr; subst hr
              refine mV_drop (L' := [.ref 109, .int y1, .int z8.1, .int y3, mX0]) (mSub_k (mSub_k (mSub_k (mSub_k (mSub_x mSub_n))))) ?_
              exact keyz3
          · rw [if_pos h3] at hr
            refine mV_aload f4_expression_47 rfl ?_
            obtain ⟨z10, hz10, hr⟩ := mBind hr
            refine mV_cV f4_expression_48 tg_m4_part mCls4 (by decide) kk_109 (mC_deep (c4_part X z2 s hz10) (by decide)) rfl rfl (Nat.le_of_ble_eq_true rfl) ?_
            refine mV_istore (L' := [.ref 109, .int y1, .int z10.1, .int y3, .int z1]) f4_expression_51 (by decide) rfl rfl ?_
            refine mV_goto f4_expression_52 ?_
            have hr := Option.some.inj hr; subst hr
            refine mV_drop (L' := [.ref 109, .int y1, .int z10.1, .int y3, mX0]) (mSub_k (mSub_k (mSub_k (mSub_k (mSub_x mSub_n))))) ?_
            exact keyz3
set_option maxHeartbeats 4000000 in
set_option maxRecDepth 100000 in
theorem w4_expression (X : Nat × (Nat → Int32)) (I : mI) (s : Nat) (Q : mQ) {res : Int32 × mI} (hr : r4_expression I = some res) (hQ : Q (some (.int res.1)) NN KK res.2 (PP s)) : mV X m4_expression 2 0 0 0 [.ref 109, mX0, mX0, mX0, mX0] [] NN KK I (PP s) Q := by
  unfold r4_expression at hr
  refine mV_push f4_expression_0 ?_
  refine mV_istore (L' := [.ref 109, .int (-1), mX0, mX0, mX0]) f4_expression_1 (by decide) rfl rfl ?_
  refine mV_aload f4_expression_2 rfl ?_
  obtain ⟨z0, hz0, hr⟩ := mBind hr
  refine mV_cV f4_expression_3 tg_m4_unit mCls4 (by decide) kk_109 (mC_deep (c4_unit X I s hz0) (by decide)) rfl rfl (Nat.le_of_ble_eq_true rfl) ?_
  refine mV_istore (L' := [.ref 109, .int (-1), .int z0.1, mX0, mX0]) f4_expression_6 (by decide) rfl rfl ?_
  refine mV_push f4_expression_7 ?_
  refine mV_istore (L' := [.ref 109, .int (-1), .int z0.1, .int 0, mX0]) f4_expression_8 (by decide) rfl rfl ?_
  obtain ⟨z1, hz1, hr⟩ := mBind hr
  refine t4_expression_9 X Q s FU (-1) z0.1 0 z0.2 _ hz1 ?_
  refine mV_iload f4_expression_117 rfl ?_
  refine mV_push f4_expression_118 ?_
  obtain ⟨z2, hz2, hr⟩ := mBind hr
  have keyz2 : mV X m4_expression 2 0 0 131 [.ref 109, mX0, .int z1.2.1, mX0, mX0] [] NN KK z2 (PP s) Q := by
    refine mV_iload f4_expression_131 rfl ?_
    have hr := Option.some.inj hr; subst hr
    exact mV_zret rfl f4_expression_132 hQ
  clear hr
  have hr := hz2
  clear hz2
  refine mV_icmp_eq f4_expression_119 (fun h0 => ?_) (fun h0 => ?_)
  · rw [if_pos h0] at hr
    have hr := Option.some.inj hr; subst hr
    refine mV_drop (L' := [.ref 109, mX0, .int z1.2.1, mX0, mX0]) (mSub_k (mSub_x (mSub_k (mSub_x (mSub_x mSub_n))))) ?_
    exact keyz2
  · rw [if_neg h0] at hr
    refine mV_aload f4_expression_122 rfl ?_
    refine mV_getP f4_expression_123 (by decide) kk_109 rfl (pp_109_10 _) ?_
    refine mV_iload f4_expression_126 rfl ?_
    refine mV_push f4_expression_127 ?_
    obtain ⟨z3, hz3, hr⟩ := mBind hr
    refine mV_cV f4_expression_128 tg_m6_emit mCls6 (by decide) kk_114 (mC_deep (c6_emit_114 X z1.2.2 s z1.1 0 hz3) (by decide)) rfl rfl (Nat.le_of_ble_eq_true rfl) ?_
    have hr := Option.some.inj hr; subst hr
    refine mV_drop (L' := [.ref 109, mX0, .int z1.2.1, mX0, mX0]) (mSub_k (mSub_x (mSub_k (mSub_x (mSub_x mSub_n))))) ?_
    exact keyz2
theorem c4_expression (X : Nat × (Nat → Int32)) (I : mI) (s : Nat) {res : Int32 × mI} (hr : r4_expression I = some res) : mC X m4_expression 2 0 0 [.ref 109] NN KK I (PP s) (mRet (some (.int res.1)) NN KK res.2 (PP s)) :=
  mC_of (L0 := [.ref 109, mX0, mX0, mX0, mX0]) rfl (Nat.le_of_ble_eq_true rfl) (w4_expression X I s _ hr (mRet_ok _ _ _ _ _))
def r4_single (rc : mI → Int32 → Option (Int32 × mI)) (I : mI) : Option (Int32 × mI) := (r4_kind I).bind fun z0 => if (z0 : Int32) = (6 : Int32) then (r4_kind I).bind fun z1 => (rc I z1).bind fun z2 => some ((z2.1 &&& 1), z2.2) else (r4_kind I).bind fun z3 => if (z3 : Int32) = (40 : Int32) then (r4_kind I).bind fun z19 => (rc I z19).bind fun z20 => some ((z20.1 &&& 1), z20.2) else (r4_expression I).bind fun z4 => if (z4.1 : Int32) = (0 : Int32) then some (0, z4.2) else (r4_kind z4.2).bind fun z5 => if (z5 : Int32) = (60 : Int32) then (r4_step z4.2).bind fun z6 => (r4_expression z6).bind fun z7 => if (z7.1 : Int32) = (0 : Int32) then some (0, z7.2) else (if (z5 : Int32) = (60 : Int32) then some 6 else if (z5 : Int32) = (61 : Int32) then some 7 else some 8 : Option (Int32)).bind fun z8 => (r6_emit_114 z7.2 z8 0).bind fun z9 => some (1, z9) else if (z5 : Int32) = (61 : Int32) then (r4_step z4.2).bind fun z10 => (r4_expression z10).bind fun z11 => if (z11.1 : Int32) = (0 : Int32) then some (0, z11.2) else (if (z5 : Int32) = (60 : Int32) then some 6 else if (z5 : Int32) = (61 : Int32) then some 7 else some 8 : Option (Int32)).bind fun z12 => (r6_emit_114 z11.2 z12 0).bind fun z13 => some (1, z13) else if (z5 : Int32) = (62 : Int32) then (r4_step z4.2).bind fun z14 => (r4_expression z14).bind fun z15 => if (z15.1 : Int32) = (0 : Int32) then some (0, z15.2) else (if (z5 : Int32) = (60 : Int32) then some 6 else if (z5 : Int32) = (61 : Int32) then some 7 else some 8 : Option (Int32)).bind fun z16 => (r6_emit_114 z15.2 z16 0).bind fun z17 => some (1, z17) else (r4_blame z4.2 1).bind fun z18 => some ((z18.1 &&& 1), z18.2)
set_option maxHeartbeats 4000000 in
set_option maxRecDepth 100000 in
theorem w4_single (X : Nat × (Nat → Int32)) (I : mI) (s : Nat) (rc : mI → Int32 → Option (Int32 × mI)) (dr : Nat) (hrc : ∀ (I : mI) (x0 : Int32) (res : Int32 × mI), rc I x0 = some res → mC X m4_enclosed dr 0 0 [.ref 109, .int x0] NN KK I (PP s) (mRet (some (.int res.1)) NN KK res.2 (PP s))) (Q : mQ) {res : Int32 × mI} (hr : r4_single rc I = some res) (hQ : Q (some (.int res.1)) NN KK res.2 (PP s)) : mV X m4_single (dr + 3) 0 0 0 [.ref 109, mX0] [] NN KK I (PP s) Q := by
  unfold r4_single at hr
  refine mV_aload f4_single_0 rfl ?_
  obtain ⟨z0, hz0, hr⟩ := mBind hr
  refine mV_cV f4_single_1 tg_m4_kind mCls4 (by decide) kk_109 (mC_deep (c4_kind X I s hz0) (by omega)) rfl rfl (Nat.le_of_ble_eq_true rfl) ?_
  refine mV_push f4_single_4 ?_
  refine mV_icmp_eq f4_single_6 (fun h0 => ?_) (fun h0 => ?_)
  · rw [if_pos h0] at hr
    refine mV_aload f4_single_18 rfl ?_
    refine mV_aload f4_single_19 rfl ?_
    obtain ⟨z1, hz1, hr⟩ := mBind hr
    refine mV_cV f4_single_20 tg_m4_kind mCls4 (by decide) kk_109 (mC_deep (c4_kind X I s hz1) (by omega)) rfl rfl (Nat.le_of_ble_eq_true rfl) ?_
    obtain ⟨z2, hz2, hr⟩ := mBind hr
    refine mV_cV f4_single_23 tg_m4_enclosed mCls4 (by decide) kk_109 (mC_deep (hrc I z1 z2 hz2) (by omega)) rfl rfl (Nat.le_of_ble_eq_true rfl) ?_
    have hr := Option.some.inj hr; subst hr
    exact mV_zret rfl f4_single_26 hQ
  · rw [if_neg h0] at hr
    refine mV_aload f4_single_9 rfl ?_
    obtain ⟨z3, hz3, hr⟩ := mBind hr
    refine mV_cV f4_single_10 tg_m4_kind mCls4 (by decide) kk_109 (mC_deep (c4_kind X I s hz3) (by omega)) rfl rfl (Nat.le_of_ble_eq_true rfl) ?_
    refine mV_push f4_single_13 ?_
    refine mV_icmp_ne f4_single_15 (fun h1 => ?_) (fun h1 => ?_)
    · rw [if_neg h1] at hr
      refine mV_aload f4_single_27 rfl ?_
      obtain ⟨z4, hz4, hr⟩ := mBind hr
      refine mV_cV f4_single_28 tg_m4_expression mCls4 (by decide) kk_109 (mC_deep (c4_expression X I s hz4) (by omega)) rfl rfl (Nat.le_of_ble_eq_true rfl) ?_
      refine mV_if_ne f4_single_31 (fun h2 => ?_) (fun h2 => ?_)
      · rw [if_neg h2] at hr
        refine mV_aload f4_single_36 rfl ?_
        obtain ⟨z5, hz5, hr⟩ := mBind hr
        refine mV_cV f4_single_37 tg_m4_kind mCls4 (by decide) kk_109 (mC_deep (c4_kind X z4.2 s hz5) (by omega)) rfl rfl (Nat.le_of_ble_eq_true rfl) ?_
        refine mV_istore (L' := [.ref 109, .int z5]) f4_single_40 (by decide) rfl rfl ?_
        refine mV_iload f4_single_41 rfl ?_
        refine mV_push f4_single_42 ?_
        refine mV_icmp_eq f4_single_44 (fun h3 => ?_) (fun h3 => ?_)
        · rw [if_pos h3] at hr
          refine mV_aload f4_single_65 rfl ?_
          obtain ⟨z6, hz6, hr⟩ := mBind hr
          refine mV_cV f4_single_66 tg_m4_step mCls4 (by decide) kk_109 (mC_deep (c4_step X z4.2 s hz6) (by omega)) rfl rfl (Nat.le_of_ble_eq_true rfl) ?_
          refine mV_aload f4_single_69 rfl ?_
          obtain ⟨z7, hz7, hr⟩ := mBind hr
          refine mV_cV f4_single_70 tg_m4_expression mCls4 (by decide) kk_109 (mC_deep (c4_expression X z6 s hz7) (by omega)) rfl rfl (Nat.le_of_ble_eq_true rfl) ?_
          refine mV_if_ne f4_single_73 (fun h4 => ?_) (fun h4 => ?_)
          · rw [if_neg h4] at hr
            refine mV_aload f4_single_78 rfl ?_
            refine mV_getP f4_single_79 (by decide) kk_109 rfl (pp_109_10 _) ?_
            refine mV_iload f4_single_82 rfl ?_
            refine mV_push f4_single_83 ?_
            obtain ⟨z8, hz8, hr⟩ := mBind hr
            have keyz8 : mV X m4_single (dr + 3) 0 0 106 [.ref 109, mX0] [.int z8, .ref 114] NN KK z7.2 (PP s) Q := by
              refine mV_push f4_single_106 ?_
              obtain ⟨z9, hz9, hr⟩ := mBind hr
              refine mV_cV f4_single_107 tg_m6_emit mCls6 (by decide) kk_114 (mC_deep (c6_emit_114 X z7.2 s z8 0 hz9) (by omega)) rfl rfl (Nat.le_of_ble_eq_true rfl) ?_
              refine mV_push f4_single_110 ?_
              have hr := Option.some.inj hr; subst hr
              exact mV_iret rfl rfl f4_single_111 hQ
            clear hr
            have hr := hz8
            clear hz8
            refine mV_icmp_ne f4_single_85 (fun h5 => ?_) (fun h5 => ?_)
            · rw [if_neg h5] at hr
              refine mV_iload f4_single_93 rfl ?_
              refine mV_push f4_single_94 ?_
              refine mV_icmp_ne f4_single_96 (fun h6 => ?_) (fun h6 => ?_)
              · rw [if_neg h6] at hr
                refine mV_push f4_single_104 ?_
                have hr := Option.some.inj hr; subst hr
                refine mV_drop (L' := [.ref 109, mX0]) (mSub_k (mSub_x mSub_n)) ?_
                exact keyz8
              · rw [if_pos h6] at hr
                refine mV_push f4_single_99 ?_
                refine mV_goto f4_single_101 ?_
                have hr := Option.some.inj hr; subst hr
                refine mV_drop (L' := [.ref 109, mX0]) (mSub_k (mSub_x mSub_n)) ?_
                exact keyz8
            · rw [if_pos h5] at hr
              refine mV_push f4_single_88 ?_
              refine mV_goto f4_single_90 ?_
              have hr := Option.some.inj hr; subst hr
              refine mV_drop (L' := [.ref 109, mX0]) (mSub_k (mSub_x mSub_n)) ?_
              exact keyz8
          · rw [if_pos h4] at hr
            refine mV_push f4_single_76 ?_
            have hr := Option.some.inj hr; subst hr
            exact mV_iret rfl rfl f4_single_77 hQ
        · rw [if_neg h3] at hr
          refine mV_iload f4_single_47 rfl ?_
          refine mV_push f4_single_48 ?_
          refine mV_icmp_eq f4_single_50 (fun h7 => ?_) (fun h7 => ?_)
          · rw [if_pos h7] at hr
            refine mV_aload f4_single_65 rfl ?_
            obtain ⟨z10, hz10, hr⟩ := mBind hr
            refine mV_cV f4_single_66 tg_m4_step mCls4 (by decide) kk_109 (mC_deep (c4_step X z4.2 s hz10) (by omega)) rfl rfl (Nat.le_of_ble_eq_true rfl) ?_
            refine mV_aload f4_single_69 rfl ?_
            obtain ⟨z11, hz11, hr⟩ := mBind hr
            refine mV_cV f4_single_70 tg_m4_expression mCls4 (by decide) kk_109 (mC_deep (c4_expression X z10 s hz11) (by omega)) rfl rfl (Nat.le_of_ble_eq_true rfl) ?_
            refine mV_if_ne f4_single_73 (fun h8 => ?_) (fun h8 => ?_)
            · rw [if_neg h8] at hr
              refine mV_aload f4_single_78 rfl ?_
              refine mV_getP f4_single_79 (by decide) kk_109 rfl (pp_109_10 _) ?_
              refine mV_iload f4_single_82 rfl ?_
              refine mV_push f4_single_83 ?_
              obtain ⟨z12, hz12, hr⟩ := mBind hr
              have keyz12 : mV X m4_single (dr + 3) 0 0 106 [.ref 109, mX0] [.int z12, .ref 114] NN KK z11.2 (PP s) Q := by
                refine mV_push f4_single_106 ?_
                obtain ⟨z13, hz13, hr⟩ := mBind hr
                refine mV_cV f4_single_107 tg_m6_emit mCls6 (by decide) kk_114 (mC_deep (c6_emit_114 X z11.2 s z12 0 hz13) (by omega)) rfl rfl (Nat.le_of_ble_eq_true rfl) ?_
                refine mV_push f4_single_110 ?_
                have hr := Option.some.inj hr; subst hr
                exact mV_iret rfl rfl f4_single_111 hQ
              clear hr
              have hr := hz12
              clear hz12
              refine mV_icmp_ne f4_single_85 (fun h9 => ?_) (fun h9 => ?_)
              · rw [if_neg h9] at hr
                refine mV_iload f4_single_93 rfl ?_
                refine mV_push f4_single_94 ?_
                refine mV_icmp_ne f4_single_96 (fun h10 => ?_) (fun h10 => ?_)
                · rw [if_neg h10] at hr
                  refine mV_push f4_single_104 ?_
                  have hr := Option.some.inj hr; subst hr
                  refine mV_drop (L' := [.ref 109, mX0]) (mSub_k (mSub_x mSub_n)) ?_
                  exact keyz12
                · rw [if_pos h10] at hr
                  refine mV_push f4_single_99 ?_
                  refine mV_goto f4_single_101 ?_
                  have hr := Option.some.inj hr; subst hr
                  refine mV_drop (L' := [.ref 109, mX0]) (mSub_k (mSub_x mSub_n)) ?_
                  exact keyz12
              · rw [if_pos h9] at hr
                refine mV_push f4_single_88 ?_
                refine mV_goto f4_single_90 ?_
                have hr := Option.some.inj hr; subst hr
                refine mV_drop (L' := [.ref 109, mX0]) (mSub_k (mSub_x mSub_n)) ?_
                exact keyz12
            · rw [if_pos h8] at hr
              refine mV_push f4_single_76 ?_
              have hr := Option.some.inj hr; subst hr
              exact mV_iret rfl rfl f4_single_77 hQ
          · rw [if_neg h7] at hr
            refine mV_iload f4_single_53 rfl ?_
            refine mV_push f4_single_54 ?_
            refine mV_icmp_eq f4_single_56 (fun h11 => ?_) (fun h11 => ?_)
            · rw [if_pos h11] at hr
              refine mV_aload f4_single_65 rfl ?_
              obtain ⟨z14, hz14, hr⟩ := mBind hr
              refine mV_cV f4_single_66 tg_m4_step mCls4 (by decide) kk_109 (mC_deep (c4_step X z4.2 s hz14) (by omega)) rfl rfl (Nat.le_of_ble_eq_true rfl) ?_
              refine mV_aload f4_single_69 rfl ?_
              obtain ⟨z15, hz15, hr⟩ := mBind hr
              refine mV_cV f4_single_70 tg_m4_expression mCls4 (by decide) kk_109 (mC_deep (c4_expression X z14 s hz15) (by omega)) rfl rfl (Nat.le_of_ble_eq_true rfl) ?_
              refine mV_if_ne f4_single_73 (fun h12 => ?_) (fun h12 => ?_)
              · rw [if_neg h12] at hr
                refine mV_aload f4_single_78 rfl ?_
                refine mV_getP f4_single_79 (by decide) kk_109 rfl (pp_109_10 _) ?_
                refine mV_iload f4_single_82 rfl ?_
                refine mV_push f4_single_83 ?_
                obtain ⟨z16, hz16, hr⟩ := mBind hr
                have keyz16 : mV X m4_single (dr + 3) 0 0 106 [.ref 109, mX0] [.int z16, .ref 114] NN KK z15.2 (PP s) Q := by
                  refine mV_push f4_single_106 ?_
                  obtain ⟨z17, hz17, hr⟩ := mBind hr
                  refine mV_cV f4_single_107 tg_m6_emit mCls6 (by decide) kk_114 (mC_deep (c6_emit_114 X z15.2 s z16 0 hz17) (by omega)) rfl rfl (Nat.le_of_ble_eq_true rfl) ?_
                  refine mV_push f4_single_110 ?_
                  have hr := Option.some.inj hr; subst hr
                  exact mV_iret rfl rfl f4_single_111 hQ
                clear hr
                have hr := hz16
                clear hz16
                refine mV_icmp_ne f4_single_85 (fun h13 => ?_) (fun h13 => ?_)
                · rw [if_neg h13] at hr
                  refine mV_iload f4_single_93 rfl ?_
                  refine mV_push f4_single_94 ?_
                  refine mV_icmp_ne f4_single_96 (fun h14 => ?_) (fun h14 => ?_)
                  · rw [if_neg h14] at hr
                    refine mV_push f4_single_104 ?_
                    have hr := Option.some.inj hr; subst hr
                    refine mV_drop (L' := [.ref 109, mX0]) (mSub_k (mSub_x mSub_n)) ?_
                    exact keyz16
                  · rw [if_pos h14] at hr
                    refine mV_push f4_single_99 ?_
                    refine mV_goto f4_single_101 ?_
                    have hr := Option.some.inj hr; subst hr
                    refine mV_drop (L' := [.ref 109, mX0]) (mSub_k (mSub_x mSub_n)) ?_
                    exact keyz16
                · rw [if_pos h13] at hr
                  refine mV_push f4_single_88 ?_
                  refine mV_goto f4_single_90 ?_
                  have hr := Option.some.inj hr; subst hr
                  refine mV_drop (L' := [.ref 109, mX0]) (mSub_k (mSub_x mSub_n)) ?_
                  exact keyz16
              · rw [if_pos h12] at hr
                refine mV_push f4_single_76 ?_
                have hr := Option.some.inj hr; subst hr
                exact mV_iret rfl rfl f4_single_77 hQ
            · rw [if_neg h11] at hr
              refine mV_aload f4_single_59 rfl ?_
              refine mV_push f4_single_60 ?_
              obtain ⟨z18, hz18, hr⟩ := mBind hr
              refine mV_cV f4_single_61 tg_m4_blame mCls4 (by decide) kk_109 (mC_deep (c4_blame X z4.2 s 1 hz18) (by omega)) rfl rfl (Nat.le_of_ble_eq_true rfl) ?_
              have hr := Option.some.inj hr; subst hr
              exact mV_zret rfl f4_single_64 hQ
      · rw [if_pos h2] at hr
        refine mV_push f4_single_34 ?_
        have hr := Option.some.inj hr; subst hr
        exact mV_iret rfl rfl f4_single_35 hQ
    · rw [if_pos h1] at hr
      refine mV_aload f4_single_18 rfl ?_
      refine mV_aload f4_single_19 rfl ?_
      obtain ⟨z19, hz19, hr⟩ := mBind hr
      refine mV_cV f4_single_20 tg_m4_kind mCls4 (by decide) kk_109 (mC_deep (c4_kind X I s hz19) (by omega)) rfl rfl (Nat.le_of_ble_eq_true rfl) ?_
      obtain ⟨z20, hz20, hr⟩ := mBind hr
      refine mV_cV f4_single_23 tg_m4_enclosed mCls4 (by decide) kk_109 (mC_deep (hrc I z19 z20 hz20) (by omega)) rfl rfl (Nat.le_of_ble_eq_true rfl) ?_
      have hr := Option.some.inj hr; subst hr
      exact mV_zret rfl f4_single_26 hQ
theorem c4_single (X : Nat × (Nat → Int32)) (I : mI) (s : Nat) (rc : mI → Int32 → Option (Int32 × mI)) (dr : Nat) (hrc : ∀ (I : mI) (x0 : Int32) (res : Int32 × mI), rc I x0 = some res → mC X m4_enclosed dr 0 0 [.ref 109, .int x0] NN KK I (PP s) (mRet (some (.int res.1)) NN KK res.2 (PP s))) {res : Int32 × mI} (hr : r4_single rc I = some res) : mC X m4_single (dr + 3) 0 0 [.ref 109] NN KK I (PP s) (mRet (some (.int res.1)) NN KK res.2 (PP s)) :=
  mC_of (L0 := [.ref 109, mX0]) rfl (Nat.le_of_ble_eq_true rfl) (w4_single X I s rc dr hrc _ hr (mRet_ok _ _ _ _ _))
def l4_condition_9 (rc : mI → Int32 → Option (Int32 × mI)) : Nat → Int32 → Int32 → Int32 → mI → Option (Int32 × Int32 × mI)
  | 0, _, _, _, _ => none
  | f + 1, y1, y2, y3, I => if (400 : Int32) ≤ (y3 : Int32) then some (y1, y2, I) else if (y2 : Int32) = (0 : Int32) then some (y1, y2, I) else (r4_kind I).bind fun z0 => if (z0 : Int32) = (5 : Int32) then (r4_kind I).bind fun z1 => (if (z1 : Int32) = (4 : Int32) then some 1 else some 0 : Option (Int32)).bind fun z2 => (if (z2 : Int32) = (0 : Int32) then some I else if (y1 : Int32) = (0 : Int32) then some I else (r6_emit_114 I 11 0).bind fun z4 => some z4 : Option (mI)).bind fun z3 => (if (y1 : Int32) = (0 : Int32) then if (z2 : Int32) = (0 : Int32) then some 0 else some 1 else some 1 : Option (Int32)).bind fun z5 => (r4_step z3).bind fun z6 => (r4_single rc z6).bind fun z7 => (if (z2 : Int32) = (0 : Int32) then (r6_emit_114 z7.2 10 0).bind fun z9 => some z9 else some z7.2 : Option (mI)).bind fun z8 => l4_condition_9 rc f z5 z7.1 (y3 + 1) z8 else (r4_kind I).bind fun z10 => if (z10 : Int32) = (4 : Int32) then (r4_kind I).bind fun z11 => (if (z11 : Int32) = (4 : Int32) then some 1 else some 0 : Option (Int32)).bind fun z12 => (if (z12 : Int32) = (0 : Int32) then some I else if (y1 : Int32) = (0 : Int32) then some I else (r6_emit_114 I 11 0).bind fun z14 => some z14 : Option (mI)).bind fun z13 => (if (y1 : Int32) = (0 : Int32) then if (z12 : Int32) = (0 : Int32) then some 0 else some 1 else some 1 : Option (Int32)).bind fun z15 => (r4_step z13).bind fun z16 => (r4_single rc z16).bind fun z17 => (if (z12 : Int32) = (0 : Int32) then (r6_emit_114 z17.2 10 0).bind fun z19 => some z19 else some z17.2 : Option (mI)).bind fun z18 => l4_condition_9 rc f z15 z17.1 (y3 + 1) z18 else some (y1, y2, I)
def r4_condition (rc : mI → Int32 → Option (Int32 × mI)) (I : mI) : Option (Int32 × mI) := (r4_single rc I).bind fun z0 => (l4_condition_9 rc FU 0 z0.1 0 z0.2).bind fun z1 => (if (z1.1 : Int32) = (0 : Int32) then some z1.2.2 else (r6_emit_114 z1.2.2 11 0).bind fun z3 => some z3 : Option (mI)).bind fun z2 => some ((z1.2.1 &&& 1), z2)
set_option maxHeartbeats 4000000 in
set_option maxRecDepth 100000 in
theorem t4_condition_9 (X : Nat × (Nat → Int32)) (Q : mQ) (s : Nat) (rc : mI → Int32 → Option (Int32 × mI)) (dr : Nat) (hrc : ∀ (I : mI) (x0 : Int32) (res : Int32 × mI), rc I x0 = some res → mC X m4_enclosed dr 0 0 [.ref 109, .int x0] NN KK I (PP s) (mRet (some (.int res.1)) NN KK res.2 (PP s))) : ∀ (f : Nat) (y1 : Int32) (y2 : Int32) (y3 : Int32) (I : mI) (z : Int32 × Int32 × mI), l4_condition_9 rc f y1 y2 y3 I = some z → mV X m4_condition (dr + 4) 0 0 115 [.ref 109, .int z.1, .int z.2.1, mX0, mX0] [] NN KK z.2.2 (PP s) Q → mV X m4_condition (dr + 4) 0 0 9 [.ref 109, .int y1, .int y2, .int y3, mX0] [] NN KK I (PP s) Q := by
  intro f
  induction f with
  | zero => intro y1 y2 y3 I z hr hk; cases hr
  | succ f ih =>
    intro y1 y2 y3 I z hr hk
    unfold l4_condition_9 at hr
    refine mV_iload f4_condition_9 rfl ?_
    refine mV_push f4_condition_10 ?_
    refine mV_icmp_ge f4_condition_13 (fun h0 => ?_) (fun h0 => ?_)
    · rw [if_pos h0] at hr
      have hr := Option.some.inj hr; subst hr
      refine mV_drop (L' := [.ref 109, .int y1, .int y2, mX0, mX0]) (mSub_k (mSub_k (mSub_k (mSub_x (mSub_x mSub_n))))) ?_
      exact hk
    · rw [if_neg h0] at hr
      refine mV_iload f4_condition_16 rfl ?_
      refine mV_if_eq f4_condition_17 (fun h1 => ?_) (fun h1 => ?_)
      · rw [if_pos h1] at hr
        have hr := Option.some.inj hr; subst hr
        refine mV_drop (L' := [.ref 109, .int y1, .int y2, mX0, mX0]) (mSub_k (mSub_k (mSub_k (mSub_x (mSub_x mSub_n))))) ?_
        exact hk
      · rw [if_neg h1] at hr
        refine mV_aload f4_condition_20 rfl ?_
        obtain ⟨z0, hz0, hr⟩ := mBind hr
        refine mV_cV f4_condition_21 tg_m4_kind mCls4 (by decide) kk_109 (mC_deep (c4_kind X I s hz0) (by omega)) rfl rfl (Nat.le_of_ble_eq_true rfl) ?_
        refine mV_push f4_condition_24 ?_
        refine mV_icmp_eq f4_condition_25 (fun h2 => ?_) (fun h2 => ?_)
        · rw [if_pos h2] at hr
          refine mV_aload f4_condition_36 rfl ?_
          obtain ⟨z1, hz1, hr⟩ := mBind hr
          refine mV_cV f4_condition_37 tg_m4_kind mCls4 (by decide) kk_109 (mC_deep (c4_kind X I s hz1) (by omega)) rfl rfl (Nat.le_of_ble_eq_true rfl) ?_
          refine mV_push f4_condition_40 ?_
          obtain ⟨z2, hz2, hr⟩ := mBind hr
          have keyz2 : mV X m4_condition (dr + 4) 0 0 49 [.ref 109, .int y1, mX0, .int y3, mX0] [.int z2] NN KK I (PP s) Q := by
            refine mV_istore (L' := [.ref 109, .int y1, mX0, .int y3, .int z2]) f4_condition_49 (by decide) rfl rfl ?_
            refine mV_iload f4_condition_51 rfl ?_
            obtain ⟨z3, hz3, hr⟩ := mBind hr
            have keyz3 : mV X m4_condition (dr + 4) 0 0 70 [.ref 109, .int y1, mX0, .int y3, .int z2] [] NN KK z3 (PP s) Q := by
              refine mV_iload f4_condition_70 rfl ?_
              obtain ⟨z5, hz5, hr⟩ := mBind hr
              have keyz5 : mV X m4_condition (dr + 4) 0 0 84 [.ref 109, mX0, mX0, .int y3, .int z2] [.int z5] NN KK z3 (PP s) Q := by
                refine mV_istore (L' := [.ref 109, .int z5, mX0, .int y3, .int z2]) f4_condition_84 (by decide) rfl rfl ?_
                refine mV_aload f4_condition_85 rfl ?_
                obtain ⟨z6, hz6, hr⟩ := mBind hr
                refine mV_cV f4_condition_86 tg_m4_step mCls4 (by decide) kk_109 (mC_deep (c4_step X z3 s hz6) (by omega)) rfl rfl (Nat.le_of_ble_eq_true rfl) ?_
                refine mV_aload f4_condition_89 rfl ?_
                obtain ⟨z7, hz7, hr⟩ := mBind hr
                refine mV_cV f4_condition_90 tg_m4_single mCls4 (by decide) kk_109 (mC_deep (c4_single X z6 s rc dr hrc hz7) (by omega)) rfl rfl (Nat.le_of_ble_eq_true rfl) ?_
                refine mV_istore (L' := [.ref 109, .int z5, .int z7.1, .int y3, .int z2]) f4_condition_93 (by decide) rfl rfl ?_
                refine mV_iload f4_condition_94 rfl ?_
                obtain ⟨z8, hz8, hr⟩ := mBind hr
                have keyz8 : mV X m4_condition (dr + 4) 0 0 109 [.ref 109, .int z5, .int z7.1, .int y3, mX0] [] NN KK z8 (PP s) Q := by
                  refine mV_iinc (y := (y3 + 1)) (L' := [.ref 109, .int z5, .int z7.1, .int (y3 + 1), mX0]) f4_condition_109 rfl rfl (by decide) rfl rfl ?_
                  refine mV_goto f4_condition_112 ?_
                  exact ih z5 z7.1 (y3 + 1) z8 _ hr hk
                clear hr
                have hr := hz8
                clear hz8
                refine mV_if_ne f4_condition_96 (fun h8 => ?_) (fun h8 => ?_)
                · rw [if_neg h8] at hr
                  have hr := Option.some.inj hr; subst hr
                  refine mV_drop (L' := [.ref 109, .int z5, .int z7.1, .int y3, mX0]) (mSub_k (mSub_k (mSub_k (mSub_k (mSub_x mSub_n))))) ?_
                  exact keyz8
                · rw [if_pos h8] at hr
                  refine mV_aload f4_condition_99 rfl ?_
                  refine mV_getP f4_condition_100 (by decide) kk_109 rfl (pp_109_10 _) ?_
                  refine mV_push f4_condition_103 ?_
                  refine mV_push f4_condition_105 ?_
                  obtain ⟨z9, hz9, hr⟩ := mBind hr
                  refine mV_cV f4_condition_106 tg_m6_emit mCls6 (by decide) kk_114 (mC_deep (c6_emit_114 X z7.2 s 10 0 hz9) (by omega)) rfl rfl (Nat.le_of_ble_eq_true rfl) ?_
                  have hr := Option.some.inj hr; subst hr
                  refine mV_drop (L' := [.ref 109, .int z5, .int z7.1, .int y3, mX0]) (mSub_k (mSub_k (mSub_k (mSub_k (mSub_x mSub_n))))) ?_
                  exact keyz8
              clear hr
              have hr := hz5
              clear hz5
              refine mV_if_ne f4_condition_71 (fun h6 => ?_) (fun h6 => ?_)
              · rw [if_neg h6] at hr
                refine mV_push f4_condition_79 ?_
                refine mV_goto f4_condition_80 ?_
                have hr := Option.some.inj hr; subst hr
                refine mV_drop (L' := [.ref 109, mX0, mX0, .int y3, .int z2]) (mSub_k (mSub_x (mSub_x (mSub_k (mSub_k mSub_n))))) ?_
                exact keyz5
              · rw [if_pos h6] at hr
                refine mV_iload f4_condition_74 rfl ?_
                refine mV_if_eq f4_condition_76 (fun h7 => ?_) (fun h7 => ?_)
                · rw [if_pos h7] at hr
                  refine mV_push f4_condition_83 ?_
                  have hr := Option.some.inj hr; subst hr
                  refine mV_drop (L' := [.ref 109, mX0, mX0, .int y3, .int z2]) (mSub_k (mSub_x (mSub_x (mSub_k (mSub_k mSub_n))))) ?_
                  exact keyz5
                · rw [if_neg h7] at hr
                  refine mV_push f4_condition_79 ?_
                  refine mV_goto f4_condition_80 ?_
                  have hr := Option.some.inj hr; subst hr
                  refine mV_drop (L' := [.ref 109, mX0, mX0, .int y3, .int z2]) (mSub_k (mSub_x (mSub_x (mSub_k (mSub_k mSub_n))))) ?_
                  exact keyz5
            clear hr
            have hr := hz3
            clear hz3
            refine mV_if_eq f4_condition_53 (fun h4 => ?_) (fun h4 => ?_)
            · rw [if_pos h4] at hr
              have hr := Option.some.inj hr; subst hr
              exact keyz3
            · rw [if_neg h4] at hr
              refine mV_iload f4_condition_56 rfl ?_
              refine mV_if_eq f4_condition_57 (fun h5 => ?_) (fun h5 => ?_)
              · rw [if_pos h5] at hr
                have hr := Option.some.inj hr; subst hr
                exact keyz3
              · rw [if_neg h5] at hr
                refine mV_aload f4_condition_60 rfl ?_
                refine mV_getP f4_condition_61 (by decide) kk_109 rfl (pp_109_10 _) ?_
                refine mV_push f4_condition_64 ?_
                refine mV_push f4_condition_66 ?_
                obtain ⟨z4, hz4, hr⟩ := mBind hr
                refine mV_cV f4_condition_67 tg_m6_emit mCls6 (by decide) kk_114 (mC_deep (c6_emit_114 X I s 11 0 hz4) (by omega)) rfl rfl (Nat.le_of_ble_eq_true rfl) ?_
                have hr := Option.some.inj hr; subst hr
                exact keyz3
          clear hr
          have hr := hz2
          clear hz2
          refine mV_icmp_ne f4_condition_41 (fun h3 => ?_) (fun h3 => ?_)
          · rw [if_neg h3] at hr
            refine mV_push f4_condition_48 ?_
            have hr := Option.some.inj hr; subst hr
            refine mV_drop (L' := [.ref 109, .int y1, mX0, .int y3, mX0]) (mSub_k (mSub_k (mSub_x (mSub_k (mSub_x mSub_n))))) ?_
            exact keyz2
          · rw [if_pos h3] at hr
            refine mV_push f4_condition_44 ?_
            refine mV_goto f4_condition_45 ?_
            have hr := Option.some.inj hr; subst hr
            refine mV_drop (L' := [.ref 109, .int y1, mX0, .int y3, mX0]) (mSub_k (mSub_k (mSub_x (mSub_k (mSub_x mSub_n))))) ?_
            exact keyz2
        · rw [if_neg h2] at hr
          refine mV_aload f4_condition_28 rfl ?_
          obtain ⟨z10, hz10, hr⟩ := mBind hr
          refine mV_cV f4_condition_29 tg_m4_kind mCls4 (by decide) kk_109 (mC_deep (c4_kind X I s hz10) (by omega)) rfl rfl (Nat.le_of_ble_eq_true rfl) ?_
          refine mV_push f4_condition_32 ?_
          refine mV_icmp_ne f4_condition_33 (fun h9 => ?_) (fun h9 => ?_)
          · rw [if_neg h9] at hr
            have hr := Option.some.inj hr; subst hr
            refine mV_drop (L' := [.ref 109, .int y1, .int y2, mX0, mX0]) (mSub_k (mSub_k (mSub_k (mSub_x (mSub_x mSub_n))))) ?_
            exact hk
          · rw [if_pos h9] at hr
            refine mV_aload f4_condition_36 rfl ?_
            obtain ⟨z11, hz11, hr⟩ := mBind hr
            refine mV_cV f4_condition_37 tg_m4_kind mCls4 (by decide) kk_109 (mC_deep (c4_kind X I s hz11) (by omega)) rfl rfl (Nat.le_of_ble_eq_true rfl) ?_
            refine mV_push f4_condition_40 ?_
            obtain ⟨z12, hz12, hr⟩ := mBind hr
            have keyz12 : mV X m4_condition (dr + 4) 0 0 49 [.ref 109, .int y1, mX0, .int y3, mX0] [.int z12] NN KK I (PP s) Q := by
              refine mV_istore (L' := [.ref 109, .int y1, mX0, .int y3, .int z12]) f4_condition_49 (by decide) rfl rfl ?_
              refine mV_iload f4_condition_51 rfl ?_
              obtain ⟨z13, hz13, hr⟩ := mBind hr
              have keyz13 : mV X m4_condition (dr + 4) 0 0 70 [.ref 109, .int y1, mX0, .int y3, .int z12] [] NN KK z13 (PP s) Q := by
                refine mV_iload f4_condition_70 rfl ?_
                obtain ⟨z15, hz15, hr⟩ := mBind hr
                have keyz15 : mV X m4_condition (dr + 4) 0 0 84 [.ref 109, mX0, mX0, .int y3, .int z12] [.int z15] NN KK z13 (PP s) Q := by
                  refine mV_istore (L' := [.ref 109, .int z15, mX0, .int y3, .int z12]) f4_condition_84 (by decide) rfl rfl ?_
                  refine mV_aload f4_condition_85 rfl ?_
                  obtain ⟨z16, hz16, hr⟩ := mBind hr
                  refine mV_cV f4_condition_86 tg_m4_step mCls4 (by decide) kk_109 (mC_deep (c4_step X z13 s hz16) (by omega)) rfl rfl (Nat.le_of_ble_eq_true rfl) ?_
                  refine mV_aload f4_condition_89 rfl ?_
                  obtain ⟨z17, hz17, hr⟩ := mBind hr
                  refine mV_cV f4_condition_90 tg_m4_single mCls4 (by decide) kk_109 (mC_deep (c4_single X z16 s rc dr hrc hz17) (by omega)) rfl rfl (Nat.le_of_ble_eq_true rfl) ?_
                  refine mV_istore (L' := [.ref 109, .int z15, .int z17.1, .int y3, .int z12]) f4_condition_93 (by decide) rfl rfl ?_
                  refine mV_iload f4_condition_94 rfl ?_
                  obtain ⟨z18, hz18, hr⟩ := mBind hr
                  have keyz18 : mV X m4_condition (dr + 4) 0 0 109 [.ref 109, .int z15, .int z17.1, .int y3, mX0] [] NN KK z18 (PP s) Q := by
                    refine mV_iinc (y := (y3 + 1)) (L' := [.ref 109, .int z15, .int z17.1, .int (y3 + 1), mX0]) f4_condition_109 rfl rfl (by decide) rfl rfl ?_
                    refine mV_goto f4_condition_112 ?_
                    exact ih z15 z17.1 (y3 + 1) z18 _ hr hk
                  clear hr
                  have hr := hz18
                  clear hz18
                  refine mV_if_ne f4_condition_96 (fun h15 => ?_) (fun h15 => ?_)
                  · rw [if_neg h15] at hr
                    have hr := Option.some.inj hr; subst hr
                    refine mV_drop (L' := [.ref 109, .int z15, .int z17.1, .int y3, mX0]) (mSub_k (mSub_k (mSub_k (mSub_k (mSub_x mSub_n))))) ?_
                    exact keyz18
                  · rw [if_pos h15] at hr
                    refine mV_aload f4_condition_99 rfl ?_
                    refine mV_getP f4_condition_100 (by decide) kk_109 rfl (pp_109_10 _) ?_
                    refine mV_push f4_condition_103 ?_
                    refine mV_push f4_condition_105 ?_
                    obtain ⟨z19, hz19, hr⟩ := mBind hr
                    refine mV_cV f4_condition_106 tg_m6_emit mCls6 (by decide) kk_114 (mC_deep (c6_emit_114 X z17.2 s 10 0 hz19) (by omega)) rfl rfl (Nat.le_of_ble_eq_true rfl) ?_
                    have hr := Option.some.inj hr; subst hr
                    refine mV_drop (L' := [.ref 109, .int z15, .int z17.1, .int y3, mX0]) (mSub_k (mSub_k (mSub_k (mSub_k (mSub_x mSub_n))))) ?_
                    exact keyz18
                clear hr
                have hr := hz15
                clear hz15
                refine mV_if_ne f4_condition_71 (fun h13 => ?_) (fun h13 => ?_)
                · rw [if_neg h13] at hr
                  refine mV_push f4_condition_79 ?_
                  refine mV_goto f4_condition_80 ?_
                  have hr := Option.some.inj hr; subst hr
                  refine mV_drop (L' := [.ref 109, mX0, mX0, .int y3, .int z12]) (mSub_k (mSub_x (mSub_x (mSub_k (mSub_k mSub_n))))) ?_
                  exact keyz15
                · rw [if_pos h13] at hr
                  refine mV_iload f4_condition_74 rfl ?_
                  refine mV_if_eq f4_condition_76 (fun h14 => ?_) (fun h14 => ?_)
                  · rw [if_pos h14] at hr
                    refine mV_push f4_condition_83 ?_
                    have hr := Option.some.inj hr; subst hr
                    refine mV_drop (L' := [.ref 109, mX0, mX0, .int y3, .int z12]) (mSub_k (mSub_x (mSub_x (mSub_k (mSub_k mSub_n))))) ?_
                    exact keyz15
                  · rw [if_neg h14] at hr
                    refine mV_push f4_condition_79 ?_
                    refine mV_goto f4_condition_80 ?_
                    have hr := Option.some.inj hr; subst hr
                    refine mV_drop (L' := [.ref 109, mX0, mX0, .int y3, .int z12]) (mSub_k (mSub_x (mSub_x (mSub_k (mSub_k mSub_n))))) ?_
                    exact keyz15
              clear hr
              have hr := hz13
              clear hz13
              refine mV_if_eq f4_condition_53 (fun h11 => ?_) (fun h11 => ?_)
              · rw [if_pos h11] at hr
                have hr := Option.some.inj hr; subst hr
                exact keyz13
              · rw [if_neg h11] at hr
                refine mV_iload f4_condition_56 rfl ?_
                refine mV_if_eq f4_condition_57 (fun h12 => ?_) (fun h12 => ?_)
                · rw [if_pos h12] at hr
                  have hr := Option.some.inj hr; subst hr
                  exact keyz13
                · rw [if_neg h12] at hr
                  refine mV_aload f4_condition_60 rfl ?_
                  refine mV_getP f4_condition_61 (by decide) kk_109 rfl (pp_109_10 _) ?_
                  refine mV_push f4_condition_64 ?_
                  refine mV_push f4_condition_66 ?_
                  obtain ⟨z14, hz14, hr⟩ := mBind hr
                  refine mV_cV f4_condition_67 tg_m6_emit mCls6 (by decide) kk_114 (mC_deep (c6_emit_114 X I s 11 0 hz14) (by omega)) rfl rfl (Nat.le_of_ble_eq_true rfl) ?_
                  have hr := Option.some.inj hr; subst hr
                  exact keyz13
            clear hr
            have hr := hz12
            clear hz12
            refine mV_icmp_ne f4_condition_41 (fun h10 => ?_) (fun h10 => ?_)
            · rw [if_neg h10] at hr
              refine mV_push f4_condition_48 ?_
              have hr := Option.some.inj hr; subst hr
              refine mV_drop (L' := [.ref 109, .int y1, mX0, .int y3, mX0]) (mSub_k (mSub_k (mSub_x (mSub_k (mSub_x mSub_n))))) ?_
              exact keyz12
            · rw [if_pos h10] at hr
              refine mV_push f4_condition_44 ?_
              refine mV_goto f4_condition_45 ?_
              have hr := Option.some.inj hr; subst hr
              refine mV_drop (L' := [.ref 109, .int y1, mX0, .int y3, mX0]) (mSub_k (mSub_k (mSub_x (mSub_k (mSub_x mSub_n))))) ?_
              exact keyz12
set_option maxHeartbeats 4000000 in
set_option maxRecDepth 100000 in
theorem w4_condition (X : Nat × (Nat → Int32)) (I : mI) (s : Nat) (rc : mI → Int32 → Option (Int32 × mI)) (dr : Nat) (hrc : ∀ (I : mI) (x0 : Int32) (res : Int32 × mI), rc I x0 = some res → mC X m4_enclosed dr 0 0 [.ref 109, .int x0] NN KK I (PP s) (mRet (some (.int res.1)) NN KK res.2 (PP s))) (Q : mQ) {res : Int32 × mI} (hr : r4_condition rc I = some res) (hQ : Q (some (.int res.1)) NN KK res.2 (PP s)) : mV X m4_condition (dr + 4) 0 0 0 [.ref 109, mX0, mX0, mX0, mX0] [] NN KK I (PP s) Q := by
  unfold r4_condition at hr
  refine mV_push f4_condition_0 ?_
  refine mV_istore (L' := [.ref 109, .int 0, mX0, mX0, mX0]) f4_condition_1 (by decide) rfl rfl ?_
  refine mV_aload f4_condition_2 rfl ?_
  obtain ⟨z0, hz0, hr⟩ := mBind hr
  refine mV_cV f4_condition_3 tg_m4_single mCls4 (by decide) kk_109 (mC_deep (c4_single X I s rc dr hrc hz0) (by omega)) rfl rfl (Nat.le_of_ble_eq_true rfl) ?_
  refine mV_istore (L' := [.ref 109, .int 0, .int z0.1, mX0, mX0]) f4_condition_6 (by decide) rfl rfl ?_
  refine mV_push f4_condition_7 ?_
  refine mV_istore (L' := [.ref 109, .int 0, .int z0.1, .int 0, mX0]) f4_condition_8 (by decide) rfl rfl ?_
  obtain ⟨z1, hz1, hr⟩ := mBind hr
  refine t4_condition_9 X Q s rc dr hrc FU 0 z0.1 0 z0.2 _ hz1 ?_
  refine mV_iload f4_condition_115 rfl ?_
  obtain ⟨z2, hz2, hr⟩ := mBind hr
  have keyz2 : mV X m4_condition (dr + 4) 0 0 129 [.ref 109, mX0, .int z1.2.1, mX0, mX0] [] NN KK z2 (PP s) Q := by
    refine mV_iload f4_condition_129 rfl ?_
    have hr := Option.some.inj hr; subst hr
    exact mV_zret rfl f4_condition_130 hQ
  clear hr
  have hr := hz2
  clear hz2
  refine mV_if_eq f4_condition_116 (fun h0 => ?_) (fun h0 => ?_)
  · rw [if_pos h0] at hr
    have hr := Option.some.inj hr; subst hr
    refine mV_drop (L' := [.ref 109, mX0, .int z1.2.1, mX0, mX0]) (mSub_k (mSub_x (mSub_k (mSub_x (mSub_x mSub_n))))) ?_
    exact keyz2
  · rw [if_neg h0] at hr
    refine mV_aload f4_condition_119 rfl ?_
    refine mV_getP f4_condition_120 (by decide) kk_109 rfl (pp_109_10 _) ?_
    refine mV_push f4_condition_123 ?_
    refine mV_push f4_condition_125 ?_
    obtain ⟨z3, hz3, hr⟩ := mBind hr
    refine mV_cV f4_condition_126 tg_m6_emit mCls6 (by decide) kk_114 (mC_deep (c6_emit_114 X z1.2.2 s 11 0 hz3) (by omega)) rfl rfl (Nat.le_of_ble_eq_true rfl) ?_
    have hr := Option.some.inj hr; subst hr
    refine mV_drop (L' := [.ref 109, mX0, .int z1.2.1, mX0, mX0]) (mSub_k (mSub_x (mSub_k (mSub_x (mSub_x mSub_n))))) ?_
    exact keyz2
theorem c4_condition (X : Nat × (Nat → Int32)) (I : mI) (s : Nat) (rc : mI → Int32 → Option (Int32 × mI)) (dr : Nat) (hrc : ∀ (I : mI) (x0 : Int32) (res : Int32 × mI), rc I x0 = some res → mC X m4_enclosed dr 0 0 [.ref 109, .int x0] NN KK I (PP s) (mRet (some (.int res.1)) NN KK res.2 (PP s))) {res : Int32 × mI} (hr : r4_condition rc I = some res) : mC X m4_condition (dr + 4) 0 0 [.ref 109] NN KK I (PP s) (mRet (some (.int res.1)) NN KK res.2 (PP s)) :=
  mC_of (L0 := [.ref 109, mX0, mX0, mX0, mX0]) rfl (Nat.le_of_ble_eq_true rfl) (w4_condition X I s rc dr hrc _ hr (mRet_ok _ _ _ _ _))
def rB4_enclosed (rc : mI → Int32 → Option (Int32 × mI)) (I : mI) (x0 : Int32) : Option (Int32 × mI) := if (I 109 7 : Int32) < (8 : Int32) then (r4_step (mW I 109 7 (I 109 7 + 1))).bind fun z0 => (if (x0 : Int32) = (6 : Int32) then (r4_single rc z0).bind fun z4 => some (z4.1, z4.2) else (r4_condition rc z0).bind fun z2 => if (z2.1 : Int32) = (0 : Int32) then some (0, z2.2) else (r4_pass z2.2 41).bind fun z3 => if (z3.1 : Int32) = (0 : Int32) then some (0, z3.2) else some (1, z3.2) : Option (Int32 × mI)).bind fun z1 => (if (x0 : Int32) = (6 : Int32) then (r6_emit_114 (mW z1.2 109 7 (z1.2 109 7 - 1)) 9 0).bind fun z6 => some z6 else some (mW z1.2 109 7 (z1.2 109 7 - 1)) : Option (mI)).bind fun z5 => some ((z1.1 &&& 1), z5) else (r4_blame I 3).bind fun z7 => some ((z7.1 &&& 1), z7.2)
set_option maxHeartbeats 4000000 in
set_option maxRecDepth 100000 in
theorem wB4_enclosed (X : Nat × (Nat → Int32)) (I : mI) (s : Nat) (rc : mI → Int32 → Option (Int32 × mI)) (dr : Nat) (hrc : ∀ (I : mI) (x0 : Int32) (res : Int32 × mI), rc I x0 = some res → mC X m4_enclosed dr 0 0 [.ref 109, .int x0] NN KK I (PP s) (mRet (some (.int res.1)) NN KK res.2 (PP s))) (x0 : Int32) (Q : mQ) {res : Int32 × mI} (hr : rB4_enclosed rc I x0 = some res) (hQ : Q (some (.int res.1)) NN KK res.2 (PP s)) : mV X m4_enclosed (dr + 5) 0 0 0 [.ref 109, .int x0, mX0] [] NN KK I (PP s) Q := by
  unfold rB4_enclosed at hr
  refine mV_aload f4_enclosed_0 rfl ?_
  refine mV_gI (I 109 7) f4_enclosed_1 (by decide) kk_109 rfl rfl ?_
  refine mV_push f4_enclosed_4 ?_
  refine mV_icmp_lt f4_enclosed_6 (fun h0 => ?_) (fun h0 => ?_)
  · rw [if_pos h0] at hr
    refine mV_aload f4_enclosed_15 rfl ?_
    refine mV_dup f4_enclosed_16 rfl ?_
    refine mV_gI (I 109 7) f4_enclosed_17 (by decide) kk_109 rfl rfl ?_
    refine mV_push f4_enclosed_20 ?_
    refine mV_iadd f4_enclosed_21 ?_
    refine mV_putI f4_enclosed_22 (by decide) kk_109 rfl rfl ?_
    refine mV_aload f4_enclosed_25 rfl ?_
    obtain ⟨z0, hz0, hr⟩ := mBind hr
    refine mV_cV f4_enclosed_26 tg_m4_step mCls4 (by decide) kk_109 (mC_deep (c4_step X (mW I 109 7 (I 109 7 + 1)) s hz0) (by omega)) rfl rfl (Nat.le_of_ble_eq_true rfl) ?_
    refine mV_iload f4_enclosed_29 rfl ?_
    refine mV_push f4_enclosed_30 ?_
    obtain ⟨z1, hz1, hr⟩ := mBind hr
    have keyz1 : mV X m4_enclosed (dr + 5) 0 0 63 [.ref 109, .int x0, mX0] [.int z1.1] NN KK z1.2 (PP s) Q := by
      refine mV_istore (L' := [.ref 109, .int x0, .int z1.1]) f4_enclosed_63 (by decide) rfl rfl ?_
      refine mV_aload f4_enclosed_64 rfl ?_
      refine mV_dup f4_enclosed_65 rfl ?_
      refine mV_gI (z1.2 109 7) f4_enclosed_66 (by decide) kk_109 rfl rfl ?_
      refine mV_push f4_enclosed_69 ?_
      refine mV_isub f4_enclosed_70 ?_
      refine mV_putI f4_enclosed_71 (by decide) kk_109 rfl rfl ?_
      refine mV_iload f4_enclosed_74 rfl ?_
      refine mV_push f4_enclosed_75 ?_
      obtain ⟨z5, hz5, hr⟩ := mBind hr
      have keyz5 : mV X m4_enclosed (dr + 5) 0 0 90 [.ref 109, mX0, .int z1.1] [] NN KK z5 (PP s) Q := by
        refine mV_iload f4_enclosed_90 rfl ?_
        have hr := Option.some.inj hr; subst hr
        exact mV_zret rfl f4_enclosed_91 hQ
      clear hr
      have hr := hz5
      clear hz5
      refine mV_icmp_ne f4_enclosed_77 (fun h4 => ?_) (fun h4 => ?_)
      · rw [if_neg h4] at hr
        have hr := Option.some.inj hr; subst hr
        refine mV_drop (L' := [.ref 109, mX0, .int z1.1]) (mSub_k (mSub_x (mSub_k mSub_n))) ?_
        exact keyz5
      · rw [if_pos h4] at hr
        refine mV_aload f4_enclosed_80 rfl ?_
        refine mV_getP f4_enclosed_81 (by decide) kk_109 rfl (pp_109_10 _) ?_
        refine mV_push f4_enclosed_84 ?_
        refine mV_push f4_enclosed_86 ?_
        obtain ⟨z6, hz6, hr⟩ := mBind hr
        refine mV_cV f4_enclosed_87 tg_m6_emit mCls6 (by decide) kk_114 (mC_deep (c6_emit_114 X (mW z1.2 109 7 (z1.2 109 7 - 1)) s 9 0 hz6) (by omega)) rfl rfl (Nat.le_of_ble_eq_true rfl) ?_
        have hr := Option.some.inj hr; subst hr
        refine mV_drop (L' := [.ref 109, mX0, .int z1.1]) (mSub_k (mSub_x (mSub_k mSub_n))) ?_
        exact keyz5
    clear hr
    have hr := hz1
    clear hz1
    refine mV_icmp_ne f4_enclosed_32 (fun h1 => ?_) (fun h1 => ?_)
    · rw [if_neg h1] at hr
      refine mV_aload f4_enclosed_42 rfl ?_
      obtain ⟨z2, hz2, hr⟩ := mBind hr
      refine mV_cV f4_enclosed_43 tg_m4_condition mCls4 (by decide) kk_109 (mC_deep (c4_condition X z0 s rc dr hrc hz2) (by omega)) rfl rfl (Nat.le_of_ble_eq_true rfl) ?_
      refine mV_if_eq f4_enclosed_46 (fun h2 => ?_) (fun h2 => ?_)
      · rw [if_pos h2] at hr
        refine mV_push f4_enclosed_62 ?_
        have hr := Option.some.inj hr; subst hr
        exact keyz1
      · rw [if_neg h2] at hr
        refine mV_aload f4_enclosed_49 rfl ?_
        refine mV_push f4_enclosed_50 ?_
        obtain ⟨z3, hz3, hr⟩ := mBind hr
        refine mV_cV f4_enclosed_52 tg_m4_pass mCls4 (by decide) kk_109 (mC_deep (c4_pass X z2.2 s 41 hz3) (by omega)) rfl rfl (Nat.le_of_ble_eq_true rfl) ?_
        refine mV_if_eq f4_enclosed_55 (fun h3 => ?_) (fun h3 => ?_)
        · rw [if_pos h3] at hr
          refine mV_push f4_enclosed_62 ?_
          have hr := Option.some.inj hr; subst hr
          exact keyz1
        · rw [if_neg h3] at hr
          refine mV_push f4_enclosed_58 ?_
          refine mV_goto f4_enclosed_59 ?_
          have hr := Option.some.inj hr; subst hr
          exact keyz1
    · rw [if_pos h1] at hr
      refine mV_aload f4_enclosed_35 rfl ?_
      obtain ⟨z4, hz4, hr⟩ := mBind hr
      refine mV_cV f4_enclosed_36 tg_m4_single mCls4 (by decide) kk_109 (mC_deep (c4_single X z0 s rc dr hrc hz4) (by omega)) rfl rfl (Nat.le_of_ble_eq_true rfl) ?_
      refine mV_goto f4_enclosed_39 ?_
      have hr := Option.some.inj hr; subst hr
      exact keyz1
  · rw [if_neg h0] at hr
    refine mV_aload f4_enclosed_9 rfl ?_
    refine mV_push f4_enclosed_10 ?_
    obtain ⟨z7, hz7, hr⟩ := mBind hr
    refine mV_cV f4_enclosed_11 tg_m4_blame mCls4 (by decide) kk_109 (mC_deep (c4_blame X I s 3 hz7) (by omega)) rfl rfl (Nat.le_of_ble_eq_true rfl) ?_
    have hr := Option.some.inj hr; subst hr
    exact mV_zret rfl f4_enclosed_14 hQ
theorem cB4_enclosed (X : Nat × (Nat → Int32)) (I : mI) (s : Nat) (rc : mI → Int32 → Option (Int32 × mI)) (dr : Nat) (hrc : ∀ (I : mI) (x0 : Int32) (res : Int32 × mI), rc I x0 = some res → mC X m4_enclosed dr 0 0 [.ref 109, .int x0] NN KK I (PP s) (mRet (some (.int res.1)) NN KK res.2 (PP s))) (x0 : Int32) {res : Int32 × mI} (hr : rB4_enclosed rc I x0 = some res) : mC X m4_enclosed (dr + 5) 0 0 [.ref 109, .int x0] NN KK I (PP s) (mRet (some (.int res.1)) NN KK res.2 (PP s)) :=
  mC_of (L0 := [.ref 109, .int x0, mX0]) rfl (Nat.le_of_ble_eq_true rfl) (wB4_enclosed X I s rc dr hrc x0 _ hr (mRet_ok _ _ _ _ _))
def r4_enclosed : Nat → mI → Int32 → Option (Int32 × mI)
  | 0, _, _ => none
  | f + 1, I, x0 => rB4_enclosed (fun I x0 => r4_enclosed f I x0) I x0
theorem c4_enclosed (X : Nat × (Nat → Int32)) (s : Nat) : ∀ (f : Nat) (I : mI) (x0 : Int32) (res : Int32 × mI), r4_enclosed f I x0 = some res → mC X m4_enclosed (5 * f) 0 0 [.ref 109, .int x0] NN KK I (PP s) (mRet (some (.int res.1)) NN KK res.2 (PP s)) := by
  intro f
  induction f with
  | zero => intro I x0 res hr; cases hr
  | succ f ih =>
    intro I x0 res hr
    have := cB4_enclosed X I s (fun I x0 => r4_enclosed f I x0) (5 * f) ih x0 hr
    exact this
def r4_lawLine (I : mI) : Option (Int32 × mI) := (r4_kind I).bind fun z0 => (r6_write_114 I 0 z0).bind fun z1 => (r4_step z1).bind fun z2 => (r6_write_114 z2 1 (z2 114 3)).bind fun z3 => (r4_expression z3).bind fun z4 => if (z4.1 : Int32) = (0 : Int32) then some (0, z4.2) else (r6_write_114 z4.2 2 (z4.2 114 3)).bind fun z5 => (r4_kind z5).bind fun z6 => if (z6 : Int32) = (3 : Int32) then (r4_step z5).bind fun z9 => (r4_condition (r4_enclosed 9) z9).bind fun z10 => if (z10.1 : Int32) = (0 : Int32) then some (0, z10.2) else (r6_write_114 z10.2 3 (z10.2 114 3)).bind fun z11 => (r4_pass z11 59).bind fun z12 => some ((z12.1 &&& 1), z12.2) else (r6_write_114 z5 3 (z5 114 3)).bind fun z7 => (r4_pass z7 59).bind fun z8 => some ((z8.1 &&& 1), z8.2)
set_option maxHeartbeats 4000000 in
set_option maxRecDepth 100000 in
theorem w4_lawLine (X : Nat × (Nat → Int32)) (I : mI) (s : Nat) (Q : mQ) {res : Int32 × mI} (hr : r4_lawLine I = some res) (hQ : Q (some (.int res.1)) NN KK res.2 (PP s)) : mV X m4_lawLine 50 0 0 0 [.ref 109] [] NN KK I (PP s) Q := by
  unfold r4_lawLine at hr
  refine mV_aload f4_lawLine_0 rfl ?_
  refine mV_getP f4_lawLine_1 (by decide) kk_109 rfl (pp_109_10 _) ?_
  refine mV_push f4_lawLine_4 ?_
  refine mV_aload f4_lawLine_5 rfl ?_
  obtain ⟨z0, hz0, hr⟩ := mBind hr
  refine mV_cV f4_lawLine_6 tg_m4_kind mCls4 (by decide) kk_109 (mC_deep (c4_kind X I s hz0) (by decide)) rfl rfl (Nat.le_of_ble_eq_true rfl) ?_
  obtain ⟨z1, hz1, hr⟩ := mBind hr
  refine mV_cV f4_lawLine_9 tg_m6_write mCls6 (by decide) kk_114 (mC_deep (c6_write_114 X I s 0 z0 hz1) (by decide)) rfl rfl (Nat.le_of_ble_eq_true rfl) ?_
  refine mV_aload f4_lawLine_12 rfl ?_
  obtain ⟨z2, hz2, hr⟩ := mBind hr
  refine mV_cV f4_lawLine_13 tg_m4_step mCls4 (by decide) kk_109 (mC_deep (c4_step X z1 s hz2) (by decide)) rfl rfl (Nat.le_of_ble_eq_true rfl) ?_
  refine mV_aload f4_lawLine_16 rfl ?_
  refine mV_getP f4_lawLine_17 (by decide) kk_109 rfl (pp_109_10 _) ?_
  refine mV_push f4_lawLine_20 ?_
  refine mV_aload f4_lawLine_21 rfl ?_
  refine mV_getP f4_lawLine_22 (by decide) kk_109 rfl (pp_109_10 _) ?_
  refine mV_gI (z2 114 3) f4_lawLine_25 (by decide) kk_114 rfl rfl ?_
  obtain ⟨z3, hz3, hr⟩ := mBind hr
  refine mV_cV f4_lawLine_28 tg_m6_write mCls6 (by decide) kk_114 (mC_deep (c6_write_114 X z2 s 1 (z2 114 3) hz3) (by decide)) rfl rfl (Nat.le_of_ble_eq_true rfl) ?_
  refine mV_aload f4_lawLine_31 rfl ?_
  obtain ⟨z4, hz4, hr⟩ := mBind hr
  refine mV_cV f4_lawLine_32 tg_m4_expression mCls4 (by decide) kk_109 (mC_deep (c4_expression X z3 s hz4) (by decide)) rfl rfl (Nat.le_of_ble_eq_true rfl) ?_
  refine mV_if_ne f4_lawLine_35 (fun h0 => ?_) (fun h0 => ?_)
  · rw [if_neg h0] at hr
    refine mV_aload f4_lawLine_40 rfl ?_
    refine mV_getP f4_lawLine_41 (by decide) kk_109 rfl (pp_109_10 _) ?_
    refine mV_push f4_lawLine_44 ?_
    refine mV_aload f4_lawLine_45 rfl ?_
    refine mV_getP f4_lawLine_46 (by decide) kk_109 rfl (pp_109_10 _) ?_
    refine mV_gI (z4.2 114 3) f4_lawLine_49 (by decide) kk_114 rfl rfl ?_
    obtain ⟨z5, hz5, hr⟩ := mBind hr
    refine mV_cV f4_lawLine_52 tg_m6_write mCls6 (by decide) kk_114 (mC_deep (c6_write_114 X z4.2 s 2 (z4.2 114 3) hz5) (by decide)) rfl rfl (Nat.le_of_ble_eq_true rfl) ?_
    refine mV_aload f4_lawLine_55 rfl ?_
    obtain ⟨z6, hz6, hr⟩ := mBind hr
    refine mV_cV f4_lawLine_56 tg_m4_kind mCls4 (by decide) kk_109 (mC_deep (c4_kind X z5 s hz6) (by decide)) rfl rfl (Nat.le_of_ble_eq_true rfl) ?_
    refine mV_push f4_lawLine_59 ?_
    refine mV_icmp_ne f4_lawLine_60 (fun h1 => ?_) (fun h1 => ?_)
    · rw [if_neg h1] at hr
      refine mV_aload f4_lawLine_76 rfl ?_
      refine mV_getP f4_lawLine_77 (by decide) kk_109 rfl (pp_109_10 _) ?_
      refine mV_push f4_lawLine_80 ?_
      refine mV_aload f4_lawLine_81 rfl ?_
      refine mV_getP f4_lawLine_82 (by decide) kk_109 rfl (pp_109_10 _) ?_
      refine mV_gI (z5 114 3) f4_lawLine_85 (by decide) kk_114 rfl rfl ?_
      obtain ⟨z7, hz7, hr⟩ := mBind hr
      refine mV_cV f4_lawLine_88 tg_m6_write mCls6 (by decide) kk_114 (mC_deep (c6_write_114 X z5 s 3 (z5 114 3) hz7) (by decide)) rfl rfl (Nat.le_of_ble_eq_true rfl) ?_
      refine mV_aload f4_lawLine_91 rfl ?_
      refine mV_push f4_lawLine_92 ?_
      obtain ⟨z8, hz8, hr⟩ := mBind hr
      refine mV_cV f4_lawLine_94 tg_m4_pass mCls4 (by decide) kk_109 (mC_deep (c4_pass X z7 s 59 hz8) (by decide)) rfl rfl (Nat.le_of_ble_eq_true rfl) ?_
      have hr := Option.some.inj hr; subst hr
      exact mV_zret rfl f4_lawLine_97 hQ
    · rw [if_pos h1] at hr
      refine mV_aload f4_lawLine_63 rfl ?_
      obtain ⟨z9, hz9, hr⟩ := mBind hr
      refine mV_cV f4_lawLine_64 tg_m4_step mCls4 (by decide) kk_109 (mC_deep (c4_step X z5 s hz9) (by decide)) rfl rfl (Nat.le_of_ble_eq_true rfl) ?_
      refine mV_aload f4_lawLine_67 rfl ?_
      obtain ⟨z10, hz10, hr⟩ := mBind hr
      refine mV_cV f4_lawLine_68 tg_m4_condition mCls4 (by decide) kk_109 (mC_deep (c4_condition X z9 s (r4_enclosed 9) (5 * 9) (c4_enclosed X s 9) hz10) (by omega)) rfl rfl (Nat.le_of_ble_eq_true rfl) ?_
      refine mV_if_ne f4_lawLine_71 (fun h2 => ?_) (fun h2 => ?_)
      · rw [if_neg h2] at hr
        refine mV_aload f4_lawLine_76 rfl ?_
        refine mV_getP f4_lawLine_77 (by decide) kk_109 rfl (pp_109_10 _) ?_
        refine mV_push f4_lawLine_80 ?_
        refine mV_aload f4_lawLine_81 rfl ?_
        refine mV_getP f4_lawLine_82 (by decide) kk_109 rfl (pp_109_10 _) ?_
        refine mV_gI (z10.2 114 3) f4_lawLine_85 (by decide) kk_114 rfl rfl ?_
        obtain ⟨z11, hz11, hr⟩ := mBind hr
        refine mV_cV f4_lawLine_88 tg_m6_write mCls6 (by decide) kk_114 (mC_deep (c6_write_114 X z10.2 s 3 (z10.2 114 3) hz11) (by decide)) rfl rfl (Nat.le_of_ble_eq_true rfl) ?_
        refine mV_aload f4_lawLine_91 rfl ?_
        refine mV_push f4_lawLine_92 ?_
        obtain ⟨z12, hz12, hr⟩ := mBind hr
        refine mV_cV f4_lawLine_94 tg_m4_pass mCls4 (by decide) kk_109 (mC_deep (c4_pass X z11 s 59 hz12) (by decide)) rfl rfl (Nat.le_of_ble_eq_true rfl) ?_
        have hr := Option.some.inj hr; subst hr
        exact mV_zret rfl f4_lawLine_97 hQ
      · rw [if_pos h2] at hr
        refine mV_push f4_lawLine_74 ?_
        have hr := Option.some.inj hr; subst hr
        exact mV_iret rfl rfl f4_lawLine_75 hQ
  · rw [if_pos h0] at hr
    refine mV_push f4_lawLine_38 ?_
    have hr := Option.some.inj hr; subst hr
    exact mV_iret rfl rfl f4_lawLine_39 hQ
theorem c4_lawLine (X : Nat × (Nat → Int32)) (I : mI) (s : Nat) {res : Int32 × mI} (hr : r4_lawLine I = some res) : mC X m4_lawLine 50 0 0 [.ref 109] NN KK I (PP s) (mRet (some (.int res.1)) NN KK res.2 (PP s)) :=
  mC_of (L0 := [.ref 109]) rfl (Nat.le_of_ble_eq_true rfl) (w4_lawLine X I s _ hr (mRet_ok _ _ _ _ _))

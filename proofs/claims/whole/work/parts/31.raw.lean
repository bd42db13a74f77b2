def r6_cell_15 (I : mI) (x0 : Int32) (x1 : Int32) : Option (Int32) := (if (((x0 * 9) + x1) : Int32) < (0 : Int32) then some 0 else if (144 : Int32) ≤ (((x0 * 9) + x1) : Int32) then some 0 else (mLd I 16 144 ((x0 * 9) + x1)).bind fun z1 => some z1 : Option (Int32)).bind fun z0 => some z0
set_option maxHeartbeats 4000000 in
set_option maxRecDepth 100000 in
theorem w6_cell_15 (X : Nat × (Nat → Int32)) (I : mI) (s : Nat) (x0 : Int32) (x1 : Int32) (Q : mQ) {res : Int32} (hr : r6_cell_15 I x0 x1 = some res) (hQ : Q (some (.int res)) NN KK I (PP s)) : mV X m6_cell 0 0 0 0 [.ref 15, .int x0, .int x1, mX0] [] NN KK I (PP s) Q := by
  unfold r6_cell_15 at hr
  refine mV_iload f6_cell_0 rfl ?_
  refine mV_push f6_cell_1 ?_
  refine mV_imul f6_cell_3 ?_
  refine mV_iload f6_cell_4 rfl ?_
  refine mV_iadd f6_cell_5 ?_
  refine mV_istore (L' := [.ref 15, .int x0, .int x1, .int ((x0 * 9) + x1)]) f6_cell_6 (by decide) rfl rfl ?_
  refine mV_iload f6_cell_7 rfl ?_
  obtain ⟨z0, hz0, hr⟩ := mBind hr
  have keyz0 : mV X m6_cell 0 0 0 30 [.ref 15, mX0, mX0, mX0] [.int z0] NN KK I (PP s) Q := by
    have hr := Option.some.inj hr; subst hr
    exact mV_iret rfl rfl f6_cell_30 hQ
  clear hr
  have hr := hz0
  clear hz0
  refine mV_if_lt f6_cell_8 (fun h0 => ?_) (fun h0 => ?_)
  · rw [if_pos h0] at hr
    refine mV_push f6_cell_29 ?_
    have hr := Option.some.inj hr; subst hr
    refine mV_drop (L' := [.ref 15, mX0, mX0, mX0]) (mSub_k (mSub_x (mSub_x (mSub_x mSub_n)))) ?_
    exact keyz0
  · rw [if_neg h0] at hr
    refine mV_iload f6_cell_11 rfl ?_
    refine mV_aload f6_cell_12 rfl ?_
    refine mV_getP f6_cell_13 (by decide) kk_15 rfl (pp_15_0 _) ?_
    refine mV_alen f6_cell_16 (by decide) kk_16 ?_
    refine mV_as 144 (by decide) ?_
    refine mV_icmp_ge f6_cell_17 (fun h1 => ?_) (fun h1 => ?_)
    · rw [if_pos h1] at hr
      refine mV_push f6_cell_29 ?_
      have hr := Option.some.inj hr; subst hr
      refine mV_drop (L' := [.ref 15, mX0, mX0, mX0]) (mSub_k (mSub_x (mSub_x (mSub_x mSub_n)))) ?_
      exact keyz0
    · rw [if_neg h1] at hr
      refine mV_aload f6_cell_20 rfl ?_
      refine mV_getP f6_cell_21 (by decide) kk_15 rfl (pp_15_0 _) ?_
      refine mV_iload f6_cell_24 rfl ?_
      obtain ⟨z1, hz1, hr⟩ := mBind hr
      refine mV_ldO f6_cell_25 (by decide) kk_16 hz1 ?_
      refine mV_goto f6_cell_26 ?_
      have hr := Option.some.inj hr; subst hr
      refine mV_drop (L' := [.ref 15, mX0, mX0, mX0]) (mSub_k (mSub_x (mSub_x (mSub_x mSub_n)))) ?_
      exact keyz0
theorem c6_cell_15 (X : Nat × (Nat → Int32)) (I : mI) (s : Nat) (x0 : Int32) (x1 : Int32) {res : Int32} (hr : r6_cell_15 I x0 x1 = some res) : mC X m6_cell 0 0 0 [.ref 15, .int x0, .int x1] NN KK I (PP s) (mRet (some (.int res)) NN KK I (PP s)) :=
  mC_of (L0 := [.ref 15, .int x0, .int x1, mX0]) rfl (Nat.le_of_ble_eq_true rfl) (w6_cell_15 X I s x0 x1 _ hr (mRet_ok _ _ _ _ _))
def r5_join (x0 : Int32) (x1 : Int32) (x2 : Int32) : Int32 := if (x0 : Int32) = 2 then (x1 + x2) else if (x0 : Int32) = 3 then (x1 - x2) else if (x0 : Int32) = 4 then (x1 * x2) else if (x0 : Int32) = 5 then (x1 ||| x2) else if (x0 : Int32) = 6 then if (x2 : Int32) ≤ (x1 : Int32) then 0 else 1 else if (x0 : Int32) = 7 then if (x1 : Int32) = (x2 : Int32) then 1 else 0 else if (x0 : Int32) = 8 then if (x1 : Int32) ≤ (x2 : Int32) then 0 else 1 else if (x0 : Int32) = 9 then (x1 ||| x2) else if (x0 : Int32) = 10 then (x1 &&& x2) else (x1 ||| x2)
set_option maxHeartbeats 4000000 in
set_option maxRecDepth 100000 in
theorem w5_join (X : Nat × (Nat → Int32)) (I : mI) (s : Nat) (x0 : Int32) (x1 : Int32) (x2 : Int32) (Q : mQ) {res : Int32} (hr : r5_join x0 x1 x2 = res) (hQ : Q (some (.int res)) NN KK I (PP s)) : mV X m5_join 0 0 0 0 [.int x0, .int x1, .int x2] [] NN KK I (PP s) Q := by
  unfold r5_join at hr
  refine mV_iload f5_join_0 rfl ?_
  by_cases h0 : x0 = 2
  · rw [if_pos h0] at hr
    refine mV_tabEq (v := 2) f5_join_1 h0 (by decide) (by decide) (by decide) (by decide : (1 : Int) + 51 = (52 : Nat)) ?_
    refine mV_iload f5_join_52 rfl ?_
    refine mV_iload f5_join_53 rfl ?_
    refine mV_iadd f5_join_54 ?_
    subst hr
    exact mV_iret rfl rfl f5_join_55 hQ
  rw [if_neg h0] at hr
  by_cases h1 : x0 = 3
  · rw [if_pos h1] at hr
    refine mV_tabEq (v := 3) f5_join_1 h1 (by decide) (by decide) (by decide) (by decide : (1 : Int) + 55 = (56 : Nat)) ?_
    refine mV_iload f5_join_56 rfl ?_
    refine mV_iload f5_join_57 rfl ?_
    refine mV_isub f5_join_58 ?_
    subst hr
    exact mV_iret rfl rfl f5_join_59 hQ
  rw [if_neg h1] at hr
  by_cases h2 : x0 = 4
  · rw [if_pos h2] at hr
    refine mV_tabEq (v := 4) f5_join_1 h2 (by decide) (by decide) (by decide) (by decide : (1 : Int) + 59 = (60 : Nat)) ?_
    refine mV_iload f5_join_60 rfl ?_
    refine mV_iload f5_join_61 rfl ?_
    refine mV_imul f5_join_62 ?_
    subst hr
    exact mV_iret rfl rfl f5_join_63 hQ
  rw [if_neg h2] at hr
  by_cases h3 : x0 = 5
  · rw [if_pos h3] at hr
    refine mV_tabEq (v := 5) f5_join_1 h3 (by decide) (by decide) (by decide) (by decide : (1 : Int) + 100 = (101 : Nat)) ?_
    refine mV_iload f5_join_101 rfl ?_
    refine mV_iload f5_join_102 rfl ?_
    refine mV_ior f5_join_103 ?_
    subst hr
    exact mV_iret rfl rfl f5_join_104 hQ
  rw [if_neg h3] at hr
  by_cases h4 : x0 = 6
  · rw [if_pos h4] at hr
    refine mV_tabEq (v := 6) f5_join_1 h4 (by decide) (by decide) (by decide) (by decide : (1 : Int) + 63 = (64 : Nat)) ?_
    refine mV_iload f5_join_64 rfl ?_
    refine mV_iload f5_join_65 rfl ?_
    refine mV_icmp_ge f5_join_66 (fun h5 => ?_) (fun h5 => ?_)
    · rw [if_pos h5] at hr
      refine mV_push f5_join_73 ?_
      subst hr
      exact mV_iret rfl rfl f5_join_74 hQ
    · rw [if_neg h5] at hr
      refine mV_push f5_join_69 ?_
      refine mV_goto f5_join_70 ?_
      subst hr
      exact mV_iret rfl rfl f5_join_74 hQ
  rw [if_neg h4] at hr
  by_cases h6 : x0 = 7
  · rw [if_pos h6] at hr
    refine mV_tabEq (v := 7) f5_join_1 h6 (by decide) (by decide) (by decide) (by decide : (1 : Int) + 74 = (75 : Nat)) ?_
    refine mV_iload f5_join_75 rfl ?_
    refine mV_iload f5_join_76 rfl ?_
    refine mV_icmp_ne f5_join_77 (fun h7 => ?_) (fun h7 => ?_)
    · rw [if_neg h7] at hr
      refine mV_push f5_join_84 ?_
      subst hr
      exact mV_iret rfl rfl f5_join_85 hQ
    · rw [if_pos h7] at hr
      refine mV_push f5_join_80 ?_
      refine mV_goto f5_join_81 ?_
      subst hr
      exact mV_iret rfl rfl f5_join_85 hQ
  rw [if_neg h6] at hr
  by_cases h8 : x0 = 8
  · rw [if_pos h8] at hr
    refine mV_tabEq (v := 8) f5_join_1 h8 (by decide) (by decide) (by decide) (by decide : (1 : Int) + 85 = (86 : Nat)) ?_
    refine mV_iload f5_join_86 rfl ?_
    refine mV_iload f5_join_87 rfl ?_
    refine mV_icmp_le f5_join_88 (fun h9 => ?_) (fun h9 => ?_)
    · rw [if_pos h9] at hr
      refine mV_push f5_join_95 ?_
      subst hr
      exact mV_iret rfl rfl f5_join_96 hQ
    · rw [if_neg h9] at hr
      refine mV_push f5_join_91 ?_
      refine mV_goto f5_join_92 ?_
      subst hr
      exact mV_iret rfl rfl f5_join_96 hQ
  rw [if_neg h8] at hr
  by_cases h10 : x0 = 9
  · rw [if_pos h10] at hr
    refine mV_tabEq (v := 9) f5_join_1 h10 (by decide) (by decide) (by decide) (by decide : (1 : Int) + 100 = (101 : Nat)) ?_
    refine mV_iload f5_join_101 rfl ?_
    refine mV_iload f5_join_102 rfl ?_
    refine mV_ior f5_join_103 ?_
    subst hr
    exact mV_iret rfl rfl f5_join_104 hQ
  rw [if_neg h10] at hr
  by_cases h11 : x0 = 10
  · rw [if_pos h11] at hr
    refine mV_tabEq (v := 10) f5_join_1 h11 (by decide) (by decide) (by decide) (by decide : (1 : Int) + 96 = (97 : Nat)) ?_
    refine mV_iload f5_join_97 rfl ?_
    refine mV_iload f5_join_98 rfl ?_
    refine mV_iand f5_join_99 ?_
    subst hr
    exact mV_iret rfl rfl f5_join_100 hQ
  rw [if_neg h11] at hr
  refine mV_tabNo f5_join_1 [2, 3, 4, 5, 6, 7, 8, 9, 10] (by decide) (List.forall_mem_cons.mpr ⟨h0, (List.forall_mem_cons.mpr ⟨h1, (List.forall_mem_cons.mpr ⟨h2, (List.forall_mem_cons.mpr ⟨h3, (List.forall_mem_cons.mpr ⟨h4, (List.forall_mem_cons.mpr ⟨h6, (List.forall_mem_cons.mpr ⟨h8, (List.forall_mem_cons.mpr ⟨h10, (List.forall_mem_cons.mpr ⟨h11, (fun _ hc => absurd hc List.not_mem_nil)⟩)⟩)⟩)⟩)⟩)⟩)⟩)⟩)⟩) (by decide : (1 : Int) + 100 = (101 : Nat)) ?_
  refine mV_iload f5_join_101 rfl ?_
  refine mV_iload f5_join_102 rfl ?_
  refine mV_ior f5_join_103 ?_
  subst hr
  exact mV_iret rfl rfl f5_join_104 hQ
theorem c5_join (X : Nat × (Nat → Int32)) (I : mI) (s : Nat) (x0 : Int32) (x1 : Int32) (x2 : Int32) {res : Int32} (hr : r5_join x0 x1 x2 = res) : mC X m5_join 0 0 0 [.int x0, .int x1, .int x2] NN KK I (PP s) (mRet (some (.int res)) NN KK I (PP s)) :=
  mC_of (L0 := [.int x0, .int x1, .int x2]) rfl (Nat.le_of_ble_eq_true rfl) (w5_join X I s x0 x1 x2 _ hr (mRet_ok _ _ _ _ _))
def l5_run_18 (k2 : Int32) : Nat → Int32 → Int32 → mI → Option ((Int32 × mI) ⊕ (Int32 × mI))
  | 0, _, _, _ => none
  | f + 1, y4, y5, I => if (k2 : Int32) ≤ (y5 : Int32) then some (.inr (y4, I)) else if (I 15 3 : Int32) ≤ (y5 : Int32) then some (.inr (y4, I)) else (mLd I 17 400 y5).bind fun z0 => (mLd I 17 400 y5).bind fun z1 => if (1 : Int32) < ((z0 &&& 15) : Int32) then if ((z0 &&& 15) : Int32) = (5 : Int32) then if (0 : Int32) ≤ (y4 : Int32) then (if ((z0 &&& 15) : Int32) = (9 : Int32) then (mLd I 41 32 y4).bind fun z5 => some (1 - z5) else if ((z1 >>> (4 &&& 31)) : Int32) = (0 : Int32) then some 0 else (mLd I 41 32 y4).bind fun z3 => (mDivO z3 (z1 >>> (4 &&& 31))).bind fun z4 => some z4 : Option (Int32)).bind fun z2 => (mSto I 41 32 y4 z2).bind fun z6 => l5_run_18 k2 f y4 (y5 + 1) z6 else some (.inl (0, I)) else if ((z0 &&& 15) : Int32) = (9 : Int32) then if (0 : Int32) ≤ (y4 : Int32) then (if ((z0 &&& 15) : Int32) = (9 : Int32) then (mLd I 41 32 y4).bind fun z13 => some (1 - z13) else if ((z1 >>> (4 &&& 31)) : Int32) = (0 : Int32) then some 0 else (mLd I 41 32 y4).bind fun z11 => (mDivO z11 (z1 >>> (4 &&& 31))).bind fun z12 => some z12 : Option (Int32)).bind fun z10 => (mSto I 41 32 y4 z10).bind fun z14 => l5_run_18 k2 f y4 (y5 + 1) z14 else some (.inl (0, I)) else if (1 : Int32) ≤ (y4 : Int32) then (mLd I 41 32 (y4 + (-1))).bind fun z7 => (mLd I 41 32 ((y4 + (-1)) + 1)).bind fun z8 => (mSto I 41 32 (y4 + (-1)) (r5_join (z0 &&& 15) z7 z8)).bind fun z9 => l5_run_18 k2 f (y4 + (-1)) (y5 + 1) z9 else some (.inl (0, I)) else if ((y4 + 1) : Int32) < (32 : Int32) then (if ((z0 &&& 15) : Int32) = (0 : Int32) then some (z1 >>> (4 &&& 31)) else if (12 : Int32) ≤ ((z1 >>> (4 &&& 31)) : Int32) then some 0 else (mLd I 40 12 (z1 >>> (4 &&& 31))).bind fun z16 => some z16 : Option (Int32)).bind fun z15 => (mSto I 41 32 (y4 + 1) z15).bind fun z17 => l5_run_18 k2 f (y4 + 1) (y5 + 1) z17 else some (.inl (0, I))
def r5_run (I : mI) (x0 : Int32) (x1 : Int32) : Option (Int32 × mI) := (l5_run_18 x1 FU (-1) (mMax 0 x0) I).bind fun z0 => match z0 with | .inl rz0 => some rz0 | .inr wz0 => (if (wz0.1 : Int32) = (0 : Int32) then some (wz0.2 41 0) else some 0 : Option (Int32)).bind fun z1 => some (z1, wz0.2)
set_option maxHeartbeats 4000000 in
set_option maxRecDepth 100000 in
theorem t5_run_18 (X : Nat × (Nat → Int32)) (Q : mQ) (s : Nat) (k2 : Int32) : ∀ (f : Nat) (y4 : Int32) (y5 : Int32) (I : mI) (z : (Int32 × mI) ⊕ (Int32 × mI)), l5_run_18 k2 f y4 y5 I = some z → (∀ res, z = .inl res → Q (some (.int res.1)) NN KK res.2 (PP s)) → (∀ w, z = .inr w → mV X m5_run 1 0 0 227 [.ref 1, mX0, .int k2, .ref 15, .int w.1, mX0, mX0, mX0] [] NN KK w.2 (PP s) Q) → mV X m5_run 1 0 0 18 [.ref 1, mX0, .int k2, .ref 15, .int y4, .int y5, mX0, mX0] [] NN KK I (PP s) Q := by
  intro f
  induction f with
  | zero => intro y4 y5 I z hr hret hk; cases hr
  | succ f ih =>
    intro y4 y5 I z hr hret hk
    unfold l5_run_18 at hr
    refine mV_iload f5_run_18 rfl ?_
    refine mV_iload f5_run_20 rfl ?_
    refine mV_icmp_ge f5_run_21 (fun h0 => ?_) (fun h0 => ?_)
    · rw [if_pos h0] at hr
      have hr := Option.some.inj hr; subst hr
      refine mV_drop (L' := [.ref 1, mX0, .int k2, .ref 15, .int y4, mX0, mX0, mX0]) (mSub_k (mSub_x (mSub_k (mSub_k (mSub_k (mSub_x (mSub_x (mSub_x mSub_n)))))))) ?_
      exact hk _ rfl
    · rw [if_neg h0] at hr
      refine mV_iload f5_run_24 rfl ?_
      refine mV_aload f5_run_26 rfl ?_
      refine mV_gI (I 15 3) f5_run_27 (by decide) kk_15 rfl rfl ?_
      refine mV_icmp_ge f5_run_30 (fun h1 => ?_) (fun h1 => ?_)
      · rw [if_pos h1] at hr
        have hr := Option.some.inj hr; subst hr
        refine mV_drop (L' := [.ref 1, mX0, .int k2, .ref 15, .int y4, mX0, mX0, mX0]) (mSub_k (mSub_x (mSub_k (mSub_k (mSub_k (mSub_x (mSub_x (mSub_x mSub_n)))))))) ?_
        exact hk _ rfl
      · rw [if_neg h1] at hr
        refine mV_aload f5_run_33 rfl ?_
        refine mV_getP f5_run_34 (by decide) kk_15 rfl (pp_15_1 _) ?_
        refine mV_iload f5_run_37 rfl ?_
        obtain ⟨z0, hz0, hr⟩ := mBind hr
        refine mV_ldO f5_run_39 (by decide) kk_17 hz0 ?_
        refine mV_push f5_run_40 ?_
        refine mV_iand f5_run_42 ?_
        refine mV_istore (L' := [.ref 1, mX0, .int k2, .ref 15, .int y4, .int y5, .int (z0 &&& 15), mX0]) f5_run_43 (by decide) rfl rfl ?_
        refine mV_aload f5_run_45 rfl ?_
        refine mV_getP f5_run_46 (by decide) kk_15 rfl (pp_15_1 _) ?_
        refine mV_iload f5_run_49 rfl ?_
        obtain ⟨z1, hz1, hr⟩ := mBind hr
        refine mV_ldO f5_run_51 (by decide) kk_17 hz1 ?_
        refine mV_push f5_run_52 ?_
        refine mV_ishr f5_run_53 ?_
        refine mV_istore (L' := [.ref 1, mX0, .int k2, .ref 15, .int y4, .int y5, .int (z0 &&& 15), .int (z1 >>> (4 &&& 31))]) f5_run_54 (by decide) rfl rfl ?_
        refine mV_iload f5_run_56 rfl ?_
        refine mV_push f5_run_58 ?_
        refine mV_icmp_gt f5_run_59 (fun h2 => ?_) (fun h2 => ?_)
        · rw [if_pos h2] at hr
          refine mV_iload f5_run_114 rfl ?_
          refine mV_push f5_run_116 ?_
          refine mV_icmp_eq f5_run_117 (fun h3 => ?_) (fun h3 => ?_)
          · rw [if_pos h3] at hr
            refine mV_iload f5_run_127 rfl ?_
            refine mV_if_ge f5_run_129 (fun h4 => ?_) (fun h4 => ?_)
            · rw [if_pos h4] at hr
              refine mV_aload f5_run_134 rfl ?_
              refine mV_getP f5_run_135 (by decide) kk_1 rfl (pp_1_5 _) ?_
              refine mV_iload f5_run_138 rfl ?_
              refine mV_iload f5_run_140 rfl ?_
              refine mV_push f5_run_142 ?_
              obtain ⟨z2, hz2, hr⟩ := mBind hr
              have keyz2 : mV X m5_run 1 0 0 178 [.ref 1, mX0, .int k2, .ref 15, .int y4, .int y5, mX0, mX0] [.int z2, .int y4, .ref 41] NN KK I (PP s) Q := by
                obtain ⟨z6, hz6, hr⟩ := mBind hr
                refine mV_stO f5_run_178 (by decide) kk_41 hz6 ?_
                refine mV_goto f5_run_179 ?_
                refine mV_iinc (y := (y5 + 1)) (L' := [.ref 1, mX0, .int k2, .ref 15, .int y4, .int (y5 + 1), mX0, mX0]) f5_run_221 rfl rfl (by decide) rfl rfl ?_
                refine mV_goto f5_run_224 ?_
                exact ih y4 (y5 + 1) z6 _ hr hret hk
              clear hr
              have hr := hz2
              clear hz2
              refine mV_icmp_ne f5_run_144 (fun h5 => ?_) (fun h5 => ?_)
              · rw [if_neg h5] at hr
                refine mV_iload f5_run_159 rfl ?_
                refine mV_if_eq f5_run_161 (fun h6 => ?_) (fun h6 => ?_)
                · rw [if_pos h6] at hr
                  refine mV_push f5_run_177 ?_
                  have hr := Option.some.inj hr; subst hr
                  refine mV_drop (L' := [.ref 1, mX0, .int k2, .ref 15, .int y4, .int y5, mX0, mX0]) (mSub_k (mSub_x (mSub_k (mSub_k (mSub_k (mSub_k (mSub_x (mSub_x mSub_n)))))))) ?_
                  exact keyz2
                · rw [if_neg h6] at hr
                  refine mV_aload f5_run_164 rfl ?_
                  refine mV_getP f5_run_165 (by decide) kk_1 rfl (pp_1_5 _) ?_
                  refine mV_iload f5_run_168 rfl ?_
                  obtain ⟨z3, hz3, hr⟩ := mBind hr
                  refine mV_ldO f5_run_170 (by decide) kk_41 hz3 ?_
                  refine mV_iload f5_run_171 rfl ?_
                  obtain ⟨z4, hz4, hr⟩ := mBind hr
                  refine mV_divO f5_run_173 hz4 ?_
                  refine mV_goto f5_run_174 ?_
                  have hr := Option.some.inj hr; subst hr
                  refine mV_drop (L' := [.ref 1, mX0, .int k2, .ref 15, .int y4, .int y5, mX0, mX0]) (mSub_k (mSub_x (mSub_k (mSub_k (mSub_k (mSub_k (mSub_x (mSub_x mSub_n)))))))) ?_
                  exact keyz2
              · rw [if_pos h5] at hr
                refine mV_push f5_run_147 ?_
                refine mV_aload f5_run_148 rfl ?_
                refine mV_getP f5_run_149 (by decide) kk_1 rfl (pp_1_5 _) ?_
                refine mV_iload f5_run_152 rfl ?_
                obtain ⟨z5, hz5, hr⟩ := mBind hr
                refine mV_ldO f5_run_154 (by decide) kk_41 hz5 ?_
                refine mV_isub f5_run_155 ?_
                refine mV_goto f5_run_156 ?_
                have hr := Option.some.inj hr; subst hr
                refine mV_drop (L' := [.ref 1, mX0, .int k2, .ref 15, .int y4, .int y5, mX0, mX0]) (mSub_k (mSub_x (mSub_k (mSub_k (mSub_k (mSub_k (mSub_x (mSub_x mSub_n)))))))) ?_
                exact keyz2
            · rw [if_neg h4] at hr
              refine mV_push f5_run_132 ?_
              have hr := Option.some.inj hr; subst hr; have hQ := hret _ rfl
              exact mV_iret rfl rfl f5_run_133 hQ
          · rw [if_neg h3] at hr
            refine mV_iload f5_run_120 rfl ?_
            refine mV_push f5_run_122 ?_
            refine mV_icmp_ne f5_run_124 (fun h7 => ?_) (fun h7 => ?_)
            · rw [if_neg h7] at hr
              refine mV_iload f5_run_182 rfl ?_
              refine mV_push f5_run_184 ?_
              refine mV_icmp_ge f5_run_185 (fun h8 => ?_) (fun h8 => ?_)
              · rw [if_pos h8] at hr
                refine mV_iinc (y := (y4 + (-1))) (L' := [.ref 1, mX0, .int k2, .ref 15, .int (y4 + (-1)), .int y5, .int (z0 &&& 15), .int (z1 >>> (4 &&& 31))]) f5_run_190 rfl rfl (by decide) rfl rfl ?_
                refine mV_aload f5_run_193 rfl ?_
                refine mV_getP f5_run_194 (by decide) kk_1 rfl (pp_1_5 _) ?_
                refine mV_iload f5_run_197 rfl ?_
                refine mV_iload f5_run_199 rfl ?_
                refine mV_aload f5_run_201 rfl ?_
                refine mV_getP f5_run_202 (by decide) kk_1 rfl (pp_1_5 _) ?_
                refine mV_iload f5_run_205 rfl ?_
                obtain ⟨z7, hz7, hr⟩ := mBind hr
                refine mV_ldO f5_run_207 (by decide) kk_41 hz7 ?_
                refine mV_aload f5_run_208 rfl ?_
                refine mV_getP f5_run_209 (by decide) kk_1 rfl (pp_1_5 _) ?_
                refine mV_iload f5_run_212 rfl ?_
                refine mV_push f5_run_214 ?_
                refine mV_iadd f5_run_215 ?_
                obtain ⟨z8, hz8, hr⟩ := mBind hr
                refine mV_ldO f5_run_216 (by decide) kk_41 hz8 ?_
                refine mV_cS f5_run_217 tg_m5_join (mC_deep (c5_join X I s (z0 &&& 15) z7 z8 rfl) (by decide)) rfl rfl (Nat.le_of_ble_eq_true rfl) ?_
                obtain ⟨z9, hz9, hr⟩ := mBind hr
                refine mV_stO f5_run_220 (by decide) kk_41 hz9 ?_
                refine mV_iinc (y := (y5 + 1)) (L' := [.ref 1, mX0, .int k2, .ref 15, .int (y4 + (-1)), .int (y5 + 1), .int (z0 &&& 15), .int (z1 >>> (4 &&& 31))]) f5_run_221 rfl rfl (by decide) rfl rfl ?_
                refine mV_goto f5_run_224 ?_
                refine mV_drop (L' := [.ref 1, mX0, .int k2, .ref 15, .int (y4 + (-1)), .int (y5 + 1), mX0, mX0]) (mSub_k (mSub_x (mSub_k (mSub_k (mSub_k (mSub_k (mSub_x (mSub_x mSub_n)))))))) ?_
                exact ih (y4 + (-1)) (y5 + 1) z9 _ hr hret hk
              · rw [if_neg h8] at hr
                refine mV_push f5_run_188 ?_
                have hr := Option.some.inj hr; subst hr; have hQ := hret _ rfl
                exact mV_iret rfl rfl f5_run_189 hQ
            · rw [if_pos h7] at hr
              refine mV_iload f5_run_127 rfl ?_
              refine mV_if_ge f5_run_129 (fun h9 => ?_) (fun h9 => ?_)
              · rw [if_pos h9] at hr
                refine mV_aload f5_run_134 rfl ?_
                refine mV_getP f5_run_135 (by decide) kk_1 rfl (pp_1_5 _) ?_
                refine mV_iload f5_run_138 rfl ?_
                refine mV_iload f5_run_140 rfl ?_
                refine mV_push f5_run_142 ?_
                obtain ⟨z10, hz10, hr⟩ := mBind hr
                have keyz10 : mV X m5_run 1 0 0 178 [.ref 1, mX0, .int k2, .ref 15, .int y4, .int y5, mX0, mX0] [.int z10, .int y4, .ref 41] NN KK I (PP s) Q := by
                  obtain ⟨z14, hz14, hr⟩ := mBind hr
                  refine mV_stO f5_run_178 (by decide) kk_41 hz14 ?_
                  refine mV_goto f5_run_179 ?_
                  refine mV_iinc (y := (y5 + 1)) (L' := [.ref 1, mX0, .int k2, .ref 15, .int y4, .int (y5 + 1), mX0, mX0]) f5_run_221 rfl rfl (by decide) rfl rfl ?_
                  refine mV_goto f5_run_224 ?_
                  exact ih y4 (y5 + 1) z14 _ hr hret hk
                clear hr
                have hr := hz10
                clear hz10
                refine mV_icmp_ne f5_run_144 (fun h10 => ?_) (fun h10 => ?_)
                · rw [if_neg h10] at hr
                  refine mV_iload f5_run_159 rfl ?_
                  refine mV_if_eq f5_run_161 (fun h11 => ?_) (fun h11 => ?_)
                  · rw [if_pos h11] at hr
                    refine mV_push f5_run_177 ?_
                    have hr := Option.some.inj hr; subst hr
                    refine mV_drop (L' := [.ref 1, mX0, .int k2, .ref 15, .int y4, .int y5, mX0, mX0]) (mSub_k (mSub_x (mSub_k (mSub_k (mSub_k (mSub_k (mSub_x (mSub_x mSub_n)))))))) ?_
                    exact keyz10
                  · rw [if_neg h11] at hr
                    refine mV_aload f5_run_164 rfl ?_
                    refine mV_getP f5_run_165 (by decide) kk_1 rfl (pp_1_5 _) ?_
                    refine mV_iload f5_run_168 rfl ?_
                    obtain ⟨z11, hz11, hr⟩ := mBind hr
                    refine mV_ldO f5_run_170 (by decide) kk_41 hz11 ?_
                    refine mV_iload f5_run_171 rfl ?_
                    obtain ⟨z12, hz12, hr⟩ := mBind hr
                    refine mV_divO f5_run_173 hz12 ?_
                    refine mV_goto f5_run_174 ?_
                    have hr := Option.some.inj hr; subst hr
                    refine mV_drop (L' := [.ref 1, mX0, .int k2, .ref 15, .int y4, .int y5, mX0, mX0]) (mSub_k (mSub_x (mSub_k (mSub_k (mSub_k (mSub_k (mSub_x (mSub_x mSub_n)))))))) ?_
                    exact keyz10
                · rw [if_pos h10] at hr
                  refine mV_push f5_run_147 ?_
                  refine mV_aload f5_run_148 rfl ?_
                  refine mV_getP f5_run_149 (by decide) kk_1 rfl (pp_1_5 _) ?_
                  refine mV_iload f5_run_152 rfl ?_
                  obtain ⟨z13, hz13, hr⟩ := mBind hr
                  refine mV_ldO f5_run_154 (by decide) kk_41 hz13 ?_
                  refine mV_isub f5_run_155 ?_
                  refine mV_goto f5_run_156 ?_
                  have hr := Option.some.inj hr; subst hr
                  refine mV_drop (L' := [.ref 1, mX0, .int k2, .ref 15, .int y4, .int y5, mX0, mX0]) (mSub_k (mSub_x (mSub_k (mSub_k (mSub_k (mSub_k (mSub_x (mSub_x mSub_n)))))))) ?_
                  exact keyz10
              · rw [if_neg h9] at hr
                refine mV_push f5_run_132 ?_
                have hr := Option.some.inj hr; subst hr; have hQ := hret _ rfl
                exact mV_iret rfl rfl f5_run_133 hQ
        · rw [if_neg h2] at hr
          refine mV_iload f5_run_62 rfl ?_
          refine mV_push f5_run_64 ?_
          refine mV_iadd f5_run_65 ?_
          refine mV_push f5_run_66 ?_
          refine mV_icmp_lt f5_run_68 (fun h12 => ?_) (fun h12 => ?_)
          · rw [if_pos h12] at hr
            refine mV_iinc (y := (y4 + 1)) (L' := [.ref 1, mX0, .int k2, .ref 15, .int (y4 + 1), .int y5, .int (z0 &&& 15), .int (z1 >>> (4 &&& 31))]) f5_run_73 rfl rfl (by decide) rfl rfl ?_
            refine mV_aload f5_run_76 rfl ?_
            refine mV_getP f5_run_77 (by decide) kk_1 rfl (pp_1_5 _) ?_
            refine mV_iload f5_run_80 rfl ?_
            refine mV_iload f5_run_82 rfl ?_
            obtain ⟨z15, hz15, hr⟩ := mBind hr
            have keyz15 : mV X m5_run 1 0 0 110 [.ref 1, mX0, .int k2, .ref 15, .int (y4 + 1), .int y5, mX0, mX0] [.int z15, .int (y4 + 1), .ref 41] NN KK I (PP s) Q := by
              obtain ⟨z17, hz17, hr⟩ := mBind hr
              refine mV_stO f5_run_110 (by decide) kk_41 hz17 ?_
              refine mV_goto f5_run_111 ?_
              refine mV_iinc (y := (y5 + 1)) (L' := [.ref 1, mX0, .int k2, .ref 15, .int (y4 + 1), .int (y5 + 1), mX0, mX0]) f5_run_221 rfl rfl (by decide) rfl rfl ?_
              refine mV_goto f5_run_224 ?_
              exact ih (y4 + 1) (y5 + 1) z17 _ hr hret hk
            clear hr
            have hr := hz15
            clear hz15
            refine mV_if_ne f5_run_84 (fun h13 => ?_) (fun h13 => ?_)
            · rw [if_neg h13] at hr
              refine mV_iload f5_run_92 rfl ?_
              refine mV_push f5_run_94 ?_
              refine mV_icmp_ge f5_run_96 (fun h14 => ?_) (fun h14 => ?_)
              · rw [if_pos h14] at hr
                refine mV_push f5_run_109 ?_
                have hr := Option.some.inj hr; subst hr
                refine mV_drop (L' := [.ref 1, mX0, .int k2, .ref 15, .int (y4 + 1), .int y5, mX0, mX0]) (mSub_k (mSub_x (mSub_k (mSub_k (mSub_k (mSub_k (mSub_x (mSub_x mSub_n)))))))) ?_
                exact keyz15
              · rw [if_neg h14] at hr
                refine mV_aload f5_run_99 rfl ?_
                refine mV_getP f5_run_100 (by decide) kk_1 rfl (pp_1_4 _) ?_
                refine mV_iload f5_run_103 rfl ?_
                obtain ⟨z16, hz16, hr⟩ := mBind hr
                refine mV_ldO f5_run_105 (by decide) kk_40 hz16 ?_
                refine mV_goto f5_run_106 ?_
                have hr := Option.some.inj hr; subst hr
                refine mV_drop (L' := [.ref 1, mX0, .int k2, .ref 15, .int (y4 + 1), .int y5, mX0, mX0]) (mSub_k (mSub_x (mSub_k (mSub_k (mSub_k (mSub_k (mSub_x (mSub_x mSub_n)))))))) ?_
                exact keyz15
            · rw [if_pos h13] at hr
              refine mV_iload f5_run_87 rfl ?_
              refine mV_goto f5_run_89 ?_
              have hr := Option.some.inj hr; subst hr
              refine mV_drop (L' := [.ref 1, mX0, .int k2, .ref 15, .int (y4 + 1), .int y5, mX0, mX0]) (mSub_k (mSub_x (mSub_k (mSub_k (mSub_k (mSub_k (mSub_x (mSub_x mSub_n)))))))) ?_
              exact keyz15
          · rw [if_neg h12] at hr
            refine mV_push f5_run_71 ?_
            have hr := Option.some.inj hr; subst hr; have hQ := hret _ rfl
            exact mV_iret rfl rfl f5_run_72 hQ
set_option maxHeartbeats 4000000 in
set_option maxRecDepth 100000 in
theorem w5_run (X : Nat × (Nat → Int32)) (I : mI) (s : Nat) (x0 : Int32) (x1 : Int32) (Q : mQ) {res : Int32 × mI} (hr : r5_run I x0 x1 = some res) (hQ : Q (some (.int res.1)) NN KK res.2 (PP s)) : mV X m5_run 1 0 0 0 [.ref 1, .int x0, .int x1, mX0, mX0, mX0, mX0, mX0] [] NN KK I (PP s) Q := by
  unfold r5_run at hr
  refine mV_aload f5_run_0 rfl ?_
  refine mV_getP f5_run_1 (by decide) kk_1 rfl (pp_1_0 _) ?_
  refine mV_getP f5_run_4 (by decide) kk_2 rfl (pp_2_2 _) ?_
  refine mV_astore (L' := [.ref 1, .int x0, .int x1, .ref 15, mX0, mX0, mX0, mX0]) f5_run_7 (by decide) rfl rfl ?_
  refine mV_push f5_run_8 ?_
  refine mV_istore (L' := [.ref 1, .int x0, .int x1, .ref 15, .int (-1), mX0, mX0, mX0]) f5_run_9 (by decide) rfl rfl ?_
  refine mV_push f5_run_11 ?_
  refine mV_iload f5_run_12 rfl ?_
  refine mV_maxC fm5_run_13 (Nat.le_of_ble_eq_true rfl) ?_
  refine mV_istore (L' := [.ref 1, .int x0, .int x1, .ref 15, .int (-1), .int (mMax 0 x0), mX0, mX0]) f5_run_16 (by decide) rfl rfl ?_
  obtain ⟨z0, hz0, hr⟩ := mBind hr
  refine mV_drop (L' := [.ref 1, mX0, .int x1, .ref 15, .int (-1), .int (mMax 0 x0), mX0, mX0]) (mSub_k (mSub_x (mSub_k (mSub_k (mSub_k (mSub_k (mSub_x (mSub_x mSub_n)))))))) ?_
  refine t5_run_18 X Q s x1 FU (-1) (mMax 0 x0) I _ hz0 (fun res ez0 => ?_) (fun wz0 ez0 => ?_)
  · rw [ez0] at hr; have hr := Option.some.inj hr; subst hr; exact hQ
  rw [ez0] at hr
  dsimp only at hr
  refine mV_iload f5_run_227 rfl ?_
  obtain ⟨z1, hz1, hr⟩ := mBind hr
  have keyz1 : mV X m5_run 1 0 0 242 [.ref 1, mX0, mX0, .ref 15, mX0, mX0, mX0, mX0] [.int z1] NN KK wz0.2 (PP s) Q := by
    have hr := Option.some.inj hr; subst hr
    exact mV_iret rfl rfl f5_run_242 hQ
  clear hr
  have hr := hz1
  clear hz1
  refine mV_if_ne f5_run_229 (fun h0 => ?_) (fun h0 => ?_)
  · rw [if_neg h0] at hr
    refine mV_push f5_run_241 ?_
    have hr := Option.some.inj hr; subst hr
    refine mV_drop (L' := [.ref 1, mX0, mX0, .ref 15, mX0, mX0, mX0, mX0]) (mSub_k (mSub_x (mSub_x (mSub_k (mSub_x (mSub_x (mSub_x (mSub_x mSub_n)))))))) ?_
    exact keyz1
  · rw [if_pos h0] at hr
    refine mV_aload f5_run_232 rfl ?_
    refine mV_getP f5_run_233 (by decide) kk_1 rfl (pp_1_5 _) ?_
    refine mV_push f5_run_236 ?_
    refine mV_ld (wz0.2 41 0) 0 f5_run_237 (by decide) kk_41 (by decide) rfl ?_
    refine mV_goto f5_run_238 ?_
    have hr := Option.some.inj hr; subst hr
    refine mV_drop (L' := [.ref 1, mX0, mX0, .ref 15, mX0, mX0, mX0, mX0]) (mSub_k (mSub_x (mSub_x (mSub_k (mSub_x (mSub_x (mSub_x (mSub_x mSub_n)))))))) ?_
    exact keyz1
theorem c5_run (X : Nat × (Nat → Int32)) (I : mI) (s : Nat) (x0 : Int32) (x1 : Int32) {res : Int32 × mI} (hr : r5_run I x0 x1 = some res) : mC X m5_run 1 0 0 [.ref 1, .int x0, .int x1] NN KK I (PP s) (mRet (some (.int res.1)) NN KK res.2 (PP s)) :=
  mC_of (L0 := [.ref 1, .int x0, .int x1, mX0, mX0, mX0, mX0, mX0]) rfl (Nat.le_of_ble_eq_true rfl) (w5_run X I s x0 x1 _ hr (mRet_ok _ _ _ _ _))
def r9_who (I : mI) (x0 : Int32) (x1 : Int32) : Option (Int32) := if ((r0_hasPlayer I x0) : Int32) = (0 : Int32) then some (-1) else if (x1 : Int32) = 0 then (mLd I 12 6 x0).bind fun z0 => some z0 else if (x1 : Int32) = 1 then (mLd I 13 6 x0).bind fun z1 => some z1 else if (x1 : Int32) = 2 then (mLd I 6 6 x0).bind fun z2 => some z2 else some (-1)
set_option maxHeartbeats 4000000 in
set_option maxRecDepth 100000 in
theorem w9_who (X : Nat × (Nat → Int32)) (I : mI) (s : Nat) (x0 : Int32) (x1 : Int32) (Q : mQ) {res : Int32} (hr : r9_who I x0 x1 = some res) (hQ : Q (some (.int res)) NN KK I (PP s)) : mV X m9_who 1 0 0 0 [.ref 0, .int x0, .int x1] [] NN KK I (PP s) Q := by
  unfold r9_who at hr
  refine mV_aload f9_who_0 rfl ?_
  refine mV_getP f9_who_1 (by decide) kk_0 rfl (pp_0_1 _) ?_
  refine mV_getP f9_who_4 (by decide) kk_2 rfl (pp_2_1 _) ?_
  refine mV_iload f9_who_7 rfl ?_
  refine mV_cV f9_who_8 tg_m0_hasPlayer mCls0 (by decide) kk_8 (mC_deep (c0_hasPlayer X I s x0 rfl) (by decide)) rfl rfl (Nat.le_of_ble_eq_true rfl) ?_
  refine mV_if_ne f9_who_11 (fun h0 => ?_) (fun h0 => ?_)
  · rw [if_neg h0] at hr
    refine mV_iload f9_who_16 rfl ?_
    by_cases h1 : x1 = 0
    · rw [if_pos h1] at hr
      refine mV_tabEq (v := 0) f9_who_17 h1 (by decide) (by decide) (by decide) (by decide : (17 : Int) + 27 = (44 : Nat)) ?_
      refine mV_aload f9_who_44 rfl ?_
      refine mV_getP f9_who_45 (by decide) kk_0 rfl (pp_0_1 _) ?_
      refine mV_getP f9_who_48 (by decide) kk_2 rfl (pp_2_1 _) ?_
      refine mV_getP f9_who_51 (by decide) kk_8 rfl (pp_8_3 _) ?_
      refine mV_iload f9_who_54 rfl ?_
      obtain ⟨z0, hz0, hr⟩ := mBind hr
      refine mV_ldO f9_who_55 (by decide) kk_12 hz0 ?_
      have hr := Option.some.inj hr; subst hr
      exact mV_iret rfl rfl f9_who_56 hQ
    rw [if_neg h1] at hr
    by_cases h2 : x1 = 1
    · rw [if_pos h2] at hr
      refine mV_tabEq (v := 1) f9_who_17 h2 (by decide) (by decide) (by decide) (by decide : (17 : Int) + 40 = (57 : Nat)) ?_
      refine mV_aload f9_who_57 rfl ?_
      refine mV_getP f9_who_58 (by decide) kk_0 rfl (pp_0_1 _) ?_
      refine mV_getP f9_who_61 (by decide) kk_2 rfl (pp_2_1 _) ?_
      refine mV_getP f9_who_64 (by decide) kk_8 rfl (pp_8_4 _) ?_
      refine mV_iload f9_who_67 rfl ?_
      obtain ⟨z1, hz1, hr⟩ := mBind hr
      refine mV_ldO f9_who_68 (by decide) kk_13 hz1 ?_
      have hr := Option.some.inj hr; subst hr
      exact mV_iret rfl rfl f9_who_69 hQ
    rw [if_neg h2] at hr
    by_cases h3 : x1 = 2
    · rw [if_pos h3] at hr
      refine mV_tabEq (v := 2) f9_who_17 h3 (by decide) (by decide) (by decide) (by decide : (17 : Int) + 53 = (70 : Nat)) ?_
      refine mV_aload f9_who_70 rfl ?_
      refine mV_getP f9_who_71 (by decide) kk_0 rfl (pp_0_1 _) ?_
      refine mV_getP f9_who_74 (by decide) kk_2 rfl (pp_2_0 _) ?_
      refine mV_getP f9_who_77 (by decide) kk_3 rfl (pp_3_2 _) ?_
      refine mV_iload f9_who_80 rfl ?_
      obtain ⟨z2, hz2, hr⟩ := mBind hr
      refine mV_ldO f9_who_81 (by decide) kk_6 hz2 ?_
      have hr := Option.some.inj hr; subst hr
      exact mV_iret rfl rfl f9_who_82 hQ
    rw [if_neg h3] at hr
    refine mV_tabNo f9_who_17 [0, 1, 2] (by decide) (List.forall_mem_cons.mpr ⟨h1, (List.forall_mem_cons.mpr ⟨h2, (List.forall_mem_cons.mpr ⟨h3, (fun _ hc => absurd hc List.not_mem_nil)⟩)⟩)⟩) (by decide : (17 : Int) + 66 = (83 : Nat)) ?_
    refine mV_push f9_who_83 ?_
    have hr := Option.some.inj hr; subst hr
    exact mV_iret rfl rfl f9_who_84 hQ
  · rw [if_pos h0] at hr
    refine mV_push f9_who_14 ?_
    have hr := Option.some.inj hr; subst hr
    exact mV_iret rfl rfl f9_who_15 hQ
theorem c9_who (X : Nat × (Nat → Int32)) (I : mI) (s : Nat) (x0 : Int32) (x1 : Int32) {res : Int32} (hr : r9_who I x0 x1 = some res) : mC X m9_who 1 0 0 [.ref 0, .int x0, .int x1] NN KK I (PP s) (mRet (some (.int res)) NN KK I (PP s)) :=
  mC_of (L0 := [.ref 0, .int x0, .int x1]) rfl (Nat.le_of_ble_eq_true rfl) (w9_who X I s x0 x1 _ hr (mRet_ok _ _ _ _ _))
def r9_string (I : mI) (x0 : Int32) (x1 : Int32) : Option (Int32) := if (x0 : Int32) < (0 : Int32) then some (-1) else if (x0 : Int32) < (8 : Int32) then (if (x1 : Int32) = (0 : Int32) then (mLd I 7 8 x0).bind fun z2 => some z2 else if (x1 : Int32) = (1 : Int32) then (mLd I 29 8 x0).bind fun z1 => some z1 else some (-1) : Option (Int32)).bind fun z0 => some z0 else some (-1)
set_option maxHeartbeats 4000000 in
set_option maxRecDepth 100000 in
theorem w9_string (X : Nat × (Nat → Int32)) (I : mI) (s : Nat) (x0 : Int32) (x1 : Int32) (Q : mQ) {res : Int32} (hr : r9_string I x0 x1 = some res) (hQ : Q (some (.int res)) NN KK I (PP s)) : mV X m9_string 0 0 0 0 [.ref 0, .int x0, .int x1] [] NN KK I (PP s) Q := by
  unfold r9_string at hr
  refine mV_iload f9_string_0 rfl ?_
  refine mV_if_lt f9_string_1 (fun h0 => ?_) (fun h0 => ?_)
  · rw [if_pos h0] at hr
    refine mV_push f9_string_10 ?_
    have hr := Option.some.inj hr; subst hr
    exact mV_iret rfl rfl f9_string_11 hQ
  · rw [if_neg h0] at hr
    refine mV_iload f9_string_4 rfl ?_
    refine mV_push f9_string_5 ?_
    refine mV_icmp_lt f9_string_7 (fun h1 => ?_) (fun h1 => ?_)
    · rw [if_pos h1] at hr
      refine mV_iload f9_string_12 rfl ?_
      obtain ⟨z0, hz0, hr⟩ := mBind hr
      have keyz0 : mV X m9_string 0 0 0 52 [.ref 0, mX0, mX0] [.int z0] NN KK I (PP s) Q := by
        have hr := Option.some.inj hr; subst hr
        exact mV_iret rfl rfl f9_string_52 hQ
      clear hr
      have hr := hz0
      clear hz0
      refine mV_if_ne f9_string_13 (fun h2 => ?_) (fun h2 => ?_)
      · rw [if_neg h2] at hr
        refine mV_iload f9_string_31 rfl ?_
        refine mV_push f9_string_32 ?_
        refine mV_icmp_ne f9_string_33 (fun h3 => ?_) (fun h3 => ?_)
        · rw [if_neg h3] at hr
          refine mV_push f9_string_51 ?_
          have hr := Option.some.inj hr; subst hr
          refine mV_drop (L' := [.ref 0, mX0, mX0]) (mSub_k (mSub_x (mSub_x mSub_n))) ?_
          exact keyz0
        · rw [if_pos h3] at hr
          refine mV_aload f9_string_36 rfl ?_
          refine mV_getP f9_string_37 (by decide) kk_0 rfl (pp_0_1 _) ?_
          refine mV_getP f9_string_40 (by decide) kk_2 rfl (pp_2_6 _) ?_
          refine mV_getP f9_string_43 (by decide) kk_27 rfl (pp_27_1 _) ?_
          refine mV_iload f9_string_46 rfl ?_
          obtain ⟨z1, hz1, hr⟩ := mBind hr
          refine mV_ldO f9_string_47 (by decide) kk_29 hz1 ?_
          refine mV_goto f9_string_48 ?_
          have hr := Option.some.inj hr; subst hr
          refine mV_drop (L' := [.ref 0, mX0, mX0]) (mSub_k (mSub_x (mSub_x mSub_n))) ?_
          exact keyz0
      · rw [if_pos h2] at hr
        refine mV_aload f9_string_16 rfl ?_
        refine mV_getP f9_string_17 (by decide) kk_0 rfl (pp_0_1 _) ?_
        refine mV_getP f9_string_20 (by decide) kk_2 rfl (pp_2_0 _) ?_
        refine mV_getP f9_string_23 (by decide) kk_3 rfl (pp_3_3 _) ?_
        refine mV_iload f9_string_26 rfl ?_
        obtain ⟨z2, hz2, hr⟩ := mBind hr
        refine mV_ldO f9_string_27 (by decide) kk_7 hz2 ?_
        refine mV_goto f9_string_28 ?_
        have hr := Option.some.inj hr; subst hr
        refine mV_drop (L' := [.ref 0, mX0, mX0]) (mSub_k (mSub_x (mSub_x mSub_n))) ?_
        exact keyz0
    · rw [if_neg h1] at hr
      refine mV_push f9_string_10 ?_
      have hr := Option.some.inj hr; subst hr
      exact mV_iret rfl rfl f9_string_11 hQ
theorem c9_string (X : Nat × (Nat → Int32)) (I : mI) (s : Nat) (x0 : Int32) (x1 : Int32) {res : Int32} (hr : r9_string I x0 x1 = some res) : mC X m9_string 0 0 0 [.ref 0, .int x0, .int x1] NN KK I (PP s) (mRet (some (.int res)) NN KK I (PP s)) :=
  mC_of (L0 := [.ref 0, .int x0, .int x1]) rfl (Nat.le_of_ble_eq_true rfl) (w9_string X I s x0 x1 _ hr (mRet_ok _ _ _ _ _))
def r9_book (I : mI) (x0 : Int32) (x1 : Int32) : Option (Int32) := if (x0 : Int32) < (0 : Int32) then some (-2) else if (I 3 12 : Int32) ≤ (x0 : Int32) then some (-2) else if (150 : Int32) ≤ (x0 : Int32) then some (-2) else if (x1 : Int32) < (0 : Int32) then some (-2) else if (x1 : Int32) < (4 : Int32) then (mLd I 34 600 ((x0 * 4) + x1)).bind fun z0 => some z0 else some (-2)
set_option maxHeartbeats 4000000 in
set_option maxRecDepth 100000 in
theorem w9_book (X : Nat × (Nat → Int32)) (I : mI) (s : Nat) (x0 : Int32) (x1 : Int32) (Q : mQ) {res : Int32} (hr : r9_book I x0 x1 = some res) (hQ : Q (some (.int res)) NN KK I (PP s)) : mV X m9_book 0 0 0 0 [.ref 0, .int x0, .int x1] [] NN KK I (PP s) Q := by
  unfold r9_book at hr
  refine mV_iload f9_book_0 rfl ?_
  refine mV_if_lt f9_book_1 (fun h0 => ?_) (fun h0 => ?_)
  · rw [if_pos h0] at hr
    refine mV_push f9_book_34 ?_
    have hr := Option.some.inj hr; subst hr
    exact mV_iret rfl rfl f9_book_36 hQ
  · rw [if_neg h0] at hr
    refine mV_iload f9_book_4 rfl ?_
    refine mV_aload f9_book_5 rfl ?_
    refine mV_getP f9_book_6 (by decide) kk_0 rfl (pp_0_1 _) ?_
    refine mV_getP f9_book_9 (by decide) kk_2 rfl (pp_2_0 _) ?_
    refine mV_gI (I 3 12) f9_book_12 (by decide) kk_3 rfl rfl ?_
    refine mV_icmp_ge f9_book_15 (fun h1 => ?_) (fun h1 => ?_)
    · rw [if_pos h1] at hr
      refine mV_push f9_book_34 ?_
      have hr := Option.some.inj hr; subst hr
      exact mV_iret rfl rfl f9_book_36 hQ
    · rw [if_neg h1] at hr
      refine mV_iload f9_book_18 rfl ?_
      refine mV_push f9_book_19 ?_
      refine mV_icmp_ge f9_book_22 (fun h2 => ?_) (fun h2 => ?_)
      · rw [if_pos h2] at hr
        refine mV_push f9_book_34 ?_
        have hr := Option.some.inj hr; subst hr
        exact mV_iret rfl rfl f9_book_36 hQ
      · rw [if_neg h2] at hr
        refine mV_iload f9_book_25 rfl ?_
        refine mV_if_lt f9_book_26 (fun h3 => ?_) (fun h3 => ?_)
        · rw [if_pos h3] at hr
          refine mV_push f9_book_34 ?_
          have hr := Option.some.inj hr; subst hr
          exact mV_iret rfl rfl f9_book_36 hQ
        · rw [if_neg h3] at hr
          refine mV_iload f9_book_29 rfl ?_
          refine mV_push f9_book_30 ?_
          refine mV_icmp_lt f9_book_31 (fun h4 => ?_) (fun h4 => ?_)
          · rw [if_pos h4] at hr
            refine mV_aload f9_book_37 rfl ?_
            refine mV_getP f9_book_38 (by decide) kk_0 rfl (pp_0_1 _) ?_
            refine mV_getP f9_book_41 (by decide) kk_2 rfl (pp_2_7 _) ?_
            refine mV_iload f9_book_44 rfl ?_
            refine mV_push f9_book_45 ?_
            refine mV_imul f9_book_46 ?_
            refine mV_iload f9_book_47 rfl ?_
            refine mV_iadd f9_book_48 ?_
            obtain ⟨z0, hz0, hr⟩ := mBind hr
            refine mV_ldO f9_book_49 (by decide) kk_34 hz0 ?_
            have hr := Option.some.inj hr; subst hr
            exact mV_iret rfl rfl f9_book_50 hQ
          · rw [if_neg h4] at hr
            refine mV_push f9_book_34 ?_
            have hr := Option.some.inj hr; subst hr
            exact mV_iret rfl rfl f9_book_36 hQ
theorem c9_book (X : Nat × (Nat → Int32)) (I : mI) (s : Nat) (x0 : Int32) (x1 : Int32) {res : Int32} (hr : r9_book I x0 x1 = some res) : mC X m9_book 0 0 0 [.ref 0, .int x0, .int x1] NN KK I (PP s) (mRet (some (.int res)) NN KK I (PP s)) :=
  mC_of (L0 := [.ref 0, .int x0, .int x1]) rfl (Nat.le_of_ble_eq_true rfl) (w9_book X I s x0 x1 _ hr (mRet_ok _ _ _ _ _))
def r7_copyFrom (I : mI) (a : Nat) (b : Nat) : Option (mI) := (mCpO I (b + 1) 12 (a + 1) 12 0 0 12).bind fun z0 => (mCpO z0 (b + 2) 12 (a + 2) 12 0 0 12).bind fun z1 => (mCpO z1 (b + 3) 6 (a + 3) 6 0 0 6).bind fun z2 => (mCpO z2 (b + 4) 8 (a + 4) 8 0 0 8).bind fun z3 => some (mW (mW (mW (mW (mW (mW (mW (mW (mW z3 a 4 (z3 b 4)) a 5 ((mW z3 a 4 (z3 b 4)) b 5)) a 6 ((mW (mW z3 a 4 (z3 b 4)) a 5 ((mW z3 a 4 (z3 b 4)) b 5)) b 6)) a 7 ((mW (mW (mW z3 a 4 (z3 b 4)) a 5 ((mW z3 a 4 (z3 b 4)) b 5)) a 6 ((mW (mW z3 a 4 (z3 b 4)) a 5 ((mW z3 a 4 (z3 b 4)) b 5)) b 6)) b 7)) a 8 ((mW (mW (mW (mW z3 a 4 (z3 b 4)) a 5 ((mW z3 a 4 (z3 b 4)) b 5)) a 6 ((mW (mW z3 a 4 (z3 b 4)) a 5 ((mW z3 a 4 (z3 b 4)) b 5)) b 6)) a 7 ((mW (mW (mW z3 a 4 (z3 b 4)) a 5 ((mW z3 a 4 (z3 b 4)) b 5)) a 6 ((mW (mW z3 a 4 (z3 b 4)) a 5 ((mW z3 a 4 (z3 b 4)) b 5)) b 6)) b 7)) b 8)) a 9 ((mW (mW (mW (mW (mW z3 a 4 (z3 b 4)) a 5 ((mW z3 a 4 (z3 b 4)) b 5)) a 6 ((mW (mW z3 a 4 (z3 b 4)) a 5 ((mW z3 a 4 (z3 b 4)) b 5)) b 6)) a 7 ((mW (mW (mW z3 a 4 (z3 b 4)) a 5 ((mW z3 a 4 (z3 b 4)) b 5)) a 6 ((mW (mW z3 a 4 (z3 b 4)) a 5 ((mW z3 a 4 (z3 b 4)) b 5)) b 6)) b 7)) a 8 ((mW (mW (mW (mW z3 a 4 (z3 b 4)) a 5 ((mW z3 a 4 (z3 b 4)) b 5)) a 6 ((mW (mW z3 a 4 (z3 b 4)) a 5 ((mW z3 a 4 (z3 b 4)) b 5)) b 6)) a 7 ((mW (mW (mW z3 a 4 (z3 b 4)) a 5 ((mW z3 a 4 (z3 b 4)) b 5)) a 6 ((mW (mW z3 a 4 (z3 b 4)) a 5 ((mW z3 a 4 (z3 b 4)) b 5)) b 6)) b 7)) b 8)) b 9)) a 10 ((mW (mW (mW (mW (mW (mW z3 a 4 (z3 b 4)) a 5 ((mW z3 a 4 (z3 b 4)) b 5)) a 6 ((mW (mW z3 a 4 (z3 b 4)) a 5 ((mW z3 a 4 (z3 b 4)) b 5)) b 6)) a 7 ((mW (mW (mW z3 a 4 (z3 b 4)) a 5 ((mW z3 a 4 (z3 b 4)) b 5)) a 6 ((mW (mW z3 a 4 (z3 b 4)) a 5 ((mW z3 a 4 (z3 b 4)) b 5)) b 6)) b 7)) a 8 ((mW (mW (mW (mW z3 a 4 (z3 b 4)) a 5 ((mW z3 a 4 (z3 b 4)) b 5)) a 6 ((mW (mW z3 a 4 (z3 b 4)) a 5 ((mW z3 a 4 (z3 b 4)) b 5)) b 6)) a 7 ((mW (mW (mW z3 a 4 (z3 b 4)) a 5 ((mW z3 a 4 (z3 b 4)) b 5)) a 6 ((mW (mW z3 a 4 (z3 b 4)) a 5 ((mW z3 a 4 (z3 b 4)) b 5)) b 6)) b 7)) b 8)) a 9 ((mW (mW (mW (mW (mW z3 a 4 (z3 b 4)) a 5 ((mW z3 a 4 (z3 b 4)) b 5)) a 6 ((mW (mW z3 a 4 (z3 b 4)) a 5 ((mW z3 a 4 (z3 b 4)) b 5)) b 6)) a 7 ((mW (mW (mW z3 a 4 (z3 b 4)) a 5 ((mW z3 a 4 (z3 b 4)) b 5)) a 6 ((mW (mW z3 a 4 (z3 b 4)) a 5 ((mW z3 a 4 (z3 b 4)) b 5)) b 6)) b 7)) a 8 ((mW (mW (mW (mW z3 a 4 (z3 b 4)) a 5 ((mW z3 a 4 (z3 b 4)) b 5)) a 6 ((mW (mW z3 a 4 (z3 b 4)) a 5 ((mW z3 a 4 (z3 b 4)) b 5)) b 6)) a 7 ((mW (mW (mW z3 a 4 (z3 b 4)) a 5 ((mW z3 a 4 (z3 b 4)) b 5)) a 6 ((mW (mW z3 a 4 (z3 b 4)) a 5 ((mW z3 a 4 (z3 b 4)) b 5)) b 6)) b 7)) b 8)) b 9)) b 10)) a 11 ((mW (mW (mW (mW (mW (mW (mW z3 a 4 (z3 b 4)) a 5 ((mW z3 a 4 (z3 b 4)) b 5)) a 6 ((mW (mW z3 a 4 (z3 b 4)) a 5 ((mW z3 a 4 (z3 b 4)) b 5)) b 6)) a 7 ((mW (mW (mW z3 a 4 (z3 b 4)) a 5 ((mW z3 a 4 (z3 b 4)) b 5)) a 6 ((mW (mW z3 a 4 (z3 b 4)) a 5 ((mW z3 a 4 (z3 b 4)) b 5)) b 6)) b 7)) a 8 ((mW (mW (mW (mW z3 a 4 (z3 b 4)) a 5 ((mW z3 a 4 (z3 b 4)) b 5)) a 6 ((mW (mW z3 a 4 (z3 b 4)) a 5 ((mW z3 a 4 (z3 b 4)) b 5)) b 6)) a 7 ((mW (mW (mW z3 a 4 (z3 b 4)) a 5 ((mW z3 a 4 (z3 b 4)) b 5)) a 6 ((mW (mW z3 a 4 (z3 b 4)) a 5 ((mW z3 a 4 (z3 b 4)) b 5)) b 6)) b 7)) b 8)) a 9 ((mW (mW (mW (mW (mW z3 a 4 (z3 b 4)) a 5 ((mW z3 a 4 (z3 b 4)) b 5)) a 6 ((mW (mW z3 a 4 (z3 b 4)) a 5 ((mW z3 a 4 (z3 b 4)) b 5)) b 6)) a 7 ((mW (mW (mW z3 a 4 (z3 b 4)) a 5 ((mW z3 a 4 (z3 b 4)) b 5)) a 6 ((mW (mW z3 a 4 (z3 b 4)) a 5 ((mW z3 a 4 (z3 b 4)) b 5)) b 6)) b 7)) a 8 ((mW (mW (mW (mW z3 a 4 (z3 b 4)) a 5 ((mW z3 a 4 (z3 b 4)) b 5)) a 6 ((mW (mW z3 a 4 (z3 b 4)) a 5 ((mW z3 a 4 (z3 b 4)) b 5)) b 6)) a 7 ((mW (mW (mW z3 a 4 (z3 b 4)) a 5 ((mW z3 a 4 (z3 b 4)) b 5)) a 6 ((mW (mW z3 a 4 (z3 b 4)) a 5 ((mW z3 a 4 (z3 b 4)) b 5)) b 6)) b 7)) b 8)) b 9)) a 10 ((mW (mW (mW (mW (mW (mW z3 a 4 (z3 b 4)) a 5 ((mW z3 a 4 (z3 b 4)) b 5)) a 6 ((mW (mW z3 a 4 (z3 b 4)) a 5 ((mW z3 a 4 (z3 b 4)) b 5)) b 6)) a 7 ((mW (mW (mW z3 a 4 (z3 b 4)) a 5 ((mW z3 a 4 (z3 b 4)) b 5)) a 6 ((mW (mW z3 a 4 (z3 b 4)) a 5 ((mW z3 a 4 (z3 b 4)) b 5)) b 6)) b 7)) a 8 ((mW (mW (mW (mW z3 a 4 (z3 b 4)) a 5 ((mW z3 a 4 (z3 b 4)) b 5)) a 6 ((mW (mW z3 a 4 (z3 b 4)) a 5 ((mW z3 a 4 (z3 b 4)) b 5)) b 6)) a 7 ((mW (mW (mW z3 a 4 (z3 b 4)) a 5 ((mW z3 a 4 (z3 b 4)) b 5)) a 6 ((mW (mW z3 a 4 (z3 b 4)) a 5 ((mW z3 a 4 (z3 b 4)) b 5)) b 6)) b 7)) b 8)) a 9 ((mW (mW (mW (mW (mW z3 a 4 (z3 b 4)) a 5 ((mW z3 a 4 (z3 b 4)) b 5)) a 6 ((mW (mW z3 a 4 (z3 b 4)) a 5 ((mW z3 a 4 (z3 b 4)) b 5)) b 6)) a 7 ((mW (mW (mW z3 a 4 (z3 b 4)) a 5 ((mW z3 a 4 (z3 b 4)) b 5)) a 6 ((mW (mW z3 a 4 (z3 b 4)) a 5 ((mW z3 a 4 (z3 b 4)) b 5)) b 6)) b 7)) a 8 ((mW (mW (mW (mW z3 a 4 (z3 b 4)) a 5 ((mW z3 a 4 (z3 b 4)) b 5)) a 6 ((mW (mW z3 a 4 (z3 b 4)) a 5 ((mW z3 a 4 (z3 b 4)) b 5)) b 6)) a 7 ((mW (mW (mW z3 a 4 (z3 b 4)) a 5 ((mW z3 a 4 (z3 b 4)) b 5)) a 6 ((mW (mW z3 a 4 (z3 b 4)) a 5 ((mW z3 a 4 (z3 b 4)) b 5)) b 6)) b 7)) b 8)) b 9)) b 10)) b 11)) a 12 ((mW (mW (mW (mW (mW (mW (mW (mW z3 a 4 (z3 b 4)) a 5 ((mW z3 a 4 (z3 b 4)) b 5)) a 6 ((mW (mW z3 a 4 (z3 b 4)) a 5 ((mW z3 a 4 (z3 b 4)) b 5)) b 6)) a 7 ((mW (mW (mW z3 a 4 (z3 b 4)) a 5 ((mW z3 a 4 (z3 b 4)) b 5)) a 6 ((mW (mW z3 a 4 (z3 b 4)) a 5 ((mW z3 a 4 (z3 b 4)) b 5)) b 6)) b 7)) a 8 ((mW (mW (mW (mW z3 a 4 (z3 b 4)) a 5 ((mW z3 a 4 (z3 b 4)) b 5)) a 6 ((mW (mW z3 a 4 (z3 b 4)) a 5 ((mW z3 a 4 (z3 b 4)) b 5)) b 6)) a 7 ((mW (mW (mW z3 a 4 (z3 b 4)) a 5 ((mW z3 a 4 (z3 b 4)) b 5)) a 6 ((mW (mW z3 a 4 (z3 b 4)) a 5 ((mW z3 a 4 (z3 b 4)) b 5)) b 6)) b 7)) b 8)) a 9 ((mW (mW (mW (mW (mW z3 a 4 (z3 b 4)) a 5 ((mW z3 a 4 (z3 b 4)) b 5)) a 6 ((mW (mW z3 a 4 (z3 b 4)) a 5 ((mW z3 a 4 (z3 b 4)) b 5)) b 6)) a 7 ((mW (mW (mW z3 a 4 (z3 b 4)) a 5 ((mW z3 a 4 (z3 b 4)) b 5)) a 6 ((mW (mW z3 a 4 (z3 b 4)) a 5 ((mW z3 a 4 (z3 b 4)) b 5)) b 6)) b 7)) a 8 ((mW (mW (mW (mW z3 a 4 (z3 b 4)) a 5 ((mW z3 a 4 (z3 b 4)) b 5)) a 6 ((mW (mW z3 a 4 (z3 b 4)) a 5 ((mW z3 a 4 (z3 b 4)) b 5)) b 6)) a 7 ((mW (mW (mW z3 a 4 (z3 b 4)) a 5 ((mW z3 a 4 (z3 b 4)) b 5)) a 6 ((mW (mW z3 a 4 (z3 b 4)) a 5 ((mW z3 a 4 (z3 b 4)) b 5)) b 6)) b 7)) b 8)) b 9)) a 10 ((mW (mW (mW (mW (mW (mW z3 a 4 (z3 b 4)) a 5 ((mW z3 a 4 (z3 b 4)) b 5)) a 6 ((mW (mW z3 a 4 (z3 b 4)) a 5 ((mW z3 a 4 (z3 b 4)) b 5)) b 6)) a 7 ((mW (mW (mW z3 a 4 (z3 b 4)) a 5 ((mW z3 a 4 (z3 b 4)) b 5)) a 6 ((mW (mW z3 a 4 (z3 b 4)) a 5 ((mW z3 a 4 (z3 b 4)) b 5)) b 6)) b 7)) a 8 ((mW (mW (mW (mW z3 a 4 (z3 b 4)) a 5 ((mW z3 a 4 (z3 b 4)) b 5)) a 6 ((mW (mW z3 a 4 (z3 b 4)) a 5 ((mW z3 a 4 (z3 b 4)) b 5)) b 6)) a 7 ((mW (mW (mW z3 a 4 (z3 b 4)) a 5 ((mW z3 a 4 (z3 b 4)) b 5)) a 6 ((mW (mW z3 a 4 (z3 b 4)) a 5 ((mW z3 a 4 (z3 b 4)) b 5)) b 6)) b 7)) b 8)) a 9 ((mW (mW (mW (mW (mW z3 a 4 (z3 b 4)) a 5 ((mW z3 a 4 (z3 b 4)) b 5)) a 6 ((mW (mW z3 a 4 (z3 b 4)) a 5 ((mW z3 a 4 (z3 b 4)) b 5)) b 6)) a 7 ((mW (mW (mW z3 a 4 (z3 b 4)) a 5 ((mW z3 a 4 (z3 b 4)) b 5)) a 6 ((mW (mW z3 a 4 (z3 b 4)) a 5 ((mW z3 a 4 (z3 b 4)) b 5)) b 6)) b 7)) a 8 ((mW (mW (mW (mW z3 a 4 (z3 b 4)) a 5 ((mW z3 a 4 (z3 b 4)) b 5)) a 6 ((mW (mW z3 a 4 (z3 b 4)) a 5 ((mW z3 a 4 (z3 b 4)) b 5)) b 6)) a 7 ((mW (mW (mW z3 a 4 (z3 b 4)) a 5 ((mW z3 a 4 (z3 b 4)) b 5)) a 6 ((mW (mW z3 a 4 (z3 b 4)) a 5 ((mW z3 a 4 (z3 b 4)) b 5)) b 6)) b 7)) b 8)) b 9)) b 10)) a 11 ((mW (mW (mW (mW (mW (mW (mW z3 a 4 (z3 b 4)) a 5 ((mW z3 a 4 (z3 b 4)) b 5)) a 6 ((mW (mW z3 a 4 (z3 b 4)) a 5 ((mW z3 a 4 (z3 b 4)) b 5)) b 6)) a 7 ((mW (mW (mW z3 a 4 (z3 b 4)) a 5 ((mW z3 a 4 (z3 b 4)) b 5)) a 6 ((mW (mW z3 a 4 (z3 b 4)) a 5 ((mW z3 a 4 (z3 b 4)) b 5)) b 6)) b 7)) a 8 ((mW (mW (mW (mW z3 a 4 (z3 b 4)) a 5 ((mW z3 a 4 (z3 b 4)) b 5)) a 6 ((mW (mW z3 a 4 (z3 b 4)) a 5 ((mW z3 a 4 (z3 b 4)) b 5)) b 6)) a 7 ((mW (mW (mW z3 a 4 (z3 b 4)) a 5 ((mW z3 a 4 (z3 b 4)) b 5)) a 6 ((mW (mW z3 a 4 (z3 b 4)) a 5 ((mW z3 a 4 (z3 b 4)) b 5)) b 6)) b 7)) b 8)) a 9 ((mW (mW (mW (mW (mW z3 a 4 (z3 b 4)) a 5 ((mW z3 a 4 (z3 b 4)) b 5)) a 6 ((mW (mW z3 a 4 (z3 b 4)) a 5 ((mW z3 a 4 (z3 b 4)) b 5)) b 6)) a 7 ((mW (mW (mW z3 a 4 (z3 b 4)) a 5 ((mW z3 a 4 (z3 b 4)) b 5)) a 6 ((mW (mW z3 a 4 (z3 b 4)) a 5 ((mW z3 a 4 (z3 b 4)) b 5)) b 6)) b 7)) a 8 ((mW (mW (mW (mW z3 a 4 (z3 b 4)) a 5 ((mW z3 a 4 (z3 b 4)) b 5)) a 6 ((mW (mW z3 a 4 (z3 b 4)) a 5 ((mW z3 a 4 (z3 b 4)) b 5)) b 6)) a 7 ((mW (mW (mW z3 a 4 (z3 b 4)) a 5 ((mW z3 a 4 (z3 b 4)) b 5)) a 6 ((mW (mW z3 a 4 (z3 b 4)) a 5 ((mW z3 a 4 (z3 b 4)) b 5)) b 6)) b 7)) b 8)) b 9)) a 10 ((mW (mW (mW (mW (mW (mW z3 a 4 (z3 b 4)) a 5 ((mW z3 a 4 (z3 b 4)) b 5)) a 6 ((mW (mW z3 a 4 (z3 b 4)) a 5 ((mW z3 a 4 (z3 b 4)) b 5)) b 6)) a 7 ((mW (mW (mW z3 a 4 (z3 b 4)) a 5 ((mW z3 a 4 (z3 b 4)) b 5)) a 6 ((mW (mW z3 a 4 (z3 b 4)) a 5 ((mW z3 a 4 (z3 b 4)) b 5)) b 6)) b 7)) a 8 ((mW (mW (mW (mW z3 a 4 (z3 b 4)) a 5 ((mW z3 a 4 (z3 b 4)) b 5)) a 6 ((mW (mW z3 a 4 (z3 b 4)) a 5 ((mW z3 a 4 (z3 b 4)) b 5)) b 6)) a 7 ((mW (mW (mW z3 a 4 (z3 b 4)) a 5 ((mW z3 a 4 (z3 b 4)) b 5)) a 6 ((mW (mW z3 a 4 (z3 b 4)) a 5 ((mW z3 a 4 (z3 b 4)) b 5)) b 6)) b 7)) b 8)) a 9 ((mW (mW (mW (mW (mW z3 a 4 (z3 b 4)) a 5 ((mW z3 a 4 (z3 b 4)) b 5)) a 6 ((mW (mW z3 a 4 (z3 b 4)) a 5 ((mW z3 a 4 (z3 b 4)) b 5)) b 6)) a 7 ((mW (mW (mW z3 a 4 (z3 b 4)) a 5 ((mW z3 a 4 (z3 b 4)) b 5)) a 6 ((mW (mW z3 a 4 (z3 b 4)) a 5 ((mW z3 a 4 (z3 b 4)) b 5)) b 6)) b 7)) a 8 ((mW (mW (mW (mW z3 a 4 (z3 b 4)) a 5 ((mW z3 a 4 (z3 b 4)) b 5)) a 6 ((mW (mW z3 a 4 (z3 b 4)) a 5 ((mW z3 a 4 (z3 b 4)) b 5)) b 6)) a 7 ((mW (mW (mW z3 a 4 (z3 b 4)) a 5 ((mW z3 a 4 (z3 b 4)) b 5)) a 6 ((mW (mW z3 a 4 (z3 b 4)) a 5 ((mW z3 a 4 (z3 b 4)) b 5)) b 6)) b 7)) b 8)) b 9)) b 10)) b 11)) b 12))
set_option maxHeartbeats 4000000 in
set_option maxRecDepth 100000 in
theorem w7_copyFrom (X : Nat × (Nat → Int32)) (I : mI) (s : Nat) (a : Nat) (b : Nat) (ha : mStg a) (hb : mStg b) (Q : mQ) {res : mI} (hr : r7_copyFrom I a b = some res) (hQ : Q none NN KK res (PP s)) : mV X m7_copyFrom 1 0 0 0 [.ref a, .ref b] [] NN KK I (PP s) Q := by
  unfold r7_copyFrom at hr
  refine mV_aload f7_copyFrom_0 rfl ?_
  refine mV_getP f7_copyFrom_1 hb.l0 hb.1.2.1 rfl (hb.p0 _) ?_
  refine mV_push f7_copyFrom_4 ?_
  refine mV_aload f7_copyFrom_5 rfl ?_
  refine mV_getP f7_copyFrom_6 ha.l0 ha.1.2.1 rfl (ha.p0 _) ?_
  refine mV_push f7_copyFrom_9 ?_
  refine mV_push f7_copyFrom_10 ?_
  obtain ⟨z0, hz0, hr⟩ := mBind hr
  refine mV_cpO f7_copyFrom_12 (hb.l (by decide)) (ha.l (by decide)) hb.1.2.2.1 ha.1.2.2.1 hz0 (Nat.le_of_ble_eq_true rfl) ?_
  refine mV_aload f7_copyFrom_15 rfl ?_
  refine mV_getP f7_copyFrom_16 hb.l0 hb.1.2.1 rfl (hb.p1 _) ?_
  refine mV_push f7_copyFrom_19 ?_
  refine mV_aload f7_copyFrom_20 rfl ?_
  refine mV_getP f7_copyFrom_21 ha.l0 ha.1.2.1 rfl (ha.p1 _) ?_
  refine mV_push f7_copyFrom_24 ?_
  refine mV_push f7_copyFrom_25 ?_
  obtain ⟨z1, hz1, hr⟩ := mBind hr
  refine mV_cpO f7_copyFrom_27 (hb.l (by decide)) (ha.l (by decide)) hb.1.2.2.2.1 ha.1.2.2.2.1 hz1 (Nat.le_of_ble_eq_true rfl) ?_
  refine mV_aload f7_copyFrom_30 rfl ?_
  refine mV_getP f7_copyFrom_31 hb.l0 hb.1.2.1 rfl (hb.p2 _) ?_
  refine mV_push f7_copyFrom_34 ?_
  refine mV_aload f7_copyFrom_35 rfl ?_
  refine mV_getP f7_copyFrom_36 ha.l0 ha.1.2.1 rfl (ha.p2 _) ?_
  refine mV_push f7_copyFrom_39 ?_
  refine mV_push f7_copyFrom_40 ?_
  obtain ⟨z2, hz2, hr⟩ := mBind hr
  refine mV_cpO f7_copyFrom_42 (hb.l (by decide)) (ha.l (by decide)) hb.1.2.2.2.2.1 ha.1.2.2.2.2.1 hz2 (Nat.le_of_ble_eq_true rfl) ?_
  refine mV_aload f7_copyFrom_45 rfl ?_
  refine mV_getP f7_copyFrom_46 hb.l0 hb.1.2.1 rfl (hb.p3 _) ?_
  refine mV_push f7_copyFrom_49 ?_
  refine mV_aload f7_copyFrom_50 rfl ?_
  refine mV_getP f7_copyFrom_51 ha.l0 ha.1.2.1 rfl (ha.p3 _) ?_
  refine mV_push f7_copyFrom_54 ?_
  refine mV_push f7_copyFrom_55 ?_
  obtain ⟨z3, hz3, hr⟩ := mBind hr
  refine mV_cpO f7_copyFrom_57 (hb.l (by decide)) (ha.l (by decide)) hb.1.2.2.2.2.2 ha.1.2.2.2.2.2 hz3 (Nat.le_of_ble_eq_true rfl) ?_
  refine mV_aload f7_copyFrom_60 rfl ?_
  refine mV_aload f7_copyFrom_61 rfl ?_
  refine mV_gI (z3 b 4) f7_copyFrom_62 hb.l0 hb.1.2.1 rfl rfl ?_
  refine mV_putI f7_copyFrom_65 ha.l0 ha.1.2.1 rfl rfl ?_
  refine mV_aload f7_copyFrom_68 rfl ?_
  refine mV_aload f7_copyFrom_69 rfl ?_
  refine mV_gI ((mW z3 a 4 (z3 b 4)) b 5) f7_copyFrom_70 hb.l0 hb.1.2.1 rfl rfl ?_
  refine mV_putI f7_copyFrom_73 ha.l0 ha.1.2.1 rfl rfl ?_
  refine mV_aload f7_copyFrom_76 rfl ?_
  refine mV_aload f7_copyFrom_77 rfl ?_
  refine mV_gI ((mW (mW z3 a 4 (z3 b 4)) a 5 ((mW z3 a 4 (z3 b 4)) b 5)) b 6) f7_copyFrom_78 hb.l0 hb.1.2.1 rfl rfl ?_
  refine mV_putI f7_copyFrom_81 ha.l0 ha.1.2.1 rfl rfl ?_
  refine mV_aload f7_copyFrom_84 rfl ?_
  refine mV_aload f7_copyFrom_85 rfl ?_
  refine mV_gI ((mW (mW (mW z3 a 4 (z3 b 4)) a 5 ((mW z3 a 4 (z3 b 4)) b 5)) a 6 ((mW (mW z3 a 4 (z3 b 4)) a 5 ((mW z3 a 4 (z3 b 4)) b 5)) b 6)) b 7) f7_copyFrom_86 hb.l0 hb.1.2.1 rfl rfl ?_
  refine mV_putI f7_copyFrom_89 ha.l0 ha.1.2.1 rfl rfl ?_
  refine mV_aload f7_copyFrom_92 rfl ?_
  refine mV_aload f7_copyFrom_93 rfl ?_
  refine mV_gI ((mW (mW (mW (mW z3 a 4 (z3 b 4)) a 5 ((mW z3 a 4 (z3 b 4)) b 5)) a 6 ((mW (mW z3 a 4 (z3 b 4)) a 5 ((mW z3 a 4 (z3 b 4)) b 5)) b 6)) a 7 ((mW (mW (mW z3 a 4 (z3 b 4)) a 5 ((mW z3 a 4 (z3 b 4)) b 5)) a 6 ((mW (mW z3 a 4 (z3 b 4)) a 5 ((mW z3 a 4 (z3 b 4)) b 5)) b 6)) b 7)) b 8) f7_copyFrom_94 hb.l0 hb.1.2.1 rfl rfl ?_
  refine mV_putI f7_copyFrom_97 ha.l0 ha.1.2.1 rfl rfl ?_
  refine mV_aload f7_copyFrom_100 rfl ?_
  refine mV_aload f7_copyFrom_101 rfl ?_
  refine mV_gI ((mW (mW (mW (mW (mW z3 a 4 (z3 b 4)) a 5 ((mW z3 a 4 (z3 b 4)) b 5)) a 6 ((mW (mW z3 a 4 (z3 b 4)) a 5 ((mW z3 a 4 (z3 b 4)) b 5)) b 6)) a 7 ((mW (mW (mW z3 a 4 (z3 b 4)) a 5 ((mW z3 a 4 (z3 b 4)) b 5)) a 6 ((mW (mW z3 a 4 (z3 b 4)) a 5 ((mW z3 a 4 (z3 b 4)) b 5)) b 6)) b 7)) a 8 ((mW (mW (mW (mW z3 a 4 (z3 b 4)) a 5 ((mW z3 a 4 (z3 b 4)) b 5)) a 6 ((mW (mW z3 a 4 (z3 b 4)) a 5 ((mW z3 a 4 (z3 b 4)) b 5)) b 6)) a 7 ((mW (mW (mW z3 a 4 (z3 b 4)) a 5 ((mW z3 a 4 (z3 b 4)) b 5)) a 6 ((mW (mW z3 a 4 (z3 b 4)) a 5 ((mW z3 a 4 (z3 b 4)) b 5)) b 6)) b 7)) b 8)) b 9) f7_copyFrom_102 hb.l0 hb.1.2.1 rfl rfl ?_
  refine mV_putI f7_copyFrom_105 ha.l0 ha.1.2.1 rfl rfl ?_
  refine mV_aload f7_copyFrom_108 rfl ?_
  refine mV_aload f7_copyFrom_109 rfl ?_
  refine mV_gI ((mW (mW (mW (mW (mW (mW z3 a 4 (z3 b 4)) a 5 ((mW z3 a 4 (z3 b 4)) b 5)) a 6 ((mW (mW z3 a 4 (z3 b 4)) a 5 ((mW z3 a 4 (z3 b 4)) b 5)) b 6)) a 7 ((mW (mW (mW z3 a 4 (z3 b 4)) a 5 ((mW z3 a 4 (z3 b 4)) b 5)) a 6 ((mW (mW z3 a 4 (z3 b 4)) a 5 ((mW z3 a 4 (z3 b 4)) b 5)) b 6)) b 7)) a 8 ((mW (mW (mW (mW z3 a 4 (z3 b 4)) a 5 ((mW z3 a 4 (z3 b 4)) b 5)) a 6 ((mW (mW z3 a 4 (z3 b 4)) a 5 ((mW z3 a 4 (z3 b 4)) b 5)) b 6)) a 7 ((mW (mW (mW z3 a 4 (z3 b 4)) a 5 ((mW z3 a 4 (z3 b 4)) b 5)) a 6 ((mW (mW z3 a 4 (z3 b 4)) a 5 ((mW z3 a 4 (z3 b 4)) b 5)) b 6)) b 7)) b 8)) a 9 ((mW (mW (mW (mW (mW z3 a 4 (z3 b 4)) a 5 ((mW z3 a 4 (z3 b 4)) b 5)) a 6 ((mW (mW z3 a 4 (z3 b 4)) a 5 ((mW z3 a 4 (z3 b 4)) b 5)) b 6)) a 7 ((mW (mW (mW z3 a 4 (z3 b 4)) a 5 ((mW z3 a 4 (z3 b 4)) b 5)) a 6 ((mW (mW z3 a 4 (z3 b 4)) a 5 ((mW z3 a 4 (z3 b 4)) b 5)) b 6)) b 7)) a 8 ((mW (mW (mW (mW z3 a 4 (z3 b 4)) a 5 ((mW z3 a 4 (z3 b 4)) b 5)) a 6 ((mW (mW z3 a 4 (z3 b 4)) a 5 ((mW z3 a 4 (z3 b 4)) b 5)) b 6)) a 7 ((mW (mW (mW z3 a 4 (z3 b 4)) a 5 ((mW z3 a 4 (z3 b 4)) b 5)) a 6 ((mW (mW z3 a 4 (z3 b 4)) a 5 ((mW z3 a 4 (z3 b 4)) b 5)) b 6)) b 7)) b 8)) b 9)) b 10) f7_copyFrom_110 hb.l0 hb.1.2.1 rfl rfl ?_
  refine mV_putI f7_copyFrom_113 ha.l0 ha.1.2.1 rfl rfl ?_
  refine mV_aload f7_copyFrom_116 rfl ?_
  refine mV_aload f7_copyFrom_117 rfl ?_
  refine mV_gI ((mW (mW (mW (mW (mW (mW (mW z3 a 4 (z3 b 4)) a 5 ((mW z3 a 4 (z3 b 4)) b 5)) a 6 ((mW (mW z3 a 4 (z3 b 4)) a 5 ((mW z3 a 4 (z3 b 4)) b 5)) b 6)) a 7 ((mW (mW (mW z3 a 4 (z3 b 4)) a 5 ((mW z3 a 4 (z3 b 4)) b 5)) a 6 ((mW (mW z3 a 4 (z3 b 4)) a 5 ((mW z3 a 4 (z3 b 4)) b 5)) b 6)) b 7)) a 8 ((mW (mW (mW (mW z3 a 4 (z3 b 4)) a 5 ((mW z3 a 4 (z3 b 4)) b 5)) a 6 ((mW (mW z3 a 4 (z3 b 4)) a 5 ((mW z3 a 4 (z3 b 4)) b 5)) b 6)) a 7 ((mW (mW (mW z3 a 4 (z3 b 4)) a 5 ((mW z3 a 4 (z3 b 4)) b 5)) a 6 ((mW (mW z3 a 4 (z3 b 4)) a 5 ((mW z3 a 4 (z3 b 4)) b 5)) b 6)) b 7)) b 8)) a 9 ((mW (mW (mW (mW (mW z3 a 4 (z3 b 4)) a 5 ((mW z3 a 4 (z3 b 4)) b 5)) a 6 ((mW (mW z3 a 4 (z3 b 4)) a 5 ((mW z3 a 4 (z3 b 4)) b 5)) b 6)) a 7 ((mW (mW (mW z3 a 4 (z3 b 4)) a 5 ((mW z3 a 4 (z3 b 4)) b 5)) a 6 ((mW (mW z3 a 4 (z3 b 4)) a 5 ((mW z3 a 4 (z3 b 4)) b 5)) b 6)) b 7)) a 8 ((mW (mW (mW (mW z3 a 4 (z3 b 4)) a 5 ((mW z3 a 4 (z3 b 4)) b 5)) a 6 ((mW (mW z3 a 4 (z3 b 4)) a 5 ((mW z3 a 4 (z3 b 4)) b 5)) b 6)) a 7 ((mW (mW (mW z3 a 4 (z3 b 4)) a 5 ((mW z3 a 4 (z3 b 4)) b 5)) a 6 ((mW (mW z3 a 4 (z3 b 4)) a 5 ((mW z3 a 4 (z3 b 4)) b 5)) b 6)) b 7)) b 8)) b 9)) a 10 ((mW (mW (mW (mW (mW (mW z3 a 4 (z3 b 4)) a 5 ((mW z3 a 4 (z3 b 4)) b 5)) a 6 ((mW (mW z3 a 4 (z3 b 4)) a 5 ((mW z3 a 4 (z3 b 4)) b 5)) b 6)) a 7 ((mW (mW (mW z3 a 4 (z3 b 4)) a 5 ((mW z3 a 4 (z3 b 4)) b 5)) a 6 ((mW (mW z3 a 4 (z3 b 4)) a 5 ((mW z3 a 4 (z3 b 4)) b 5)) b 6)) b 7)) a 8 ((mW (mW (mW (mW z3 a 4 (z3 b 4)) a 5 ((mW z3 a 4 (z3 b 4)) b 5)) a 6 ((mW (mW z3 a 4 (z3 b 4)) a 5 ((mW z3 a 4 (z3 b 4)) b 5)) b 6)) a 7 ((mW (mW (mW z3 a 4 (z3 b 4)) a 5 ((mW z3 a 4 (z3 b 4)) b 5)) a 6 ((mW (mW z3 a 4 (z3 b 4)) a 5 ((mW z3 a 4 (z3 b 4)) b 5)) b 6)) b 7)) b 8)) a 9 ((mW (mW (mW (mW (mW z3 a 4 (z3 b 4)) a 5 ((mW z3 a 4 (z3 b 4)) b 5)) a 6 ((mW (mW z3 a 4 (z3 b 4)) a 5 ((mW z3 a 4 (z3 b 4)) b 5)) b 6)) a 7 ((mW (mW (mW z3 a 4 (z3 b 4)) a 5 ((mW z3 a 4 (z3 b 4)) b 5)) a 6 ((mW (mW z3 a 4 (z3 b 4)) a 5 ((mW z3 a 4 (z3 b 4)) b 5)) b 6)) b 7)) a 8 ((mW (mW (mW (mW z3 a 4 (z3 b 4)) a 5 ((mW z3 a 4 (z3 b 4)) b 5)) a 6 ((mW (mW z3 a 4 (z3 b 4)) a 5 ((mW z3 a 4 (z3 b 4)) b 5)) b 6)) a 7 ((mW (mW (mW z3 a 4 (z3 b 4)) a 5 ((mW z3 a 4 (z3 b 4)) b 5)) a 6 ((mW (mW z3 a 4 (z3 b 4)) a 5 ((mW z3 a 4 (z3 b 4)) b 5)) b 6)) b 7)) b 8)) b 9)) b 10)) b 11) f7_copyFrom_118 hb.l0 hb.1.2.1 rfl rfl ?_
  refine mV_putI f7_copyFrom_121 ha.l0 ha.1.2.1 rfl rfl ?_
  refine mV_aload f7_copyFrom_124 rfl ?_
  refine mV_aload f7_copyFrom_125 rfl ?_
  refine mV_gI ((mW (mW (mW (mW (mW (mW (mW (mW z3 a 4 (z3 b 4)) a 5 ((mW z3 a 4 (z3 b 4)) b 5)) a 6 ((mW (mW z3 a 4 (z3 b 4)) a 5 ((mW z3 a 4 (z3 b 4)) b 5)) b 6)) a 7 ((mW (mW (mW z3 a 4 (z3 b 4)) a 5 ((mW z3 a 4 (z3 b 4)) b 5)) a 6 ((mW (mW z3 a 4 (z3 b 4)) a 5 ((mW z3 a 4 (z3 b 4)) b 5)) b 6)) b 7)) a 8 ((mW (mW (mW (mW z3 a 4 (z3 b 4)) a 5 ((mW z3 a 4 (z3 b 4)) b 5)) a 6 ((mW (mW z3 a 4 (z3 b 4)) a 5 ((mW z3 a 4 (z3 b 4)) b 5)) b 6)) a 7 ((mW (mW (mW z3 a 4 (z3 b 4)) a 5 ((mW z3 a 4 (z3 b 4)) b 5)) a 6 ((mW (mW z3 a 4 (z3 b 4)) a 5 ((mW z3 a 4 (z3 b 4)) b 5)) b 6)) b 7)) b 8)) a 9 ((mW (mW (mW (mW (mW z3 a 4 (z3 b 4)) a 5 ((mW z3 a 4 (z3 b 4)) b 5)) a 6 ((mW (mW z3 a 4 (z3 b 4)) a 5 ((mW z3 a 4 (z3 b 4)) b 5)) b 6)) a 7 ((mW (mW (mW z3 a 4 (z3 b 4)) a 5 ((mW z3 a 4 (z3 b 4)) b 5)) a 6 ((mW (mW z3 a 4 (z3 b 4)) a 5 ((mW z3 a 4 (z3 b 4)) b 5)) b 6)) b 7)) a 8 ((mW (mW (mW (mW z3 a 4 (z3 b 4)) a 5 ((mW z3 a 4 (z3 b 4)) b 5)) a 6 ((mW (mW z3 a 4 (z3 b 4)) a 5 ((mW z3 a 4 (z3 b 4)) b 5)) b 6)) a 7 ((mW (mW (mW z3 a 4 (z3 b 4)) a 5 ((mW z3 a 4 (z3 b 4)) b 5)) a 6 ((mW (mW z3 a 4 (z3 b 4)) a 5 ((mW z3 a 4 (z3 b 4)) b 5)) b 6)) b 7)) b 8)) b 9)) a 10 ((mW (mW (mW (mW (mW (mW z3 a 4 (z3 b 4)) a 5 ((mW z3 a 4 (z3 b 4)) b 5)) a 6 ((mW (mW z3 a 4 (z3 b 4)) a 5 ((mW z3 a 4 (z3 b 4)) b 5)) b 6)) a 7 ((mW (mW (mW z3 a 4 (z3 b 4)) a 5 ((mW z3 a 4 (z3 b 4)) b 5)) a 6 ((mW (mW z3 a 4 (z3 b 4)) a 5 ((mW z3 a 4 (z3 b 4)) b 5)) b 6)) b 7)) a 8 ((mW (mW (mW (mW z3 a 4 (z3 b 4)) a 5 ((mW z3 a 4 (z3 b 4)) b 5)) a 6 ((mW (mW z3 a 4 (z3 b 4)) a 5 ((mW z3 a 4 (z3 b 4)) b 5)) b 6)) a 7 ((mW (mW (mW z3 a 4 (z3 b 4)) a 5 ((mW z3 a 4 (z3 b 4)) b 5)) a 6 ((mW (mW z3 a 4 (z3 b 4)) a 5 ((mW z3 a 4 (z3 b 4)) b 5)) b 6)) b 7)) b 8)) a 9 ((mW (mW (mW (mW (mW z3 a 4 (z3 b 4)) a 5 ((mW z3 a 4 (z3 b 4)) b 5)) a 6 ((mW (mW z3 a 4 (z3 b 4)) a 5 ((mW z3 a 4 (z3 b 4)) b 5)) b 6)) a 7 ((mW (mW (mW z3 a 4 (z3 b 4)) a 5 ((mW z3 a 4 (z3 b 4)) b 5)) a 6 ((mW (mW z3 a 4 (z3 b 4)) a 5 ((mW z3 a 4 (z3 b 4)) b 5)) b 6)) b 7)) a 8 ((mW (mW (mW (mW z3 a 4 (z3 b 4)) a 5 ((mW z3 a 4 (z3 b 4)) b 5)) a 6 ((mW (mW z3 a 4 (z3 b 4)) a 5 ((mW z3 a 4 (z3 b 4)) b 5)) b 6)) a 7 ((mW (mW (mW z3 a 4 (z3 b 4)) a 5 ((mW z3 a 4 (z3 b 4)) b 5)) a 6 ((mW (mW z3 a 4 (z3 b 4)) a 5 ((mW z3 a 4 (z3 b 4)) b 5)) b 6)) b 7)) b 8)) b 9)) b 10)) a 11 ((mW (mW (mW (mW (mW (mW (mW z3 a 4 (z3 b 4)) a 5 ((mW z3 a 4 (z3 b 4)) b 5)) a 6 ((mW (mW z3 a 4 (z3 b 4)) a 5 ((mW z3 a 4 (z3 b 4)) b 5)) b 6)) a 7 ((mW (mW (mW z3 a 4 (z3 b 4)) a 5 ((mW z3 a 4 (z3 b 4)) b 5)) a 6 ((mW (mW z3 a 4 (z3 b 4)) a 5 ((mW z3 a 4 (z3 b 4)) b 5)) b 6)) b 7)) a 8 ((mW (mW (mW (mW z3 a 4 (z3 b 4)) a 5 ((mW z3 a 4 (z3 b 4)) b 5)) a 6 ((mW (mW z3 a 4 (z3 b 4)) a 5 ((mW z3 a 4 (z3 b 4)) b 5)) b 6)) a 7 ((mW (mW (mW z3 a 4 (z3 b 4)) a 5 ((mW z3 a 4 (z3 b 4)) b 5)) a 6 ((mW (mW z3 a 4 (z3 b 4)) a 5 ((mW z3 a 4 (z3 b 4)) b 5)) b 6)) b 7)) b 8)) a 9 ((mW (mW (mW (mW (mW z3 a 4 (z3 b 4)) a 5 ((mW z3 a 4 (z3 b 4)) b 5)) a 6 ((mW (mW z3 a 4 (z3 b 4)) a 5 ((mW z3 a 4 (z3 b 4)) b 5)) b 6)) a 7 ((mW (mW (mW z3 a 4 (z3 b 4)) a 5 ((mW z3 a 4 (z3 b 4)) b 5)) a 6 ((mW (mW z3 a 4 (z3 b 4)) a 5 ((mW z3 a 4 (z3 b 4)) b 5)) b 6)) b 7)) a 8 ((mW (mW (mW (mW z3 a 4 (z3 b 4)) a 5 ((mW z3 a 4 (z3 b 4)) b 5)) a 6 ((mW (mW z3 a 4 (z3 b 4)) a 5 ((mW z3 a 4 (z3 b 4)) b 5)) b 6)) a 7 ((mW (mW (mW z3 a 4 (z3 b 4)) a 5 ((mW z3 a 4 (z3 b 4)) b 5)) a 6 ((mW (mW z3 a 4 (z3 b 4)) a 5 ((mW z3 a 4 (z3 b 4)) b 5)) b 6)) b 7)) b 8)) b 9)) a 10 ((mW (mW (mW (mW (mW (mW z3 a 4 (z3 b 4)) a 5 ((mW z3 a 4 (z3 b 4)) b 5)) a 6 ((mW (mW z3 a 4 (z3 b 4)) a 5 ((mW z3 a 4 (z3 b 4)) b 5)) b 6)) a 7 ((mW (mW (mW z3 a 4 (z3 b 4)) a 5 ((mW z3 a 4 (z3 b 4)) b 5)) a 6 ((mW (mW z3 a 4 (z3 b 4)) a 5 ((mW z3 a 4 (z3 b 4)) b 5)) b 6)) b 7)) a 8 ((mW (mW (mW (mW z3 a 4 (z3 b 4)) a 5 ((mW z3 a 4 (z3 b 4)) b 5)) a 6 ((mW (mW z3 a 4 (z3 b 4)) a 5 ((mW z3 a 4 (z3 b 4)) b 5)) b 6)) a 7 ((mW (mW (mW z3 a 4 (z3 b 4)) a 5 ((mW z3 a 4 (z3 b 4)) b 5)) a 6 ((mW (mW z3 a 4 (z3 b 4)) a 5 ((mW z3 a 4 (z3 b 4)) b 5)) b 6)) b 7)) b 8)) a 9 ((mW (mW (mW (mW (mW z3 a 4 (z3 b 4)) a 5 ((mW z3 a 4 (z3 b 4)) b 5)) a 6 ((mW (mW z3 a 4 (z3 b 4)) a 5 ((mW z3 a 4 (z3 b 4)) b 5)) b 6)) a 7 ((mW (mW (mW z3 a 4 (z3 b 4)) a 5 ((mW z3 a 4 (z3 b 4)) b 5)) a 6 ((mW (mW z3 a 4 (z3 b 4)) a 5 ((mW z3 a 4 (z3 b 4)) b 5)) b 6)) b 7)) a 8 ((mW (mW (mW (mW z3 a 4 (z3 b 4)) a 5 ((mW z3 a 4 (z3 b 4)) b 5)) a 6 ((mW (mW z3 a 4 (z3 b 4)) a 5 ((mW z3 a 4 (z3 b 4)) b 5)) b 6)) a 7 ((mW (mW (mW z3 a 4 (z3 b 4)) a 5 ((mW z3 a 4 (z3 b 4)) b 5)) a 6 ((mW (mW z3 a 4 (z3 b 4)) a 5 ((mW z3 a 4 (z3 b 4)) b 5)) b 6)) b 7)) b 8)) b 9)) b 10)) b 11)) b 12) f7_copyFrom_126 hb.l0 hb.1.2.1 rfl rfl ?_
  refine mV_putI f7_copyFrom_129 ha.l0 ha.1.2.1 rfl rfl ?_
  have hr := Option.some.inj hr; subst hr
  exact mV_vret rfl f7_copyFrom_132 hQ
theorem c7_copyFrom (X : Nat × (Nat → Int32)) (I : mI) (s : Nat) (a : Nat) (b : Nat) (ha : mStg a) (hb : mStg b) {res : mI} (hr : r7_copyFrom I a b = some res) : mC X m7_copyFrom 1 0 0 [.ref a, .ref b] NN KK I (PP s) (mRet none NN KK res (PP s)) :=
  mC_of (L0 := [.ref a, .ref b]) rfl (Nat.le_of_ble_eq_true rfl) (w7_copyFrom X I s a b ha hb _ hr (mRet_ok _ _ _ _ _))
def r5_fallAsleep (I : mI) (s : Nat) : Option (mI × Nat) := (r7_copyFrom I 35 3).bind fun z0 => some ((mW z0 1 3 0), 35)
set_option maxHeartbeats 4000000 in
set_option maxRecDepth 100000 in
theorem w5_fallAsleep (X : Nat × (Nat → Int32)) (I : mI) (s : Nat) (Q : mQ) {res : mI × Nat} (hr : r5_fallAsleep I s = some res) (hQ : Q (some (.ref 35)) NN KK res.1 (PP res.2)) : mV X m5_fallAsleep 2 0 0 0 [.ref 1] [] NN KK I (PP s) Q := by
  unfold r5_fallAsleep at hr
  refine mV_aload f5_fallAsleep_0 rfl ?_
  refine mV_getP f5_fallAsleep_1 (by decide) kk_1 rfl (pp_1_1 _) ?_
  refine mV_aload f5_fallAsleep_4 rfl ?_
  refine mV_getP f5_fallAsleep_5 (by decide) kk_1 rfl (pp_1_0 _) ?_
  refine mV_getP f5_fallAsleep_8 (by decide) kk_2 rfl (pp_2_0 _) ?_
  obtain ⟨z0, hz0, hr⟩ := mBind hr
  refine mV_cV f5_fallAsleep_11 tg_m7_copyFrom mCls7 (by decide) kk_35 (mC_deep (c7_copyFrom X I s 35 3 mStg_35 mStg_3 hz0) (by decide)) rfl rfl (Nat.le_of_ble_eq_true rfl) ?_
  refine mV_aload f5_fallAsleep_14 rfl ?_
  refine mV_aload f5_fallAsleep_15 rfl ?_
  refine mV_getP f5_fallAsleep_16 (by decide) kk_1 rfl (pp_1_1 _) ?_
  refine mV_putP f5_fallAsleep_19 (by decide) kk_1 rfl ?_
  rw [PP_set]
  refine mV_aload f5_fallAsleep_22 rfl ?_
  refine mV_push f5_fallAsleep_23 ?_
  refine mV_putI f5_fallAsleep_24 (by decide) kk_1 rfl rfl ?_
  refine mV_aload f5_fallAsleep_27 rfl ?_
  refine mV_getP f5_fallAsleep_28 (by decide) kk_1 rfl (pp_1_1 _) ?_
  have hr := Option.some.inj hr; subst hr
  exact mV_aret rfl f5_fallAsleep_31 hQ
theorem c5_fallAsleep (X : Nat × (Nat → Int32)) (I : mI) (s : Nat) {res : mI × Nat} (hr : r5_fallAsleep I s = some res) : mC X m5_fallAsleep 2 0 0 [.ref 1] NN KK I (PP s) (mRet (some (.ref 35)) NN KK res.1 (PP res.2)) :=
  mC_of (L0 := [.ref 1]) rfl (Nat.le_of_ble_eq_true rfl) (w5_fallAsleep X I s _ hr (mRet_ok _ _ _ _ _))
def r6_cell_21 (I : mI) (x0 : Int32) (x1 : Int32) : Option (Int32) := (if (((x0 * 9) + x1) : Int32) < (0 : Int32) then some 0 else if (144 : Int32) ≤ (((x0 * 9) + x1) : Int32) then some 0 else (mLd I 22 144 ((x0 * 9) + x1)).bind fun z1 => some z1 : Option (Int32)).bind fun z0 => some z0
set_option maxHeartbeats 4000000 in
set_option maxRecDepth 100000 in
theorem w6_cell_21 (X : Nat × (Nat → Int32)) (I : mI) (s : Nat) (x0 : Int32) (x1 : Int32) (Q : mQ) {res : Int32} (hr : r6_cell_21 I x0 x1 = some res) (hQ : Q (some (.int res)) NN KK I (PP s)) : mV X m6_cell 0 0 0 0 [.ref 21, .int x0, .int x1, mX0] [] NN KK I (PP s) Q := by
  unfold r6_cell_21 at hr
  refine mV_iload f6_cell_0 rfl ?_
  refine mV_push f6_cell_1 ?_
  refine mV_imul f6_cell_3 ?_
  refine mV_iload f6_cell_4 rfl ?_
  refine mV_iadd f6_cell_5 ?_
  refine mV_istore (L' := [.ref 21, .int x0, .int x1, .int ((x0 * 9) + x1)]) f6_cell_6 (by decide) rfl rfl ?_
  refine mV_iload f6_cell_7 rfl ?_
  obtain ⟨z0, hz0, hr⟩ := mBind hr
  have keyz0 : mV X m6_cell 0 0 0 30 [.ref 21, mX0, mX0, mX0] [.int z0] NN KK I (PP s) Q := by
    have hr := Option.some.inj hr; subst hr
    exact mV_iret rfl rfl f6_cell_30 hQ
  clear hr
  have hr := hz0
  clear hz0
  refine mV_if_lt f6_cell_8 (fun h0 => ?_) (fun h0 => ?_)
  · rw [if_pos h0] at hr
    refine mV_push f6_cell_29 ?_
    have hr := Option.some.inj hr; subst hr
    refine mV_drop (L' := [.ref 21, mX0, mX0, mX0]) (mSub_k (mSub_x (mSub_x (mSub_x mSub_n)))) ?_
    exact keyz0
  · rw [if_neg h0] at hr
    refine mV_iload f6_cell_11 rfl ?_
    refine mV_aload f6_cell_12 rfl ?_
    refine mV_getP f6_cell_13 (by decide) kk_21 rfl (pp_21_0 _) ?_
    refine mV_alen f6_cell_16 (by decide) kk_22 ?_
    refine mV_as 144 (by decide) ?_
    refine mV_icmp_ge f6_cell_17 (fun h1 => ?_) (fun h1 => ?_)
    · rw [if_pos h1] at hr
      refine mV_push f6_cell_29 ?_
      have hr := Option.some.inj hr; subst hr
      refine mV_drop (L' := [.ref 21, mX0, mX0, mX0]) (mSub_k (mSub_x (mSub_x (mSub_x mSub_n)))) ?_
      exact keyz0
    · rw [if_neg h1] at hr
      refine mV_aload f6_cell_20 rfl ?_
      refine mV_getP f6_cell_21 (by decide) kk_21 rfl (pp_21_0 _) ?_
      refine mV_iload f6_cell_24 rfl ?_
      obtain ⟨z1, hz1, hr⟩ := mBind hr
      refine mV_ldO f6_cell_25 (by decide) kk_22 hz1 ?_
      refine mV_goto f6_cell_26 ?_
      have hr := Option.some.inj hr; subst hr
      refine mV_drop (L' := [.ref 21, mX0, mX0, mX0]) (mSub_k (mSub_x (mSub_x (mSub_x mSub_n)))) ?_
      exact keyz0
theorem c6_cell_21 (X : Nat × (Nat → Int32)) (I : mI) (s : Nat) (x0 : Int32) (x1 : Int32) {res : Int32} (hr : r6_cell_21 I x0 x1 = some res) : mC X m6_cell 0 0 0 [.ref 21, .int x0, .int x1] NN KK I (PP s) (mRet (some (.int res)) NN KK I (PP s)) :=
  mC_of (L0 := [.ref 21, .int x0, .int x1, mX0]) rfl (Nat.le_of_ble_eq_true rfl) (w6_cell_21 X I s x0 x1 _ hr (mRet_ok _ _ _ _ _))
def r8_note (I : mI) (x0 : Int32) (x1 : Int32) (x2 : Int32) : Option (mI) := (if ((I 3 12 * 4) : Int32) < (0 : Int32) then some I else if (600 : Int32) < (((I 3 12 * 4) + 4) : Int32) then some I else (mSto I 34 600 (I 3 12 * 4) (I 3 10)).bind fun z1 => (mSto z1 34 600 ((I 3 12 * 4) + 1) x0).bind fun z2 => (mSto z2 34 600 ((I 3 12 * 4) + 2) x1).bind fun z3 => (mSto z3 34 600 ((I 3 12 * 4) + 3) x2).bind fun z4 => some (mW z4 3 12 (z4 3 12 + 1)) : Option (mI)).bind fun z0 => some z0
set_option maxHeartbeats 4000000 in
set_option maxRecDepth 100000 in
theorem w8_note (X : Nat × (Nat → Int32)) (I : mI) (s : Nat) (x0 : Int32) (x1 : Int32) (x2 : Int32) (Q : mQ) {res : mI} (hr : r8_note I x0 x1 x2 = some res) (hQ : Q none NN KK res (PP s)) : mV X m8_note 0 0 0 0 [.ref 2, .int x0, .int x1, .int x2, mX0] [] NN KK I (PP s) Q := by
  unfold r8_note at hr
  refine mV_aload f8_note_0 rfl ?_
  refine mV_getP f8_note_1 (by decide) kk_2 rfl (pp_2_0 _) ?_
  refine mV_gI (I 3 12) f8_note_4 (by decide) kk_3 rfl rfl ?_
  refine mV_push f8_note_7 ?_
  refine mV_imul f8_note_8 ?_
  refine mV_istore (L' := [.ref 2, .int x0, .int x1, .int x2, .int (I 3 12 * 4)]) f8_note_9 (by decide) rfl rfl ?_
  refine mV_iload f8_note_11 rfl ?_
  obtain ⟨z0, hz0, hr⟩ := mBind hr
  have keyz0 : mV X m8_note 0 0 0 85 [.ref 2, mX0, mX0, mX0, mX0] [] NN KK z0 (PP s) Q := by
    have hr := Option.some.inj hr; subst hr
    exact mV_vret rfl f8_note_85 hQ
  clear hr
  have hr := hz0
  clear hz0
  refine mV_if_lt f8_note_13 (fun h0 => ?_) (fun h0 => ?_)
  · rw [if_pos h0] at hr
    have hr := Option.some.inj hr; subst hr
    refine mV_drop (L' := [.ref 2, mX0, mX0, mX0, mX0]) (mSub_k (mSub_x (mSub_x (mSub_x (mSub_x mSub_n))))) ?_
    exact keyz0
  · rw [if_neg h0] at hr
    refine mV_iload f8_note_16 rfl ?_
    refine mV_push f8_note_18 ?_
    refine mV_iadd f8_note_19 ?_
    refine mV_aload f8_note_20 rfl ?_
    refine mV_getP f8_note_21 (by decide) kk_2 rfl (pp_2_7 _) ?_
    refine mV_alen f8_note_24 (by decide) kk_34 ?_
    refine mV_as 600 (by decide) ?_
    refine mV_icmp_gt f8_note_25 (fun h1 => ?_) (fun h1 => ?_)
    · rw [if_pos h1] at hr
      have hr := Option.some.inj hr; subst hr
      refine mV_drop (L' := [.ref 2, mX0, mX0, mX0, mX0]) (mSub_k (mSub_x (mSub_x (mSub_x (mSub_x mSub_n))))) ?_
      exact keyz0
    · rw [if_neg h1] at hr
      refine mV_aload f8_note_28 rfl ?_
      refine mV_getP f8_note_29 (by decide) kk_2 rfl (pp_2_7 _) ?_
      refine mV_iload f8_note_32 rfl ?_
      refine mV_aload f8_note_34 rfl ?_
      refine mV_getP f8_note_35 (by decide) kk_2 rfl (pp_2_0 _) ?_
      refine mV_gI (I 3 10) f8_note_38 (by decide) kk_3 rfl rfl ?_
      obtain ⟨z1, hz1, hr⟩ := mBind hr
      refine mV_stO f8_note_41 (by decide) kk_34 hz1 ?_
      refine mV_aload f8_note_42 rfl ?_
      refine mV_getP f8_note_43 (by decide) kk_2 rfl (pp_2_7 _) ?_
      refine mV_iload f8_note_46 rfl ?_
      refine mV_push f8_note_48 ?_
      refine mV_iadd f8_note_49 ?_
      refine mV_iload f8_note_50 rfl ?_
      obtain ⟨z2, hz2, hr⟩ := mBind hr
      refine mV_stO f8_note_51 (by decide) kk_34 hz2 ?_
      refine mV_aload f8_note_52 rfl ?_
      refine mV_getP f8_note_53 (by decide) kk_2 rfl (pp_2_7 _) ?_
      refine mV_iload f8_note_56 rfl ?_
      refine mV_push f8_note_58 ?_
      refine mV_iadd f8_note_59 ?_
      refine mV_iload f8_note_60 rfl ?_
      obtain ⟨z3, hz3, hr⟩ := mBind hr
      refine mV_stO f8_note_61 (by decide) kk_34 hz3 ?_
      refine mV_aload f8_note_62 rfl ?_
      refine mV_getP f8_note_63 (by decide) kk_2 rfl (pp_2_7 _) ?_
      refine mV_iload f8_note_66 rfl ?_
      refine mV_push f8_note_68 ?_
      refine mV_iadd f8_note_69 ?_
      refine mV_iload f8_note_70 rfl ?_
      obtain ⟨z4, hz4, hr⟩ := mBind hr
      refine mV_stO f8_note_71 (by decide) kk_34 hz4 ?_
      refine mV_aload f8_note_72 rfl ?_
      refine mV_getP f8_note_73 (by decide) kk_2 rfl (pp_2_0 _) ?_
      refine mV_dup f8_note_76 rfl ?_
      refine mV_gI (z4 3 12) f8_note_77 (by decide) kk_3 rfl rfl ?_
      refine mV_push f8_note_80 ?_
      refine mV_iadd f8_note_81 ?_
      refine mV_putI f8_note_82 (by decide) kk_3 rfl rfl ?_
      have hr := Option.some.inj hr; subst hr
      refine mV_drop (L' := [.ref 2, mX0, mX0, mX0, mX0]) (mSub_k (mSub_x (mSub_x (mSub_x (mSub_x mSub_n))))) ?_
      exact keyz0
theorem c8_note (X : Nat × (Nat → Int32)) (I : mI) (s : Nat) (x0 : Int32) (x1 : Int32) (x2 : Int32) {res : mI} (hr : r8_note I x0 x1 x2 = some res) : mC X m8_note 0 0 0 [.ref 2, .int x0, .int x1, .int x2] NN KK I (PP s) (mRet none NN KK res (PP s)) :=
  mC_of (L0 := [.ref 2, .int x0, .int x1, .int x2, mX0]) rfl (Nat.le_of_ble_eq_true rfl) (w8_note X I s x0 x1 x2 _ hr (mRet_ok _ _ _ _ _))
def r5_note (I : mI) (x0 : Int32) (x1 : Int32) (x2 : Int32) : Option (mI) := (if (I 1 3 : Int32) = (0 : Int32) then some I else (r8_note I x0 x1 x2).bind fun z1 => some z1 : Option (mI)).bind fun z0 => some z0
set_option maxHeartbeats 4000000 in
set_option maxRecDepth 100000 in
theorem w5_note (X : Nat × (Nat → Int32)) (I : mI) (s : Nat) (x0 : Int32) (x1 : Int32) (x2 : Int32) (Q : mQ) {res : mI} (hr : r5_note I x0 x1 x2 = some res) (hQ : Q none NN KK res (PP s)) : mV X m5_note 1 0 0 0 [.ref 1, .int x0, .int x1, .int x2] [] NN KK I (PP s) Q := by
  unfold r5_note at hr
  refine mV_aload f5_note_0 rfl ?_
  refine mV_gI (I 1 3) f5_note_1 (by decide) kk_1 rfl rfl ?_
  obtain ⟨z0, hz0, hr⟩ := mBind hr
  have keyz0 : mV X m5_note 1 0 0 17 [.ref 1, mX0, mX0, mX0] [] NN KK z0 (PP s) Q := by
    have hr := Option.some.inj hr; subst hr
    exact mV_vret rfl f5_note_17 hQ
  clear hr
  have hr := hz0
  clear hz0
  refine mV_if_eq f5_note_4 (fun h0 => ?_) (fun h0 => ?_)
  · rw [if_pos h0] at hr
    have hr := Option.some.inj hr; subst hr
    refine mV_drop (L' := [.ref 1, mX0, mX0, mX0]) (mSub_k (mSub_x (mSub_x (mSub_x mSub_n)))) ?_
    exact keyz0
  · rw [if_neg h0] at hr
    refine mV_aload f5_note_7 rfl ?_
    refine mV_getP f5_note_8 (by decide) kk_1 rfl (pp_1_0 _) ?_
    refine mV_iload f5_note_11 rfl ?_
    refine mV_iload f5_note_12 rfl ?_
    refine mV_iload f5_note_13 rfl ?_
    obtain ⟨z1, hz1, hr⟩ := mBind hr
    refine mV_cV f5_note_14 tg_m8_note mCls8 (by decide) kk_2 (mC_deep (c8_note X I s x0 x1 x2 hz1) (by decide)) rfl rfl (Nat.le_of_ble_eq_true rfl) ?_
    have hr := Option.some.inj hr; subst hr
    refine mV_drop (L' := [.ref 1, mX0, mX0, mX0]) (mSub_k (mSub_x (mSub_x (mSub_x mSub_n)))) ?_
    exact keyz0
theorem c5_note (X : Nat × (Nat → Int32)) (I : mI) (s : Nat) (x0 : Int32) (x1 : Int32) (x2 : Int32) {res : mI} (hr : r5_note I x0 x1 x2 = some res) : mC X m5_note 1 0 0 [.ref 1, .int x0, .int x1, .int x2] NN KK I (PP s) (mRet none NN KK res (PP s)) :=
  mC_of (L0 := [.ref 1, .int x0, .int x1, .int x2]) rfl (Nat.le_of_ble_eq_true rfl) (w5_note X I s x0 x1 x2 _ hr (mRet_ok _ _ _ _ _))
def r5_bringChild (I : mI) (s : Nat) (x0 : Int32) : Option (mI) := (r5_note (mW I s 4 (I s 4 - (mMin x0 (I s 4)))) 4 (-1) (mMin x0 (I s 4))).bind fun z0 => some z0
set_option maxHeartbeats 4000000 in
set_option maxRecDepth 100000 in
theorem w5_bringChild (X : Nat × (Nat → Int32)) (I : mI) (s : Nat) (hs : mStg s) (x0 : Int32) (Q : mQ) {res : mI} (hr : r5_bringChild I s x0 = some res) (hQ : Q none NN KK res (PP s)) : mV X m5_bringChild 2 0 0 0 [.ref 1, .int x0, mX0] [] NN KK I (PP s) Q := by
  unfold r5_bringChild at hr
  refine mV_iload f5_bringChild_0 rfl ?_
  refine mV_aload f5_bringChild_1 rfl ?_
  refine mV_getP f5_bringChild_2 (by decide) kk_1 rfl (pp_1_2 _) ?_
  refine mV_gI (I s 4) f5_bringChild_5 hs.l0 hs.1.2.1 rfl rfl ?_
  refine mV_minC fm5_bringChild_8 (Nat.le_of_ble_eq_true rfl) ?_
  refine mV_istore (L' := [.ref 1, .int x0, .int (mMin x0 (I s 4))]) f5_bringChild_11 (by decide) rfl rfl ?_
  refine mV_aload f5_bringChild_12 rfl ?_
  refine mV_getP f5_bringChild_13 (by decide) kk_1 rfl (pp_1_2 _) ?_
  refine mV_dup f5_bringChild_16 rfl ?_
  refine mV_gI (I s 4) f5_bringChild_17 hs.l0 hs.1.2.1 rfl rfl ?_
  refine mV_iload f5_bringChild_20 rfl ?_
  refine mV_isub f5_bringChild_21 ?_
  refine mV_putI f5_bringChild_22 hs.l0 hs.1.2.1 rfl rfl ?_
  refine mV_aload f5_bringChild_25 rfl ?_
  refine mV_push f5_bringChild_26 ?_
  refine mV_push f5_bringChild_27 ?_
  refine mV_iload f5_bringChild_28 rfl ?_
  obtain ⟨z0, hz0, hr⟩ := mBind hr
  refine mV_cV f5_bringChild_29 tg_m5_note mCls5 (by decide) kk_1 (mC_deep (c5_note X (mW I s 4 (I s 4 - (mMin x0 (I s 4)))) s 4 (-1) (mMin x0 (I s 4)) hz0) (by decide)) rfl rfl (Nat.le_of_ble_eq_true rfl) ?_
  have hr := Option.some.inj hr; subst hr
  exact mV_vret rfl f5_bringChild_32 hQ
theorem c5_bringChild (X : Nat × (Nat → Int32)) (I : mI) (s : Nat) (hs : mStg s) (x0 : Int32) {res : mI} (hr : r5_bringChild I s x0 = some res) : mC X m5_bringChild 2 0 0 [.ref 1, .int x0] NN KK I (PP s) (mRet none NN KK res (PP s)) :=
  mC_of (L0 := [.ref 1, .int x0, mX0]) rfl (Nat.le_of_ble_eq_true rfl) (w5_bringChild X I s hs x0 _ hr (mRet_ok _ _ _ _ _))
def r5_emptyDrawer (I : mI) (s : Nat) : Option (mI) := (r5_note I 3 (-1) (I s 5)).bind fun z0 => some (mW z0 s 5 0)
set_option maxHeartbeats 4000000 in
set_option maxRecDepth 100000 in
theorem w5_emptyDrawer (X : Nat × (Nat → Int32)) (I : mI) (s : Nat) (hs : mStg s) (Q : mQ) {res : mI} (hr : r5_emptyDrawer I s = some res) (hQ : Q none NN KK res (PP s)) : mV X m5_emptyDrawer 2 0 0 0 [.ref 1] [] NN KK I (PP s) Q := by
  unfold r5_emptyDrawer at hr
  refine mV_aload f5_emptyDrawer_0 rfl ?_
  refine mV_push f5_emptyDrawer_1 ?_
  refine mV_push f5_emptyDrawer_2 ?_
  refine mV_aload f5_emptyDrawer_3 rfl ?_
  refine mV_getP f5_emptyDrawer_4 (by decide) kk_1 rfl (pp_1_2 _) ?_
  refine mV_gI (I s 5) f5_emptyDrawer_7 hs.l0 hs.1.2.1 rfl rfl ?_
  obtain ⟨z0, hz0, hr⟩ := mBind hr
  refine mV_cV f5_emptyDrawer_10 tg_m5_note mCls5 (by decide) kk_1 (mC_deep (c5_note X I s 3 (-1) (I s 5) hz0) (by decide)) rfl rfl (Nat.le_of_ble_eq_true rfl) ?_
  refine mV_aload f5_emptyDrawer_13 rfl ?_
  refine mV_getP f5_emptyDrawer_14 (by decide) kk_1 rfl (pp_1_2 _) ?_
  refine mV_push f5_emptyDrawer_17 ?_
  refine mV_putI f5_emptyDrawer_18 hs.l0 hs.1.2.1 rfl rfl ?_
  have hr := Option.some.inj hr; subst hr
  exact mV_vret rfl f5_emptyDrawer_21 hQ
theorem c5_emptyDrawer (X : Nat × (Nat → Int32)) (I : mI) (s : Nat) (hs : mStg s) {res : mI} (hr : r5_emptyDrawer I s = some res) : mC X m5_emptyDrawer 2 0 0 [.ref 1] NN KK I (PP s) (mRet none NN KK res (PP s)) :=
  mC_of (L0 := [.ref 1]) rfl (Nat.le_of_ble_eq_true rfl) (w5_emptyDrawer X I s hs _ hr (mRet_ok _ _ _ _ _))
def r5_tuneString (I : mI) (s : Nat) (x0 : Int32) : Option (mI) := (if (x0 : Int32) < (0 : Int32) then some I else if (8 : Int32) ≤ (x0 : Int32) then some I else (mLd I (s + 4) 8 x0).bind fun z1 => (r5_note I 2 x0 z1).bind fun z2 => (mSto z2 (s + 4) 8 x0 0).bind fun z3 => some z3 : Option (mI)).bind fun z0 => some z0
set_option maxHeartbeats 4000000 in
set_option maxRecDepth 100000 in
theorem w5_tuneString (X : Nat × (Nat → Int32)) (I : mI) (s : Nat) (hs : mStg s) (x0 : Int32) (Q : mQ) {res : mI} (hr : r5_tuneString I s x0 = some res) (hQ : Q none NN KK res (PP s)) : mV X m5_tuneString 2 0 0 0 [.ref 1, .int x0] [] NN KK I (PP s) Q := by
  unfold r5_tuneString at hr
  refine mV_iload f5_tuneString_0 rfl ?_
  obtain ⟨z0, hz0, hr⟩ := mBind hr
  have keyz0 : mV X m5_tuneString 2 0 0 35 [.ref 1, mX0] [] NN KK z0 (PP s) Q := by
    have hr := Option.some.inj hr; subst hr
    exact mV_vret rfl f5_tuneString_35 hQ
  clear hr
  have hr := hz0
  clear hz0
  refine mV_if_lt f5_tuneString_1 (fun h0 => ?_) (fun h0 => ?_)
  · rw [if_pos h0] at hr
    have hr := Option.some.inj hr; subst hr
    refine mV_drop (L' := [.ref 1, mX0]) (mSub_k (mSub_x mSub_n)) ?_
    exact keyz0
  · rw [if_neg h0] at hr
    refine mV_iload f5_tuneString_4 rfl ?_
    refine mV_push f5_tuneString_5 ?_
    refine mV_icmp_ge f5_tuneString_7 (fun h1 => ?_) (fun h1 => ?_)
    · rw [if_pos h1] at hr
      have hr := Option.some.inj hr; subst hr
      refine mV_drop (L' := [.ref 1, mX0]) (mSub_k (mSub_x mSub_n)) ?_
      exact keyz0
    · rw [if_neg h1] at hr
      refine mV_aload f5_tuneString_10 rfl ?_
      refine mV_push f5_tuneString_11 ?_
      refine mV_iload f5_tuneString_12 rfl ?_
      refine mV_aload f5_tuneString_13 rfl ?_
      refine mV_getP f5_tuneString_14 (by decide) kk_1 rfl (pp_1_2 _) ?_
      refine mV_getP f5_tuneString_17 hs.l0 hs.1.2.1 rfl (hs.p3 _) ?_
      refine mV_iload f5_tuneString_20 rfl ?_
      obtain ⟨z1, hz1, hr⟩ := mBind hr
      refine mV_ldO f5_tuneString_21 (hs.l (by decide)) hs.1.2.2.2.2.2 hz1 ?_
      obtain ⟨z2, hz2, hr⟩ := mBind hr
      refine mV_cV f5_tuneString_22 tg_m5_note mCls5 (by decide) kk_1 (mC_deep (c5_note X I s 2 x0 z1 hz2) (by decide)) rfl rfl (Nat.le_of_ble_eq_true rfl) ?_
      refine mV_aload f5_tuneString_25 rfl ?_
      refine mV_getP f5_tuneString_26 (by decide) kk_1 rfl (pp_1_2 _) ?_
      refine mV_getP f5_tuneString_29 hs.l0 hs.1.2.1 rfl (hs.p3 _) ?_
      refine mV_iload f5_tuneString_32 rfl ?_
      refine mV_push f5_tuneString_33 ?_
      obtain ⟨z3, hz3, hr⟩ := mBind hr
      refine mV_stO f5_tuneString_34 (hs.l (by decide)) hs.1.2.2.2.2.2 hz3 ?_
      have hr := Option.some.inj hr; subst hr
      refine mV_drop (L' := [.ref 1, mX0]) (mSub_k (mSub_x mSub_n)) ?_
      exact keyz0
theorem c5_tuneString (X : Nat × (Nat → Int32)) (I : mI) (s : Nat) (hs : mStg s) (x0 : Int32) {res : mI} (hr : r5_tuneString I s x0 = some res) : mC X m5_tuneString 2 0 0 [.ref 1, .int x0] NN KK I (PP s) (mRet none NN KK res (PP s)) :=
  mC_of (L0 := [.ref 1, .int x0]) rfl (Nat.le_of_ble_eq_true rfl) (w5_tuneString X I s hs x0 _ hr (mRet_ok _ _ _ _ _))
def r5_takeCare (I : mI) (s : Nat) (x0 : Int32) (x1 : Int32) : Option (mI) := (if (x0 : Int32) = 15 then some (mW I s 7 x1) else if (x0 : Int32) = 16 then some I else if (x0 : Int32) = 17 then some I else if (x0 : Int32) = 18 then some I else if (x0 : Int32) = 19 then some I else if (x0 : Int32) = 20 then some I else if (x0 : Int32) = 21 then some I else if (x0 : Int32) = 22 then (r5_tuneString I s x1).bind fun z1 => some z1 else if (x0 : Int32) = 23 then (r5_emptyDrawer I s).bind fun z2 => some z2 else if (x0 : Int32) = 24 then (r5_bringChild I s x1).bind fun z3 => some z3 else if (x0 : Int32) = 25 then some (mW I s 6 x1) else some I : Option (mI)).bind fun z0 => some z0
set_option maxHeartbeats 4000000 in
set_option maxRecDepth 100000 in
theorem w5_takeCare (X : Nat × (Nat → Int32)) (I : mI) (s : Nat) (hs : mStg s) (x0 : Int32) (x1 : Int32) (Q : mQ) {res : mI} (hr : r5_takeCare I s x0 x1 = some res) (hQ : Q none NN KK res (PP s)) : mV X m5_takeCare 3 0 0 0 [.ref 1, .int x0, .int x1] [] NN KK I (PP s) Q := by
  unfold r5_takeCare at hr
  refine mV_iload f5_takeCare_0 rfl ?_
  obtain ⟨z0, hz0, hr⟩ := mBind hr
  have keyz0 : mV X m5_takeCare 3 0 0 105 [.ref 1, mX0, mX0] [] NN KK z0 (PP s) Q := by
    have hr := Option.some.inj hr; subst hr
    exact mV_vret rfl f5_takeCare_105 hQ
  clear hr
  have hr := hz0
  clear hz0
  by_cases h0 : x0 = 15
  · rw [if_pos h0] at hr
    refine mV_tabEq (v := 15) f5_takeCare_1 h0 (by decide) (by decide) (by decide) (by decide : (1 : Int) + 82 = (83 : Nat)) ?_
    refine mV_aload f5_takeCare_83 rfl ?_
    refine mV_getP f5_takeCare_84 (by decide) kk_1 rfl (pp_1_2 _) ?_
    refine mV_iload f5_takeCare_87 rfl ?_
    refine mV_putI f5_takeCare_88 hs.l0 hs.1.2.1 rfl rfl ?_
    refine mV_goto f5_takeCare_91 ?_
    have hr := Option.some.inj hr; subst hr
    refine mV_drop (L' := [.ref 1, mX0, mX0]) (mSub_k (mSub_x (mSub_x mSub_n))) ?_
    exact keyz0
  rw [if_neg h0] at hr
  by_cases h1 : x0 = 16
  · rw [if_pos h1] at hr
    refine mV_tabEq (v := 16) f5_takeCare_1 h1 (by decide) (by decide) (by decide) (by decide : (1 : Int) + 104 = (105 : Nat)) ?_
    have hr := Option.some.inj hr; subst hr
    refine mV_drop (L' := [.ref 1, mX0, mX0]) (mSub_k (mSub_x (mSub_x mSub_n))) ?_
    exact keyz0
  rw [if_neg h1] at hr
  by_cases h2 : x0 = 17
  · rw [if_pos h2] at hr
    refine mV_tabEq (v := 17) f5_takeCare_1 h2 (by decide) (by decide) (by decide) (by decide : (1 : Int) + 104 = (105 : Nat)) ?_
    have hr := Option.some.inj hr; subst hr
    refine mV_drop (L' := [.ref 1, mX0, mX0]) (mSub_k (mSub_x (mSub_x mSub_n))) ?_
    exact keyz0
  rw [if_neg h2] at hr
  by_cases h3 : x0 = 18
  · rw [if_pos h3] at hr
    refine mV_tabEq (v := 18) f5_takeCare_1 h3 (by decide) (by decide) (by decide) (by decide : (1 : Int) + 104 = (105 : Nat)) ?_
    have hr := Option.some.inj hr; subst hr
    refine mV_drop (L' := [.ref 1, mX0, mX0]) (mSub_k (mSub_x (mSub_x mSub_n))) ?_
    exact keyz0
  rw [if_neg h3] at hr
  by_cases h4 : x0 = 19
  · rw [if_pos h4] at hr
    refine mV_tabEq (v := 19) f5_takeCare_1 h4 (by decide) (by decide) (by decide) (by decide : (1 : Int) + 104 = (105 : Nat)) ?_
    have hr := Option.some.inj hr; subst hr
    refine mV_drop (L' := [.ref 1, mX0, mX0]) (mSub_k (mSub_x (mSub_x mSub_n))) ?_
    exact keyz0
  rw [if_neg h4] at hr
  by_cases h5 : x0 = 20
  · rw [if_pos h5] at hr
    refine mV_tabEq (v := 20) f5_takeCare_1 h5 (by decide) (by decide) (by decide) (by decide : (1 : Int) + 104 = (105 : Nat)) ?_
    have hr := Option.some.inj hr; subst hr
    refine mV_drop (L' := [.ref 1, mX0, mX0]) (mSub_k (mSub_x (mSub_x mSub_n))) ?_
    exact keyz0
  rw [if_neg h5] at hr
  by_cases h6 : x0 = 21
  · rw [if_pos h6] at hr
    refine mV_tabEq (v := 21) f5_takeCare_1 h6 (by decide) (by decide) (by decide) (by decide : (1 : Int) + 104 = (105 : Nat)) ?_
    have hr := Option.some.inj hr; subst hr
    refine mV_drop (L' := [.ref 1, mX0, mX0]) (mSub_k (mSub_x (mSub_x mSub_n))) ?_
    exact keyz0
  rw [if_neg h6] at hr
  by_cases h7 : x0 = 22
  · rw [if_pos h7] at hr
    refine mV_tabEq (v := 22) f5_takeCare_1 h7 (by decide) (by decide) (by decide) (by decide : (1 : Int) + 59 = (60 : Nat)) ?_
    refine mV_aload f5_takeCare_60 rfl ?_
    refine mV_iload f5_takeCare_61 rfl ?_
    obtain ⟨z1, hz1, hr⟩ := mBind hr
    refine mV_cV f5_takeCare_62 tg_m5_tuneString mCls5 (by decide) kk_1 (mC_deep (c5_tuneString X I s hs x1 hz1) (by decide)) rfl rfl (Nat.le_of_ble_eq_true rfl) ?_
    refine mV_goto f5_takeCare_65 ?_
    have hr := Option.some.inj hr; subst hr
    refine mV_drop (L' := [.ref 1, mX0, mX0]) (mSub_k (mSub_x (mSub_x mSub_n))) ?_
    exact keyz0
  rw [if_neg h7] at hr
  by_cases h8 : x0 = 23
  · rw [if_pos h8] at hr
    refine mV_tabEq (v := 23) f5_takeCare_1 h8 (by decide) (by decide) (by decide) (by decide : (1 : Int) + 67 = (68 : Nat)) ?_
    refine mV_aload f5_takeCare_68 rfl ?_
    obtain ⟨z2, hz2, hr⟩ := mBind hr
    refine mV_cV f5_takeCare_69 tg_m5_emptyDrawer mCls5 (by decide) kk_1 (mC_deep (c5_emptyDrawer X I s hs hz2) (by decide)) rfl rfl (Nat.le_of_ble_eq_true rfl) ?_
    refine mV_goto f5_takeCare_72 ?_
    have hr := Option.some.inj hr; subst hr
    refine mV_drop (L' := [.ref 1, mX0, mX0]) (mSub_k (mSub_x (mSub_x mSub_n))) ?_
    exact keyz0
  rw [if_neg h8] at hr
  by_cases h9 : x0 = 24
  · rw [if_pos h9] at hr
    refine mV_tabEq (v := 24) f5_takeCare_1 h9 (by decide) (by decide) (by decide) (by decide : (1 : Int) + 74 = (75 : Nat)) ?_
    refine mV_aload f5_takeCare_75 rfl ?_
    refine mV_iload f5_takeCare_76 rfl ?_
    obtain ⟨z3, hz3, hr⟩ := mBind hr
    refine mV_cV f5_takeCare_77 tg_m5_bringChild mCls5 (by decide) kk_1 (mC_deep (c5_bringChild X I s hs x1 hz3) (by decide)) rfl rfl (Nat.le_of_ble_eq_true rfl) ?_
    refine mV_goto f5_takeCare_80 ?_
    have hr := Option.some.inj hr; subst hr
    refine mV_drop (L' := [.ref 1, mX0, mX0]) (mSub_k (mSub_x (mSub_x mSub_n))) ?_
    exact keyz0
  rw [if_neg h9] at hr
  by_cases h10 : x0 = 25
  · rw [if_pos h10] at hr
    refine mV_tabEq (v := 25) f5_takeCare_1 h10 (by decide) (by decide) (by decide) (by decide : (1 : Int) + 93 = (94 : Nat)) ?_
    refine mV_aload f5_takeCare_94 rfl ?_
    refine mV_getP f5_takeCare_95 (by decide) kk_1 rfl (pp_1_2 _) ?_
    refine mV_iload f5_takeCare_98 rfl ?_
    refine mV_putI f5_takeCare_99 hs.l0 hs.1.2.1 rfl rfl ?_
    refine mV_goto f5_takeCare_102 ?_
    have hr := Option.some.inj hr; subst hr
    refine mV_drop (L' := [.ref 1, mX0, mX0]) (mSub_k (mSub_x (mSub_x mSub_n))) ?_
    exact keyz0
  rw [if_neg h10] at hr
  refine mV_tabNo f5_takeCare_1 [15, 16, 17, 18, 19, 20, 21, 22, 23, 24, 25] (by decide) (List.forall_mem_cons.mpr ⟨h0, (List.forall_mem_cons.mpr ⟨h1, (List.forall_mem_cons.mpr ⟨h2, (List.forall_mem_cons.mpr ⟨h3, (List.forall_mem_cons.mpr ⟨h4, (List.forall_mem_cons.mpr ⟨h5, (List.forall_mem_cons.mpr ⟨h6, (List.forall_mem_cons.mpr ⟨h7, (List.forall_mem_cons.mpr ⟨h8, (List.forall_mem_cons.mpr ⟨h9, (List.forall_mem_cons.mpr ⟨h10, (fun _ hc => absurd hc List.not_mem_nil)⟩)⟩)⟩)⟩)⟩)⟩)⟩)⟩)⟩)⟩)⟩) (by decide : (1 : Int) + 104 = (105 : Nat)) ?_
  have hr := Option.some.inj hr; subst hr
  refine mV_drop (L' := [.ref 1, mX0, mX0]) (mSub_k (mSub_x (mSub_x mSub_n))) ?_
  exact keyz0
theorem c5_takeCare (X : Nat × (Nat → Int32)) (I : mI) (s : Nat) (hs : mStg s) (x0 : Int32) (x1 : Int32) {res : mI} (hr : r5_takeCare I s x0 x1 = some res) : mC X m5_takeCare 3 0 0 [.ref 1, .int x0, .int x1] NN KK I (PP s) (mRet none NN KK res (PP s)) :=
  mC_of (L0 := [.ref 1, .int x0, .int x1]) rfl (Nat.le_of_ble_eq_true rfl) (w5_takeCare X I s hs x0 x1 _ hr (mRet_ok _ _ _ _ _))
def r6_cell_18 (I : mI) (x0 : Int32) (x1 : Int32) : Option (Int32) := (if (((x0 * 9) + x1) : Int32) < (0 : Int32) then some 0 else if (144 : Int32) ≤ (((x0 * 9) + x1) : Int32) then some 0 else (mLd I 19 144 ((x0 * 9) + x1)).bind fun z1 => some z1 : Option (Int32)).bind fun z0 => some z0
set_option maxHeartbeats 4000000 in
set_option maxRecDepth 100000 in
theorem w6_cell_18 (X : Nat × (Nat → Int32)) (I : mI) (s : Nat) (x0 : Int32) (x1 : Int32) (Q : mQ) {res : Int32} (hr : r6_cell_18 I x0 x1 = some res) (hQ : Q (some (.int res)) NN KK I (PP s)) : mV X m6_cell 0 0 0 0 [.ref 18, .int x0, .int x1, mX0] [] NN KK I (PP s) Q := by
  unfold r6_cell_18 at hr
  refine mV_iload f6_cell_0 rfl ?_
  refine mV_push f6_cell_1 ?_
  refine mV_imul f6_cell_3 ?_
  refine mV_iload f6_cell_4 rfl ?_
  refine mV_iadd f6_cell_5 ?_
  refine mV_istore (L' := [.ref 18, .int x0, .int x1, .int ((x0 * 9) + x1)]) f6_cell_6 (by decide) rfl rfl ?_
  refine mV_iload f6_cell_7 rfl ?_
  obtain ⟨z0, hz0, hr⟩ := mBind hr
  have keyz0 : mV X m6_cell 0 0 0 30 [.ref 18, mX0, mX0, mX0] [.int z0] NN KK I (PP s) Q := by
    have hr := Option.some.inj hr; subst hr
    exact mV_iret rfl rfl f6_cell_30 hQ
  clear hr
  have hr := hz0
  clear hz0
  refine mV_if_lt f6_cell_8 (fun h0 => ?_) (fun h0 => ?_)
  · rw [if_pos h0] at hr
    refine mV_push f6_cell_29 ?_
    have hr := Option.some.inj hr; subst hr
    refine mV_drop (L' := [.ref 18, mX0, mX0, mX0]) (mSub_k (mSub_x (mSub_x (mSub_x mSub_n)))) ?_
    exact keyz0
  · rw [if_neg h0] at hr
    refine mV_iload f6_cell_11 rfl ?_
    refine mV_aload f6_cell_12 rfl ?_
    refine mV_getP f6_cell_13 (by decide) kk_18 rfl (pp_18_0 _) ?_
    refine mV_alen f6_cell_16 (by decide) kk_19 ?_
    refine mV_as 144 (by decide) ?_
    refine mV_icmp_ge f6_cell_17 (fun h1 => ?_) (fun h1 => ?_)
    · rw [if_pos h1] at hr
      refine mV_push f6_cell_29 ?_
      have hr := Option.some.inj hr; subst hr
      refine mV_drop (L' := [.ref 18, mX0, mX0, mX0]) (mSub_k (mSub_x (mSub_x (mSub_x mSub_n)))) ?_
      exact keyz0
    · rw [if_neg h1] at hr
      refine mV_aload f6_cell_20 rfl ?_
      refine mV_getP f6_cell_21 (by decide) kk_18 rfl (pp_18_0 _) ?_
      refine mV_iload f6_cell_24 rfl ?_
      obtain ⟨z1, hz1, hr⟩ := mBind hr
      refine mV_ldO f6_cell_25 (by decide) kk_19 hz1 ?_
      refine mV_goto f6_cell_26 ?_
      have hr := Option.some.inj hr; subst hr
      refine mV_drop (L' := [.ref 18, mX0, mX0, mX0]) (mSub_k (mSub_x (mSub_x (mSub_x mSub_n)))) ?_
      exact keyz0
theorem c6_cell_18 (X : Nat × (Nat → Int32)) (I : mI) (s : Nat) (x0 : Int32) (x1 : Int32) {res : Int32} (hr : r6_cell_18 I x0 x1 = some res) : mC X m6_cell 0 0 0 [.ref 18, .int x0, .int x1] NN KK I (PP s) (mRet (some (.int res)) NN KK I (PP s)) :=
  mC_of (L0 := [.ref 18, .int x0, .int x1, mX0]) rfl (Nat.le_of_ble_eq_true rfl) (w6_cell_18 X I s x0 x1 _ hr (mRet_ok _ _ _ _ _))
def rJ6_bitCount (x0 : Int32) : Int32 := ((((((((x0 - ((mUsh x0 1) &&& 1431655765)) &&& 858993459) + ((mUsh (x0 - ((mUsh x0 1) &&& 1431655765)) 2) &&& 858993459)) + (mUsh (((x0 - ((mUsh x0 1) &&& 1431655765)) &&& 858993459) + ((mUsh (x0 - ((mUsh x0 1) &&& 1431655765)) 2) &&& 858993459)) 4)) &&& 252645135) + (mUsh (((((x0 - ((mUsh x0 1) &&& 1431655765)) &&& 858993459) + ((mUsh (x0 - ((mUsh x0 1) &&& 1431655765)) 2) &&& 858993459)) + (mUsh (((x0 - ((mUsh x0 1) &&& 1431655765)) &&& 858993459) + ((mUsh (x0 - ((mUsh x0 1) &&& 1431655765)) 2) &&& 858993459)) 4)) &&& 252645135) 8)) + (mUsh ((((((x0 - ((mUsh x0 1) &&& 1431655765)) &&& 858993459) + ((mUsh (x0 - ((mUsh x0 1) &&& 1431655765)) 2) &&& 858993459)) + (mUsh (((x0 - ((mUsh x0 1) &&& 1431655765)) &&& 858993459) + ((mUsh (x0 - ((mUsh x0 1) &&& 1431655765)) 2) &&& 858993459)) 4)) &&& 252645135) + (mUsh (((((x0 - ((mUsh x0 1) &&& 1431655765)) &&& 858993459) + ((mUsh (x0 - ((mUsh x0 1) &&& 1431655765)) 2) &&& 858993459)) + (mUsh (((x0 - ((mUsh x0 1) &&& 1431655765)) &&& 858993459) + ((mUsh (x0 - ((mUsh x0 1) &&& 1431655765)) 2) &&& 858993459)) 4)) &&& 252645135) 8)) 16)) &&& 63)
set_option maxHeartbeats 4000000 in
set_option maxRecDepth 100000 in
theorem wJ6_bitCount (X : Nat × (Nat → Int32)) (I : mI) (s : Nat) (x0 : Int32) (Q : mQ) {res : Int32} (hr : rJ6_bitCount x0 = res) (hQ : Q (some (.int res)) NN KK I (PP s)) : mV X mJ6_bitCount 0 0 0 0 [.int x0] [] NN KK I (PP s) Q := by
  unfold rJ6_bitCount at hr
  refine mV_iload fJ6_bitCount_0 rfl ?_
  refine mV_iload fJ6_bitCount_1 rfl ?_
  refine mV_push fJ6_bitCount_2 ?_
  refine mV_ushC fJ6_bitCount_3 ?_
  refine mV_push fJ6_bitCount_4 ?_
  refine mV_iand fJ6_bitCount_7 ?_
  refine mV_isub fJ6_bitCount_8 ?_
  refine mV_istore (L' := [.int (x0 - ((mUsh x0 1) &&& 1431655765))]) fJ6_bitCount_9 (by decide) rfl rfl ?_
  refine mV_iload fJ6_bitCount_10 rfl ?_
  refine mV_push fJ6_bitCount_11 ?_
  refine mV_iand fJ6_bitCount_14 ?_
  refine mV_iload fJ6_bitCount_15 rfl ?_
  refine mV_push fJ6_bitCount_16 ?_
  refine mV_ushC fJ6_bitCount_17 ?_
  refine mV_push fJ6_bitCount_18 ?_
  refine mV_iand fJ6_bitCount_21 ?_
  refine mV_iadd fJ6_bitCount_22 ?_
  refine mV_istore (L' := [.int (((x0 - ((mUsh x0 1) &&& 1431655765)) &&& 858993459) + ((mUsh (x0 - ((mUsh x0 1) &&& 1431655765)) 2) &&& 858993459))]) fJ6_bitCount_23 (by decide) rfl rfl ?_
  refine mV_iload fJ6_bitCount_24 rfl ?_
  refine mV_iload fJ6_bitCount_25 rfl ?_
  refine mV_push fJ6_bitCount_26 ?_
  refine mV_ushC fJ6_bitCount_27 ?_
  refine mV_iadd fJ6_bitCount_28 ?_
  refine mV_push fJ6_bitCount_29 ?_
  refine mV_iand fJ6_bitCount_32 ?_
  refine mV_istore (L' := [.int (((((x0 - ((mUsh x0 1) &&& 1431655765)) &&& 858993459) + ((mUsh (x0 - ((mUsh x0 1) &&& 1431655765)) 2) &&& 858993459)) + (mUsh (((x0 - ((mUsh x0 1) &&& 1431655765)) &&& 858993459) + ((mUsh (x0 - ((mUsh x0 1) &&& 1431655765)) 2) &&& 858993459)) 4)) &&& 252645135)]) fJ6_bitCount_33 (by decide) rfl rfl ?_
  refine mV_iload fJ6_bitCount_34 rfl ?_
  refine mV_iload fJ6_bitCount_35 rfl ?_
  refine mV_push fJ6_bitCount_36 ?_
  refine mV_ushC fJ6_bitCount_38 ?_
  refine mV_iadd fJ6_bitCount_39 ?_
  refine mV_istore (L' := [.int ((((((x0 - ((mUsh x0 1) &&& 1431655765)) &&& 858993459) + ((mUsh (x0 - ((mUsh x0 1) &&& 1431655765)) 2) &&& 858993459)) + (mUsh (((x0 - ((mUsh x0 1) &&& 1431655765)) &&& 858993459) + ((mUsh (x0 - ((mUsh x0 1) &&& 1431655765)) 2) &&& 858993459)) 4)) &&& 252645135) + (mUsh (((((x0 - ((mUsh x0 1) &&& 1431655765)) &&& 858993459) + ((mUsh (x0 - ((mUsh x0 1) &&& 1431655765)) 2) &&& 858993459)) + (mUsh (((x0 - ((mUsh x0 1) &&& 1431655765)) &&& 858993459) + ((mUsh (x0 - ((mUsh x0 1) &&& 1431655765)) 2) &&& 858993459)) 4)) &&& 252645135) 8))]) fJ6_bitCount_40 (by decide) rfl rfl ?_
  refine mV_iload fJ6_bitCount_41 rfl ?_
  refine mV_iload fJ6_bitCount_42 rfl ?_
  refine mV_push fJ6_bitCount_43 ?_
  refine mV_ushC fJ6_bitCount_45 ?_
  refine mV_iadd fJ6_bitCount_46 ?_
  refine mV_istore (L' := [.int (((((((x0 - ((mUsh x0 1) &&& 1431655765)) &&& 858993459) + ((mUsh (x0 - ((mUsh x0 1) &&& 1431655765)) 2) &&& 858993459)) + (mUsh (((x0 - ((mUsh x0 1) &&& 1431655765)) &&& 858993459) + ((mUsh (x0 - ((mUsh x0 1) &&& 1431655765)) 2) &&& 858993459)) 4)) &&& 252645135) + (mUsh (((((x0 - ((mUsh x0 1) &&& 1431655765)) &&& 858993459) + ((mUsh (x0 - ((mUsh x0 1) &&& 1431655765)) 2) &&& 858993459)) + (mUsh (((x0 - ((mUsh x0 1) &&& 1431655765)) &&& 858993459) + ((mUsh (x0 - ((mUsh x0 1) &&& 1431655765)) 2) &&& 858993459)) 4)) &&& 252645135) 8)) + (mUsh ((((((x0 - ((mUsh x0 1) &&& 1431655765)) &&& 858993459) + ((mUsh (x0 - ((mUsh x0 1) &&& 1431655765)) 2) &&& 858993459)) + (mUsh (((x0 - ((mUsh x0 1) &&& 1431655765)) &&& 858993459) + ((mUsh (x0 - ((mUsh x0 1) &&& 1431655765)) 2) &&& 858993459)) 4)) &&& 252645135) + (mUsh (((((x0 - ((mUsh x0 1) &&& 1431655765)) &&& 858993459) + ((mUsh (x0 - ((mUsh x0 1) &&& 1431655765)) 2) &&& 858993459)) + (mUsh (((x0 - ((mUsh x0 1) &&& 1431655765)) &&& 858993459) + ((mUsh (x0 - ((mUsh x0 1) &&& 1431655765)) 2) &&& 858993459)) 4)) &&& 252645135) 8)) 16))]) fJ6_bitCount_47 (by decide) rfl rfl ?_
  refine mV_iload fJ6_bitCount_48 rfl ?_
  refine mV_push fJ6_bitCount_49 ?_
  refine mV_iand fJ6_bitCount_51 ?_
  subst hr
  exact mV_iret rfl rfl fJ6_bitCount_52 hQ
theorem cJ6_bitCount (X : Nat × (Nat → Int32)) (I : mI) (s : Nat) (x0 : Int32) {res : Int32} (hr : rJ6_bitCount x0 = res) : mC X mJ6_bitCount 0 0 0 [.int x0] NN KK I (PP s) (mRet (some (.int res)) NN KK I (PP s)) :=
  mC_of (L0 := [.int x0]) rfl (Nat.le_of_ble_eq_true rfl) (wJ6_bitCount X I s x0 _ hr (mRet_ok _ _ _ _ _))
def r0_allPieces (I : mI) : Int32 := ((1 <<< (I 8 6 &&& 31)) - 1)
set_option maxHeartbeats 4000000 in
set_option maxRecDepth 100000 in
theorem w0_allPieces (X : Nat × (Nat → Int32)) (I : mI) (s : Nat) (Q : mQ) {res : Int32} (hr : r0_allPieces I = res) (hQ : Q (some (.int res)) NN KK I (PP s)) : mV X m0_allPieces 0 0 0 0 [.ref 8] [] NN KK I (PP s) Q := by
  unfold r0_allPieces at hr
  refine mV_push f0_allPieces_0 ?_
  refine mV_aload f0_allPieces_1 rfl ?_
  refine mV_gI (I 8 6) f0_allPieces_2 (by decide) kk_8 rfl rfl ?_
  refine mV_ishl f0_allPieces_5 ?_
  refine mV_push f0_allPieces_6 ?_
  refine mV_isub f0_allPieces_7 ?_
  subst hr
  exact mV_iret rfl rfl f0_allPieces_8 hQ
theorem c0_allPieces (X : Nat × (Nat → Int32)) (I : mI) (s : Nat) {res : Int32} (hr : r0_allPieces I = res) : mC X m0_allPieces 0 0 0 [.ref 8] NN KK I (PP s) (mRet (some (.int res)) NN KK I (PP s)) :=
  mC_of (L0 := [.ref 8]) rfl (Nat.le_of_ble_eq_true rfl) (w0_allPieces X I s _ hr (mRet_ok _ _ _ _ _))
def r2_isChord (x0 : Int32) : Int32 := if (x0 : Int32) ≤ (0 : Int32) then 0 else if (4095 : Int32) < (x0 : Int32) then 0 else 1
set_option maxHeartbeats 4000000 in
set_option maxRecDepth 100000 in
theorem w2_isChord (X : Nat × (Nat → Int32)) (I : mI) (s : Nat) (x0 : Int32) (Q : mQ) {res : Int32} (hr : r2_isChord x0 = res) (hQ : Q (some (.int res)) NN KK I (PP s)) : mV X m2_isChord 0 0 0 0 [.int x0] [] NN KK I (PP s) Q := by
  unfold r2_isChord at hr
  refine mV_iload f2_isChord_0 rfl ?_
  refine mV_if_le f2_isChord_1 (fun h0 => ?_) (fun h0 => ?_)
  · rw [if_pos h0] at hr
    refine mV_push f2_isChord_15 ?_
    subst hr
    exact mV_iret rfl rfl f2_isChord_16 hQ
  · rw [if_neg h0] at hr
    refine mV_iload f2_isChord_4 rfl ?_
    refine mV_push f2_isChord_5 ?_
    refine mV_icmp_gt f2_isChord_8 (fun h1 => ?_) (fun h1 => ?_)
    · rw [if_pos h1] at hr
      refine mV_push f2_isChord_15 ?_
      subst hr
      exact mV_iret rfl rfl f2_isChord_16 hQ
    · rw [if_neg h1] at hr
      refine mV_push f2_isChord_11 ?_
      refine mV_goto f2_isChord_12 ?_
      subst hr
      exact mV_iret rfl rfl f2_isChord_16 hQ
theorem c2_isChord (X : Nat × (Nat → Int32)) (I : mI) (s : Nat) (x0 : Int32) {res : Int32} (hr : r2_isChord x0 = res) : mC X m2_isChord 0 0 0 [.int x0] NN KK I (PP s) (mRet (some (.int res)) NN KK I (PP s)) :=
  mC_of (L0 := [.int x0]) rfl (Nat.le_of_ble_eq_true rfl) (w2_isChord X I s x0 _ hr (mRet_ok _ _ _ _ _))
def r2_movedBy (x0 : Int32) (x1 : Int32) : Int32 := (((x0 <<< (x1 &&& 31)) ||| (x0 >>> ((12 - x1) &&& 31))) &&& 4095)
set_option maxHeartbeats 4000000 in
set_option maxRecDepth 100000 in
theorem w2_movedBy (X : Nat × (Nat → Int32)) (I : mI) (s : Nat) (x0 : Int32) (x1 : Int32) (Q : mQ) {res : Int32} (hr : r2_movedBy x0 x1 = res) (hQ : Q (some (.int res)) NN KK I (PP s)) : mV X m2_movedBy 0 0 0 0 [.int x0, .int x1] [] NN KK I (PP s) Q := by
  unfold r2_movedBy at hr
  refine mV_iload f2_movedBy_0 rfl ?_
  refine mV_iload f2_movedBy_1 rfl ?_
  refine mV_ishl f2_movedBy_2 ?_
  refine mV_iload f2_movedBy_3 rfl ?_
  refine mV_push f2_movedBy_4 ?_
  refine mV_iload f2_movedBy_6 rfl ?_
  refine mV_isub f2_movedBy_7 ?_
  refine mV_ishr f2_movedBy_8 ?_
  refine mV_ior f2_movedBy_9 ?_
  refine mV_push f2_movedBy_10 ?_
  refine mV_iand f2_movedBy_13 ?_
  subst hr
  exact mV_iret rfl rfl f2_movedBy_14 hQ
theorem c2_movedBy (X : Nat × (Nat → Int32)) (I : mI) (s : Nat) (x0 : Int32) (x1 : Int32) {res : Int32} (hr : r2_movedBy x0 x1 = res) : mC X m2_movedBy 0 0 0 [.int x0, .int x1] NN KK I (PP s) (mRet (some (.int res)) NN KK I (PP s)) :=
  mC_of (L0 := [.int x0, .int x1]) rfl (Nat.le_of_ble_eq_true rfl) (w2_movedBy X I s x0 x1 _ hr (mRet_ok _ _ _ _ _))
def l2_highestOf_4 (k0 : Int32) : Nat → Int32 → Int32 → Option (Int32)
  | 0, _, _ => none
  | f + 1, y1, y2 => if (12 : Int32) ≤ (y2 : Int32) then some y1 else (if (((k0 >>> (y2 &&& 31)) &&& 1) : Int32) = (0 : Int32) then some y1 else some y2 : Option (Int32)).bind fun z0 => l2_highestOf_4 k0 f z0 (y2 + 1)
def r2_highestOf (x0 : Int32) : Option (Int32) := (l2_highestOf_4 x0 FU 0 1).bind fun z0 => some z0
set_option maxHeartbeats 4000000 in
set_option maxRecDepth 100000 in
theorem t2_highestOf_4 (X : Nat × (Nat → Int32)) (Q : mQ) (s : Nat) (I : mI) (k0 : Int32) : ∀ (f : Nat) (y1 : Int32) (y2 : Int32) (z : Int32), l2_highestOf_4 k0 f y1 y2 = some z → mV X m2_highestOf 0 0 0 30 [.int k0, .int z, mX0] [] NN KK I (PP s) Q → mV X m2_highestOf 0 0 0 4 [.int k0, .int y1, .int y2] [] NN KK I (PP s) Q := by
  intro f
  induction f with
  | zero => intro y1 y2 z hr hk; cases hr
  | succ f ih =>
    intro y1 y2 z hr hk
    unfold l2_highestOf_4 at hr
    refine mV_iload f2_highestOf_4 rfl ?_
    refine mV_push f2_highestOf_5 ?_
    refine mV_icmp_ge f2_highestOf_7 (fun h0 => ?_) (fun h0 => ?_)
    · rw [if_pos h0] at hr
      have hr := Option.some.inj hr; subst hr
      refine mV_drop (L' := [.int k0, .int y1, mX0]) (mSub_k (mSub_k (mSub_x mSub_n))) ?_
      exact hk
    · rw [if_neg h0] at hr
      refine mV_iload f2_highestOf_10 rfl ?_
      refine mV_iload f2_highestOf_11 rfl ?_
      refine mV_ishr f2_highestOf_12 ?_
      refine mV_push f2_highestOf_13 ?_
      refine mV_iand f2_highestOf_14 ?_
      obtain ⟨z0, hz0, hr⟩ := mBind hr
      have keyz0 : mV X m2_highestOf 0 0 0 23 [.int k0, mX0, .int y2] [.int z0] NN KK I (PP s) Q := by
        refine mV_istore (L' := [.int k0, .int z0, .int y2]) f2_highestOf_23 (by decide) rfl rfl ?_
        refine mV_iinc (y := (y2 + 1)) (L' := [.int k0, .int z0, .int (y2 + 1)]) f2_highestOf_24 rfl rfl (by decide) rfl rfl ?_
        refine mV_goto f2_highestOf_27 ?_
        exact ih z0 (y2 + 1) _ hr hk
      clear hr
      have hr := hz0
      clear hz0
      refine mV_if_eq f2_highestOf_15 (fun h1 => ?_) (fun h1 => ?_)
      · rw [if_pos h1] at hr
        refine mV_iload f2_highestOf_22 rfl ?_
        have hr := Option.some.inj hr; subst hr
        refine mV_drop (L' := [.int k0, mX0, .int y2]) (mSub_k (mSub_x (mSub_k mSub_n))) ?_
        exact keyz0
      · rw [if_neg h1] at hr
        refine mV_iload f2_highestOf_18 rfl ?_
        refine mV_goto f2_highestOf_19 ?_
        have hr := Option.some.inj hr; subst hr
        refine mV_drop (L' := [.int k0, mX0, .int y2]) (mSub_k (mSub_x (mSub_k mSub_n))) ?_
        exact keyz0
set_option maxHeartbeats 4000000 in
set_option maxRecDepth 100000 in
theorem w2_highestOf (X : Nat × (Nat → Int32)) (I : mI) (s : Nat) (x0 : Int32) (Q : mQ) {res : Int32} (hr : r2_highestOf x0 = some res) (hQ : Q (some (.int res)) NN KK I (PP s)) : mV X m2_highestOf 0 0 0 0 [.int x0, mX0, mX0] [] NN KK I (PP s) Q := by
  unfold r2_highestOf at hr
  refine mV_push f2_highestOf_0 ?_
  refine mV_istore (L' := [.int x0, .int 0, mX0]) f2_highestOf_1 (by decide) rfl rfl ?_
  refine mV_push f2_highestOf_2 ?_
  refine mV_istore (L' := [.int x0, .int 0, .int 1]) f2_highestOf_3 (by decide) rfl rfl ?_
  obtain ⟨z0, hz0, hr⟩ := mBind hr
  refine t2_highestOf_4 X Q s I x0 FU 0 1 _ hz0 ?_
  refine mV_iload f2_highestOf_30 rfl ?_
  have hr := Option.some.inj hr; subst hr
  exact mV_iret rfl rfl f2_highestOf_31 hQ
theorem c2_highestOf (X : Nat × (Nat → Int32)) (I : mI) (s : Nat) (x0 : Int32) {res : Int32} (hr : r2_highestOf x0 = some res) : mC X m2_highestOf 0 0 0 [.int x0] NN KK I (PP s) (mRet (some (.int res)) NN KK I (PP s)) :=
  mC_of (L0 := [.int x0, mX0, mX0]) rfl (Nat.le_of_ble_eq_true rfl) (w2_highestOf X I s x0 _ hr (mRet_ok _ _ _ _ _))
def l2_spanOf_5 (k0 : Int32) : Nat → Int32 → Int32 → Option (Int32)
  | 0, _, _ => none
  | f + 1, y1, y2 => if (12 : Int32) ≤ (y2 : Int32) then some y1 else (if (((k0 >>> (y2 &&& 31)) &&& 1) : Int32) = (0 : Int32) then some y1 else (r2_highestOf (r2_movedBy k0 (mRm (12 - y2) 12))).bind fun z1 => some (mMin y1 z1) : Option (Int32)).bind fun z0 => l2_spanOf_5 k0 f z0 (y2 + 1)
def r2_spanOf (x0 : Int32) : Option (Int32) := (l2_spanOf_5 x0 FU 12 0).bind fun z0 => some z0
set_option maxHeartbeats 4000000 in
set_option maxRecDepth 100000 in
theorem t2_spanOf_5 (X : Nat × (Nat → Int32)) (Q : mQ) (s : Nat) (I : mI) (k0 : Int32) : ∀ (f : Nat) (y1 : Int32) (y2 : Int32) (z : Int32), l2_spanOf_5 k0 f y1 y2 = some z → mV X m2_spanOf 1 0 0 44 [.int k0, .int z, mX0] [] NN KK I (PP s) Q → mV X m2_spanOf 1 0 0 5 [.int k0, .int y1, .int y2] [] NN KK I (PP s) Q := by
  intro f
  induction f with
  | zero => intro y1 y2 z hr hk; cases hr
  | succ f ih =>
    intro y1 y2 z hr hk
    unfold l2_spanOf_5 at hr
    refine mV_iload f2_spanOf_5 rfl ?_
    refine mV_push f2_spanOf_6 ?_
    refine mV_icmp_ge f2_spanOf_8 (fun h0 => ?_) (fun h0 => ?_)
    · rw [if_pos h0] at hr
      have hr := Option.some.inj hr; subst hr
      refine mV_drop (L' := [.int k0, .int y1, mX0]) (mSub_k (mSub_k (mSub_x mSub_n))) ?_
      exact hk
    · rw [if_neg h0] at hr
      refine mV_iload f2_spanOf_11 rfl ?_
      refine mV_iload f2_spanOf_12 rfl ?_
      refine mV_ishr f2_spanOf_13 ?_
      refine mV_push f2_spanOf_14 ?_
      refine mV_iand f2_spanOf_15 ?_
      obtain ⟨z0, hz0, hr⟩ := mBind hr
      have keyz0 : mV X m2_spanOf 1 0 0 38 [.int k0, .int z0, .int y2] [] NN KK I (PP s) Q := by
        refine mV_iinc (y := (y2 + 1)) (L' := [.int k0, .int z0, .int (y2 + 1)]) f2_spanOf_38 rfl rfl (by decide) rfl rfl ?_
        refine mV_goto f2_spanOf_41 ?_
        exact ih z0 (y2 + 1) _ hr hk
      clear hr
      have hr := hz0
      clear hz0
      refine mV_if_eq f2_spanOf_16 (fun h1 => ?_) (fun h1 => ?_)
      · rw [if_pos h1] at hr
        have hr := Option.some.inj hr; subst hr
        exact keyz0
      · rw [if_neg h1] at hr
        refine mV_iload f2_spanOf_19 rfl ?_
        refine mV_iload f2_spanOf_20 rfl ?_
        refine mV_push f2_spanOf_21 ?_
        refine mV_iload f2_spanOf_23 rfl ?_
        refine mV_isub f2_spanOf_24 ?_
        refine mV_push f2_spanOf_25 ?_
        refine mV_remC f2_spanOf_27 (by decide) ?_
        refine mV_cS f2_spanOf_28 tg_m2_movedBy (mC_deep (c2_movedBy X I s k0 (mRm (12 - y2) 12) rfl) (by decide)) rfl rfl (Nat.le_of_ble_eq_true rfl) ?_
        obtain ⟨z1, hz1, hr⟩ := mBind hr
        refine mV_cS f2_spanOf_31 tg_m2_highestOf (mC_deep (c2_highestOf X I s (r2_movedBy k0 (mRm (12 - y2) 12)) hz1) (by decide)) rfl rfl (Nat.le_of_ble_eq_true rfl) ?_
        refine mV_minC fm2_spanOf_34 (Nat.le_of_ble_eq_true rfl) ?_
        refine mV_istore (L' := [.int k0, .int (mMin y1 z1), .int y2]) f2_spanOf_37 (by decide) rfl rfl ?_
        have hr := Option.some.inj hr; subst hr
        exact keyz0
set_option maxHeartbeats 4000000 in
set_option maxRecDepth 100000 in
theorem w2_spanOf (X : Nat × (Nat → Int32)) (I : mI) (s : Nat) (x0 : Int32) (Q : mQ) {res : Int32} (hr : r2_spanOf x0 = some res) (hQ : Q (some (.int res)) NN KK I (PP s)) : mV X m2_spanOf 1 0 0 0 [.int x0, mX0, mX0] [] NN KK I (PP s) Q := by
  unfold r2_spanOf at hr
  refine mV_push f2_spanOf_0 ?_
  refine mV_istore (L' := [.int x0, .int 12, mX0]) f2_spanOf_2 (by decide) rfl rfl ?_
  refine mV_push f2_spanOf_3 ?_
  refine mV_istore (L' := [.int x0, .int 12, .int 0]) f2_spanOf_4 (by decide) rfl rfl ?_
  obtain ⟨z0, hz0, hr⟩ := mBind hr
  refine t2_spanOf_5 X Q s I x0 FU 12 0 _ hz0 ?_
  refine mV_iload f2_spanOf_44 rfl ?_
  have hr := Option.some.inj hr; subst hr
  exact mV_iret rfl rfl f2_spanOf_45 hQ
theorem c2_spanOf (X : Nat × (Nat → Int32)) (I : mI) (s : Nat) (x0 : Int32) {res : Int32} (hr : r2_spanOf x0 = some res) : mC X m2_spanOf 1 0 0 [.int x0] NN KK I (PP s) (mRet (some (.int res)) NN KK I (PP s)) :=
  mC_of (L0 := [.int x0, mX0, mX0]) rfl (Nat.le_of_ble_eq_true rfl) (w2_spanOf X I s x0 _ hr (mRet_ok _ _ _ _ _))
def r2_heldBy (x0 : Int32) (x1 : Int32) : Int32 := (rJ6_bitCount (x0 &&& (r2_movedBy x0 x1)))
set_option maxHeartbeats 4000000 in
set_option maxRecDepth 100000 in
theorem w2_heldBy (X : Nat × (Nat → Int32)) (I : mI) (s : Nat) (x0 : Int32) (x1 : Int32) (Q : mQ) {res : Int32} (hr : r2_heldBy x0 x1 = res) (hQ : Q (some (.int res)) NN KK I (PP s)) : mV X m2_heldBy 1 0 0 0 [.int x0, .int x1] [] NN KK I (PP s) Q := by
  unfold r2_heldBy at hr
  refine mV_iload f2_heldBy_0 rfl ?_
  refine mV_iload f2_heldBy_1 rfl ?_
  refine mV_iload f2_heldBy_2 rfl ?_
  refine mV_cS f2_heldBy_3 tg_m2_movedBy (mC_deep (c2_movedBy X I s x0 x1 rfl) (by decide)) rfl rfl (Nat.le_of_ble_eq_true rfl) ?_
  refine mV_iand f2_heldBy_6 ?_
  refine mV_cS f2_heldBy_7 tg_mJ6_bitCount (mC_deep (cJ6_bitCount X I s (x0 &&& (r2_movedBy x0 x1)) rfl) (by decide)) rfl rfl (Nat.le_of_ble_eq_true rfl) ?_
  subst hr
  exact mV_iret rfl rfl f2_heldBy_10 hQ
theorem c2_heldBy (X : Nat × (Nat → Int32)) (I : mI) (s : Nat) (x0 : Int32) (x1 : Int32) {res : Int32} (hr : r2_heldBy x0 x1 = res) : mC X m2_heldBy 1 0 0 [.int x0, .int x1] NN KK I (PP s) (mRet (some (.int res)) NN KK I (PP s)) :=
  mC_of (L0 := [.int x0, .int x1]) rfl (Nat.le_of_ble_eq_true rfl) (w2_heldBy X I s x0 x1 _ hr (mRet_ok _ _ _ _ _))
def l2_bestHold_4 (k0 : Int32) : Nat → Int32 → Int32 → Option (Int32)
  | 0, _, _ => none
  | f + 1, y1, y2 => if (12 : Int32) ≤ (y2 : Int32) then some y1 else (if ((r2_heldBy k0 y2) : Int32) ≤ ((r2_heldBy k0 y1) : Int32) then some y1 else some y2 : Option (Int32)).bind fun z0 => l2_bestHold_4 k0 f z0 (y2 + 1)
def r2_bestHold (x0 : Int32) : Option (Int32) := (l2_bestHold_4 x0 FU 1 2).bind fun z0 => some z0
set_option maxHeartbeats 4000000 in
set_option maxRecDepth 100000 in
theorem t2_bestHold_4 (X : Nat × (Nat → Int32)) (Q : mQ) (s : Nat) (I : mI) (k0 : Int32) : ∀ (f : Nat) (y1 : Int32) (y2 : Int32) (z : Int32), l2_bestHold_4 k0 f y1 y2 = some z → mV X m2_bestHold 2 0 0 31 [.int k0, .int z, mX0] [] NN KK I (PP s) Q → mV X m2_bestHold 2 0 0 4 [.int k0, .int y1, .int y2] [] NN KK I (PP s) Q := by
  intro f
  induction f with
  | zero => intro y1 y2 z hr hk; cases hr
  | succ f ih =>
    intro y1 y2 z hr hk
    unfold l2_bestHold_4 at hr
    refine mV_iload f2_bestHold_4 rfl ?_
    refine mV_push f2_bestHold_5 ?_
    refine mV_icmp_ge f2_bestHold_7 (fun h0 => ?_) (fun h0 => ?_)
    · rw [if_pos h0] at hr
      have hr := Option.some.inj hr; subst hr
      refine mV_drop (L' := [.int k0, .int y1, mX0]) (mSub_k (mSub_k (mSub_x mSub_n))) ?_
      exact hk
    · rw [if_neg h0] at hr
      refine mV_iload f2_bestHold_10 rfl ?_
      refine mV_iload f2_bestHold_11 rfl ?_
      refine mV_cS f2_bestHold_12 tg_m2_heldBy (mC_deep (c2_heldBy X I s k0 y2 rfl) (by decide)) rfl rfl (Nat.le_of_ble_eq_true rfl) ?_
      refine mV_iload f2_bestHold_15 rfl ?_
      refine mV_iload f2_bestHold_16 rfl ?_
      refine mV_cS f2_bestHold_17 tg_m2_heldBy (mC_deep (c2_heldBy X I s k0 y1 rfl) (by decide)) rfl rfl (Nat.le_of_ble_eq_true rfl) ?_
      obtain ⟨z0, hz0, hr⟩ := mBind hr
      have keyz0 : mV X m2_bestHold 2 0 0 25 [.int k0, .int z0, .int y2] [] NN KK I (PP s) Q := by
        refine mV_iinc (y := (y2 + 1)) (L' := [.int k0, .int z0, .int (y2 + 1)]) f2_bestHold_25 rfl rfl (by decide) rfl rfl ?_
        refine mV_goto f2_bestHold_28 ?_
        exact ih z0 (y2 + 1) _ hr hk
      clear hr
      have hr := hz0
      clear hz0
      refine mV_icmp_le f2_bestHold_20 (fun h1 => ?_) (fun h1 => ?_)
      · rw [if_pos h1] at hr
        have hr := Option.some.inj hr; subst hr
        exact keyz0
      · rw [if_neg h1] at hr
        refine mV_iload f2_bestHold_23 rfl ?_
        refine mV_istore (L' := [.int k0, .int y2, .int y2]) f2_bestHold_24 (by decide) rfl rfl ?_
        have hr := Option.some.inj hr; subst hr
        exact keyz0
set_option maxHeartbeats 4000000 in
set_option maxRecDepth 100000 in
theorem w2_bestHold (X : Nat × (Nat → Int32)) (I : mI) (s : Nat) (x0 : Int32) (Q : mQ) {res : Int32} (hr : r2_bestHold x0 = some res) (hQ : Q (some (.int res)) NN KK I (PP s)) : mV X m2_bestHold 2 0 0 0 [.int x0, mX0, mX0] [] NN KK I (PP s) Q := by
  unfold r2_bestHold at hr
  refine mV_push f2_bestHold_0 ?_
  refine mV_istore (L' := [.int x0, .int 1, mX0]) f2_bestHold_1 (by decide) rfl rfl ?_
  refine mV_push f2_bestHold_2 ?_
  refine mV_istore (L' := [.int x0, .int 1, .int 2]) f2_bestHold_3 (by decide) rfl rfl ?_
  obtain ⟨z0, hz0, hr⟩ := mBind hr
  refine t2_bestHold_4 X Q s I x0 FU 1 2 _ hz0 ?_
  refine mV_iload f2_bestHold_31 rfl ?_
  have hr := Option.some.inj hr; subst hr
  exact mV_iret rfl rfl f2_bestHold_32 hQ
theorem c2_bestHold (X : Nat × (Nat → Int32)) (I : mI) (s : Nat) (x0 : Int32) {res : Int32} (hr : r2_bestHold x0 = some res) : mC X m2_bestHold 2 0 0 [.int x0] NN KK I (PP s) (mRet (some (.int res)) NN KK I (PP s)) :=
  mC_of (L0 := [.int x0, mX0, mX0]) rfl (Nat.le_of_ble_eq_true rfl) (w2_bestHold X I s x0 _ hr (mRet_ok _ _ _ _ _))

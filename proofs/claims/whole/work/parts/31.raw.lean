def r5_join (x0 : Int32) (x1 : Int32) (x2 : Int32) : Int32 := if (x0 : Int32) = 2 then (x1 + x2) else if (x0 : Int32) = 3 then (x1 - x2) else if (x0 : Int32) = 4 then (x1 * x2) else if (x0 : Int32) = 5 then (x1 ||| x2) else if (x0 : Int32) = 6 then if (x2 : Int32) ≤ (x1 : Int32) then 0 else 1 else if (x0 : Int32) = 7 then if (x1 : Int32) = (x2 : Int32) then 1 else 0 else if (x0 : Int32) = 8 then if (x1 : Int32) ≤ (x2 : Int32) then 0 else 1 else if (x0 : Int32) = 9 then (x1 ||| x2) else if (x0 : Int32) = 10 then (x1 &&& x2) else (x1 ||| x2)
set_option maxHeartbeats 4000000 in
set_option maxRecDepth 100000 in
theorem w5_join (X : Nat × (Nat → Int32)) (I : mI) (s : Nat) (x0 : Int32) (x1 : Int32) (x2 : Int32) (Q : mQ) {res : Int32} (hr : r5_join x0 x1 x2 = res) (hQ : Q (some (.int res)) NN KK I (PP s)) : mV X m5_join 0 0 0 0 [.int x0, .int x1, .int x2] [] NN KK I (PP s) Q := by
  unfold r5_join at hr
  refine mV_iload f5_join_0 rfl ?_
  by_cases h0 : x0 = 2
  · rw [if_pos h0] at hr
    refine mV_tabEq (v := 2) f5_join_1 h0 (by decide) (by decide) (by decide) (by decide : (1 : Int) + 51 = (52 : Nat)) ?_
    refine mV_iload f5_join_52 rfl ?_
    refine mV_iload f5_join_53 rfl ?_
    refine mV_iadd f5_join_54 ?_
    subst hr
    exact mV_iret rfl rfl f5_join_55 hQ
  rw [if_neg h0] at hr
  by_cases h1 : x0 = 3
  · rw [if_pos h1] at hr
    refine mV_tabEq (v := 3) f5_join_1 h1 (by decide) (by decide) (by decide) (by decide : (1 : Int) + 55 = (56 : Nat)) ?_
    refine mV_iload f5_join_56 rfl ?_
    refine mV_iload f5_join_57 rfl ?_
    refine mV_isub f5_join_58 ?_
    subst hr
    exact mV_iret rfl rfl f5_join_59 hQ
  rw [if_neg h1] at hr
  by_cases h2 : x0 = 4
  · rw [if_pos h2] at hr
    refine mV_tabEq (v := 4) f5_join_1 h2 (by decide) (by decide) (by decide) (by decide : (1 : Int) + 59 = (60 : Nat)) ?_
    refine mV_iload f5_join_60 rfl ?_
    refine mV_iload f5_join_61 rfl ?_
    refine mV_imul f5_join_62 ?_
    subst hr
    exact mV_iret rfl rfl f5_join_63 hQ
  rw [if_neg h2] at hr
  by_cases h3 : x0 = 5
  · rw [if_pos h3] at hr
    refine mV_tabEq (v := 5) f5_join_1 h3 (by decide) (by decide) (by decide) (by decide : (1 : Int) + 100 = (101 : Nat)) ?_
    refine mV_iload f5_join_101 rfl ?_
    refine mV_iload f5_join_102 rfl ?_
    refine mV_ior f5_join_103 ?_
    subst hr
    exact mV_iret rfl rfl f5_join_104 hQ
  rw [if_neg h3] at hr
  by_cases h4 : x0 = 6
  · rw [if_pos h4] at hr
    refine mV_tabEq (v := 6) f5_join_1 h4 (by decide) (by decide) (by decide) (by decide : (1 : Int) + 63 = (64 : Nat)) ?_
    refine mV_iload f5_join_64 rfl ?_
    refine mV_iload f5_join_65 rfl ?_
    refine mV_icmp_ge f5_join_66 (fun h5 => ?_) (fun h5 => ?_)
    · rw [if_pos h5] at hr
      refine mV_push f5_join_73 ?_
      subst hr
      exact mV_iret rfl rfl f5_join_74 hQ
    · rw [if_neg h5] at hr
      refine mV_push f5_join_69 ?_
      refine mV_goto f5_join_70 ?_
      subst hr
      exact mV_iret rfl rfl f5_join_74 hQ
  rw [if_neg h4] at hr
  by_cases h6 : x0 = 7
  · rw [if_pos h6] at hr
    refine mV_tabEq (v := 7) f5_join_1 h6 (by decide) (by decide) (by decide) (by decide : (1 : Int) + 74 = (75 : Nat)) ?_
    refine mV_iload f5_join_75 rfl ?_
    refine mV_iload f5_join_76 rfl ?_
    refine mV_icmp_ne f5_join_77 (fun h7 => ?_) (fun h7 => ?_)
    · rw [if_neg h7] at hr
      refine mV_push f5_join_84 ?_
      subst hr
      exact mV_iret rfl rfl f5_join_85 hQ
    · rw [if_pos h7] at hr
      refine mV_push f5_join_80 ?_
      refine mV_goto f5_join_81 ?_
      subst hr
      exact mV_iret rfl rfl f5_join_85 hQ
  rw [if_neg h6] at hr
  by_cases h8 : x0 = 8
  · rw [if_pos h8] at hr
    refine mV_tabEq (v := 8) f5_join_1 h8 (by decide) (by decide) (by decide) (by decide : (1 : Int) + 85 = (86 : Nat)) ?_
    refine mV_iload f5_join_86 rfl ?_
    refine mV_iload f5_join_87 rfl ?_
    refine mV_icmp_le f5_join_88 (fun h9 => ?_) (fun h9 => ?_)
    · rw [if_pos h9] at hr
      refine mV_push f5_join_95 ?_
      subst hr
      exact mV_iret rfl rfl f5_join_96 hQ
    · rw [if_neg h9] at hr
      refine mV_push f5_join_91 ?_
      refine mV_goto f5_join_92 ?_
      subst hr
      exact mV_iret rfl rfl f5_join_96 hQ
  rw [if_neg h8] at hr
  by_cases h10 : x0 = 9
  · rw [if_pos h10] at hr
    refine mV_tabEq (v := 9) f5_join_1 h10 (by decide) (by decide) (by decide) (by decide : (1 : Int) + 100 = (101 : Nat)) ?_
    refine mV_iload f5_join_101 rfl ?_
    refine mV_iload f5_join_102 rfl ?_
    refine mV_ior f5_join_103 ?_
    subst hr
    exact mV_iret rfl rfl f5_join_104 hQ
  rw [if_neg h10] at hr
  by_cases h11 : x0 = 10
  · rw [if_pos h11] at hr
    refine mV_tabEq (v := 10) f5_join_1 h11 (by decide) (by decide) (by decide) (by decide : (1 : Int) + 96 = (97 : Nat)) ?_
    refine mV_iload f5_join_97 rfl ?_
    refine mV_iload f5_join_98 rfl ?_
    refine mV_iand f5_join_99 ?_
    subst hr
    exact mV_iret rfl rfl f5_join_100 hQ
  rw [if_neg h11] at hr
  refine mV_tabNo f5_join_1 [2, 3, 4, 5, 6, 7, 8, 9, 10] (by decide) (List.forall_mem_cons.mpr ⟨h0, (List.forall_mem_cons.mpr ⟨h1, (List.forall_mem_cons.mpr ⟨h2, (List.forall_mem_cons.mpr ⟨h3, (List.forall_mem_cons.mpr ⟨h4, (List.forall_mem_cons.mpr ⟨h6, (List.forall_mem_cons.mpr ⟨h8, (List.forall_mem_cons.mpr ⟨h10, (List.forall_mem_cons.mpr ⟨h11, (fun _ hc => absurd hc List.not_mem_nil)⟩)⟩)⟩)⟩)⟩)⟩)⟩)⟩)⟩) (by decide : (1 : Int) + 100 = (101 : Nat)) ?_
  refine mV_iload f5_join_101 rfl ?_
  refine mV_iload f5_join_102 rfl ?_
  refine mV_ior f5_join_103 ?_
  subst hr
  exact mV_iret rfl rfl f5_join_104 hQ
theorem c5_join (X : Nat × (Nat → Int32)) (I : mI) (s : Nat) (x0 : Int32) (x1 : Int32) (x2 : Int32) {res : Int32} (hr : r5_join x0 x1 x2 = res) : mC X m5_join 0 0 0 [.int x0, .int x1, .int x2] NN KK I (PP s) (mRet (some (.int res)) NN KK I (PP s)) :=
  mC_of (L0 := [.int x0, .int x1, .int x2]) rfl (Nat.le_of_ble_eq_true rfl) (w5_join X I s x0 x1 x2 _ hr (mRet_ok _ _ _ _ _))
def l5_run_18 (k2 : Int32) : Nat → Int32 → Int32 → mI → Option ((Int32 × mI) ⊕ (Int32 × mI))
  | 0, _, _, _ => none
  | f + 1, y4, y5, I => if (k2 : Int32) ≤ (y5 : Int32) then some (.inr (y4, I)) else if (I 15 3 : Int32) ≤ (y5 : Int32) then some (.inr (y4, I)) else (mLd I 17 400 y5).bind fun z0 => (mLd I 17 400 y5).bind fun z1 => if (1 : Int32) < ((z0 &&& 15) : Int32) then if ((z0 &&& 15) : Int32) = (5 : Int32) then if (0 : Int32) ≤ (y4 : Int32) then (if ((z0 &&& 15) : Int32) = (9 : Int32) then (mLd I 41 32 y4).bind fun z5 => some (1 - z5) else if (((z1 : Int32) >>> (4 &&& 31)) : Int32) = (0 : Int32) then some 0 else (mLd I 41 32 y4).bind fun z3 => (mDivO z3 ((z1 : Int32) >>> (4 &&& 31))).bind fun z4 => some z4 : Option (Int32)).bind fun z2 => (mSto I 41 32 y4 z2).bind fun z6 => l5_run_18 k2 f y4 (y5 + 1) z6 else some (.inl (0, I)) else if ((z0 &&& 15) : Int32) = (9 : Int32) then if (0 : Int32) ≤ (y4 : Int32) then (if ((z0 &&& 15) : Int32) = (9 : Int32) then (mLd I 41 32 y4).bind fun z13 => some (1 - z13) else if (((z1 : Int32) >>> (4 &&& 31)) : Int32) = (0 : Int32) then some 0 else (mLd I 41 32 y4).bind fun z11 => (mDivO z11 ((z1 : Int32) >>> (4 &&& 31))).bind fun z12 => some z12 : Option (Int32)).bind fun z10 => (mSto I 41 32 y4 z10).bind fun z14 => l5_run_18 k2 f y4 (y5 + 1) z14 else some (.inl (0, I)) else if (1 : Int32) ≤ (y4 : Int32) then (mLd I 41 32 (y4 + (-1))).bind fun z7 => (mLd I 41 32 ((y4 + (-1)) + 1)).bind fun z8 => (mSto I 41 32 (y4 + (-1)) (r5_join (z0 &&& 15) z7 z8)).bind fun z9 => l5_run_18 k2 f (y4 + (-1)) (y5 + 1) z9 else some (.inl (0, I)) else if ((y4 + 1) : Int32) < (32 : Int32) then (if ((z0 &&& 15) : Int32) = (0 : Int32) then some ((z1 : Int32) >>> (4 &&& 31)) else if (12 : Int32) ≤ (((z1 : Int32) >>> (4 &&& 31)) : Int32) then some 0 else (mLd I 40 12 ((z1 : Int32) >>> (4 &&& 31))).bind fun z16 => some z16 : Option (Int32)).bind fun z15 => (mSto I 41 32 (y4 + 1) z15).bind fun z17 => l5_run_18 k2 f (y4 + 1) (y5 + 1) z17 else some (.inl (0, I))
def r5_run (I : mI) (x0 : Int32) (x1 : Int32) : Option (Int32 × mI) := (l5_run_18 x1 FU (-1) (mMax 0 x0) I).bind fun z0 => match z0 with | .inl rz0 => some rz0 | .inr wz0 => (if (wz0.1 : Int32) = (0 : Int32) then some (wz0.2 41 0) else some 0 : Option (Int32)).bind fun z1 => some (z1, wz0.2)
set_option maxHeartbeats 4000000 in
set_option maxRecDepth 100000 in
theorem t5_run_18 (X : Nat × (Nat → Int32)) (Q : mQ) (s : Nat) (k2 : Int32) : ∀ (f : Nat) (y4 : Int32) (y5 : Int32) (I : mI) (z : (Int32 × mI) ⊕ (Int32 × mI)), l5_run_18 k2 f y4 y5 I = some z → (∀ res, z = .inl res → Q (some (.int res.1)) NN KK res.2 (PP s)) → (∀ w, z = .inr w → mV X m5_run 1 0 0 227 [.ref 1, mX0, .int k2, .ref 15, .int w.1, mX0, mX0, mX0] [] NN KK w.2 (PP s) Q) → mV X m5_run 1 0 0 18 [.ref 1, mX0, .int k2, .ref 15, .int y4, .int y5, mX0, mX0] [] NN KK I (PP s) Q := by
  intro f
  induction f with
  | zero => intro y4 y5 I z hr hret hk; cases hr
  | succ f ih =>
    intro y4 y5 I z hr hret hk
    unfold l5_run_18 at hr
    refine mV_iload f5_run_18 rfl ?_
    refine mV_iload f5_run_20 rfl ?_
    refine mV_icmp_ge f5_run_21 (fun h0 => ?_) (fun h0 => ?_)
    · rw [if_pos h0] at hr
      have hr := Option.some.inj hr; subst hr
      refine mV_drop (L' := [.ref 1, mX0, .int k2, .ref 15, .int y4, mX0, mX0, mX0]) (mSub_k (mSub_x (mSub_k (mSub_k (mSub_k (mSub_x (mSub_x (mSub_x mSub_n)))))))) ?_
      exact hk _ rfl
    · rw [if_neg h0] at hr
      refine mV_iload f5_run_24 rfl ?_
      refine mV_aload f5_run_26 rfl ?_
      refine mV_gI (I 15 3) f5_run_27 (by decide) kk_15 rfl rfl ?_
      refine mV_icmp_ge f5_run_30 (fun h1 => ?_) (fun h1 => ?_)
      · rw [if_pos h1] at hr
        have hr := Option.some.inj hr; subst hr
        refine mV_drop (L' := [.ref 1, mX0, .int k2, .ref 15, .int y4, mX0, mX0, mX0]) (mSub_k (mSub_x (mSub_k (mSub_k (mSub_k (mSub_x (mSub_x (mSub_x mSub_n)))))))) ?_
        exact hk _ rfl
      · rw [if_neg h1] at hr
        refine mV_aload f5_run_33 rfl ?_
        refine mV_getP f5_run_34 (by decide) kk_15 rfl (pp_15_1 _) ?_
        refine mV_iload f5_run_37 rfl ?_
        obtain ⟨z0, hz0, hr⟩ := mBind hr
        refine mV_ldO f5_run_39 (by decide) kk_17 hz0 ?_
        refine mV_push f5_run_40 ?_
        refine mV_iand f5_run_42 ?_
        refine mV_istore (L' := [.ref 1, mX0, .int k2, .ref 15, .int y4, .int y5, .int (z0 &&& 15), mX0]) f5_run_43 (by decide) rfl rfl ?_
        refine mV_aload f5_run_45 rfl ?_
        refine mV_getP f5_run_46 (by decide) kk_15 rfl (pp_15_1 _) ?_
        refine mV_iload f5_run_49 rfl ?_
        obtain ⟨z1, hz1, hr⟩ := mBind hr
        refine mV_ldO f5_run_51 (by decide) kk_17 hz1 ?_
        refine mV_push f5_run_52 ?_
        refine mV_ishr f5_run_53 ?_
        refine mV_istore (L' := [.ref 1, mX0, .int k2, .ref 15, .int y4, .int y5, .int (z0 &&& 15), .int ((z1 : Int32) >>> (4 &&& 31))]) f5_run_54 (by decide) rfl rfl ?_
        refine mV_iload f5_run_56 rfl ?_
        refine mV_push f5_run_58 ?_
        refine mV_icmp_gt f5_run_59 (fun h2 => ?_) (fun h2 => ?_)
        · rw [if_pos h2] at hr
          refine mV_iload f5_run_114 rfl ?_
          refine mV_push f5_run_116 ?_
          refine mV_icmp_eq f5_run_117 (fun h3 => ?_) (fun h3 => ?_)
          · rw [if_pos h3] at hr
            refine mV_iload f5_run_127 rfl ?_
            refine mV_if_ge f5_run_129 (fun h4 => ?_) (fun h4 => ?_)
            · rw [if_pos h4] at hr
              refine mV_aload f5_run_134 rfl ?_
              refine mV_getP f5_run_135 (by decide) kk_1 rfl (pp_1_5 _) ?_
              refine mV_iload f5_run_138 rfl ?_
              refine mV_iload f5_run_140 rfl ?_
              refine mV_push f5_run_142 ?_
              obtain ⟨z2, hz2, hr⟩ := mBind hr
              have keyz2 : mV X m5_run 1 0 0 178 [.ref 1, mX0, .int k2, .ref 15, .int y4, .int y5, mX0, mX0] [.int z2, .int y4, .ref 41] NN KK I (PP s) Q := by
                obtain ⟨z6, hz6, hr⟩ := mBind hr
                refine mV_stO f5_run_178 (by decide) kk_41 hz6 ?_
                refine mV_goto f5_run_179 ?_
                refine mV_iinc (y := (y5 + 1)) (L' := [.ref 1, mX0, .int k2, .ref 15, .int y4, .int (y5 + 1), mX0, mX0]) f5_run_221 rfl rfl (by decide) rfl rfl ?_
                refine mV_goto f5_run_224 ?_
                exact ih y4 (y5 + 1) z6 _ hr hret hk
              clear hr
              have hr := hz2
              clear hz2
              refine mV_icmp_ne f5_run_144 (fun h5 => ?_) (fun h5 => ?_)
              · rw [if_neg h5] at hr
                refine mV_iload f5_run_159 rfl ?_
                refine mV_if_eq f5_run_161 (fun h6 => ?_) (fun h6 => ?_)
                · rw [if_pos h6] at hr
                  refine mV_push f5_run_177 ?_
                  have hr := Option.some.inj hr; subst hr
                  refine mV_drop (L' := [.ref 1, mX0, .int k2, .ref 15, .int y4, .int y5, mX0, mX0]) (mSub_k (mSub_x (mSub_k (mSub_k (mSub_k (mSub_k (mSub_x (mSub_x mSub_n)))))))) ?_
                  exact keyz2
                · rw [if_neg h6] at hr
                  refine mV_aload f5_run_164 rfl ?_
                  refine mV_getP f5_run_165 (by decide) kk_1 rfl (pp_1_5 _) ?_
                  refine mV_iload f5_run_168 rfl ?_
                  obtain ⟨z3, hz3, hr⟩ := mBind hr
                  refine mV_ldO f5_run_170 (by decide) kk_41 hz3 ?_
                  refine mV_iload f5_run_171 rfl ?_
                  obtain ⟨z4, hz4, hr⟩ := mBind hr
                  refine mV_divO f5_run_173 hz4 ?_
                  refine mV_goto f5_run_174 ?_
                  have hr := Option.some.inj hr; subst hr
                  refine mV_drop (L' := [.ref 1, mX0, .int k2, .ref 15, .int y4, .int y5, mX0, mX0]) (mSub_k (mSub_x (mSub_k (mSub_k (mSub_k (mSub_k (mSub_x (mSub_x mSub_n)))))))) ?_
                  exact keyz2
              · rw [if_pos h5] at hr
                refine mV_push f5_run_147 ?_
                refine mV_aload f5_run_148 rfl ?_
                refine mV_getP f5_run_149 (by decide) kk_1 rfl (pp_1_5 _) ?_
                refine mV_iload f5_run_152 rfl ?_
                obtain ⟨z5, hz5, hr⟩ := mBind hr
                refine mV_ldO f5_run_154 (by decide) kk_41 hz5 ?_
                refine mV_isub f5_run_155 ?_
                refine mV_goto f5_run_156 ?_
                have hr := Option.some.inj hr; subst hr
                refine mV_drop (L' := [.ref 1, mX0, .int k2, .ref 15, .int y4, .int y5, mX0, mX0]) (mSub_k (mSub_x (mSub_k (mSub_k (mSub_k (mSub_k (mSub_x (mSub_x mSub_n)))))))) ?_
                exact keyz2
            · rw [if_neg h4] at hr
              refine mV_push f5_run_132 ?_
              have hr := Option.some.inj hr; subst hr; have hQ := hret _ rfl
              exact mV_iret rfl rfl f5_run_133 hQ
          · rw [if_neg h3] at hr
            refine mV_iload f5_run_120 rfl ?_
            refine mV_push f5_run_122 ?_
            refine mV_icmp_ne f5_run_124 (fun h7 => ?_) (fun h7 => ?_)
            · rw [if_neg h7] at hr
              refine mV_iload f5_run_182 rfl ?_
              refine mV_push f5_run_184 ?_
              refine mV_icmp_ge f5_run_185 (fun h8 => ?_) (fun h8 => ?_)
              · rw [if_pos h8] at hr
                refine mV_iinc (y := (y4 + (-1))) (L' := [.ref 1, mX0, .int k2, .ref 15, .int (y4 + (-1)), .int y5, .int (z0 &&& 15), .int ((z1 : Int32) >>> (4 &&& 31))]) f5_run_190 rfl rfl (by decide) rfl rfl ?_
                refine mV_aload f5_run_193 rfl ?_
                refine mV_getP f5_run_194 (by decide) kk_1 rfl (pp_1_5 _) ?_
                refine mV_iload f5_run_197 rfl ?_
                refine mV_iload f5_run_199 rfl ?_
                refine mV_aload f5_run_201 rfl ?_
                refine mV_getP f5_run_202 (by decide) kk_1 rfl (pp_1_5 _) ?_
                refine mV_iload f5_run_205 rfl ?_
                obtain ⟨z7, hz7, hr⟩ := mBind hr
                refine mV_ldO f5_run_207 (by decide) kk_41 hz7 ?_
                refine mV_aload f5_run_208 rfl ?_
                refine mV_getP f5_run_209 (by decide) kk_1 rfl (pp_1_5 _) ?_
                refine mV_iload f5_run_212 rfl ?_
                refine mV_push f5_run_214 ?_
                refine mV_iadd f5_run_215 ?_
                obtain ⟨z8, hz8, hr⟩ := mBind hr
                refine mV_ldO f5_run_216 (by decide) kk_41 hz8 ?_
                refine mV_cS f5_run_217 tg_m5_join (mC_deep (c5_join X I s (z0 &&& 15) z7 z8 rfl) (by decide)) rfl rfl (Nat.le_of_ble_eq_true rfl) ?_
                obtain ⟨z9, hz9, hr⟩ := mBind hr
                refine mV_stO f5_run_220 (by decide) kk_41 hz9 ?_
                refine mV_iinc (y := (y5 + 1)) (L' := [.ref 1, mX0, .int k2, .ref 15, .int (y4 + (-1)), .int (y5 + 1), .int (z0 &&& 15), .int ((z1 : Int32) >>> (4 &&& 31))]) f5_run_221 rfl rfl (by decide) rfl rfl ?_
                refine mV_goto f5_run_224 ?_
                refine mV_drop (L' := [.ref 1, mX0, .int k2, .ref 15, .int (y4 + (-1)), .int (y5 + 1), mX0, mX0]) (mSub_k (mSub_x (mSub_k (mSub_k (mSub_k (mSub_k (mSub_x (mSub_x mSub_n)))))))) ?_
                exact ih (y4 + (-1)) (y5 + 1) z9 _ hr hret hk
              · rw [if_neg h8] at hr
                refine mV_push f5_run_188 ?_
                have hr := Option.some.inj hr; subst hr; have hQ := hret _ rfl
                exact mV_iret rfl rfl f5_run_189 hQ
            · rw [if_pos h7] at hr
              refine mV_iload f5_run_127 rfl ?_
              refine mV_if_ge f5_run_129 (fun h9 => ?_) (fun h9 => ?_)
              · rw [if_pos h9] at hr
                refine mV_aload f5_run_134 rfl ?_
                refine mV_getP f5_run_135 (by decide) kk_1 rfl (pp_1_5 _) ?_
                refine mV_iload f5_run_138 rfl ?_
                refine mV_iload f5_run_140 rfl ?_
                refine mV_push f5_run_142 ?_
                obtain ⟨z10, hz10, hr⟩ := mBind hr
                have keyz10 : mV X m5_run 1 0 0 178 [.ref 1, mX0, .int k2, .ref 15, .int y4, .int y5, mX0, mX0] [.int z10, .int y4, .ref 41] NN KK I (PP s) Q := by
                  obtain ⟨z14, hz14, hr⟩ := mBind hr
                  refine mV_stO f5_run_178 (by decide) kk_41 hz14 ?_
                  refine mV_goto f5_run_179 ?_
                  refine mV_iinc (y := (y5 + 1)) (L' := [.ref 1, mX0, .int k2, .ref 15, .int y4, .int (y5 + 1), mX0, mX0]) f5_run_221 rfl rfl (by decide) rfl rfl ?_
                  refine mV_goto f5_run_224 ?_
                  exact ih y4 (y5 + 1) z14 _ hr hret hk
                clear hr
                have hr := hz10
                clear hz10
                refine mV_icmp_ne f5_run_144 (fun h10 => ?_) (fun h10 => ?_)
                · rw [if_neg h10] at hr
                  refine mV_iload f5_run_159 rfl ?_
                  refine mV_if_eq f5_run_161 (fun h11 => ?_) (fun h11 => ?_)
                  · rw [if_pos h11] at hr
                    refine mV_push f5_run_177 ?_
                    have hr := Option.some.inj hr; subst hr
                    refine mV_drop (L' := [.ref 1, mX0, .int k2, .ref 15, .int y4, .int y5, mX0, mX0]) (mSub_k (mSub_x (mSub_k (mSub_k (mSub_k (mSub_k (mSub_x (mSub_x mSub_n)))))))) ?_
                    exact keyz10
                  · rw [if_neg h11] at hr
                    refine mV_aload f5_run_164 rfl ?_
                    refine mV_getP f5_run_165 (by decide) kk_1 rfl (pp_1_5 _) ?_
                    refine mV_iload f5_run_168 rfl ?_
                    obtain ⟨z11, hz11, hr⟩ := mBind hr
                    refine mV_ldO f5_run_170 (by decide) kk_41 hz11 ?_
                    refine mV_iload f5_run_171 rfl ?_
                    obtain ⟨z12, hz12, hr⟩ := mBind hr
                    refine mV_divO f5_run_173 hz12 ?_
                    refine mV_goto f5_run_174 ?_
                    have hr := Option.some.inj hr; subst hr
                    refine mV_drop (L' := [.ref 1, mX0, .int k2, .ref 15, .int y4, .int y5, mX0, mX0]) (mSub_k (mSub_x (mSub_k (mSub_k (mSub_k (mSub_k (mSub_x (mSub_x mSub_n)))))))) ?_
                    exact keyz10
                · rw [if_pos h10] at hr
                  refine mV_push f5_run_147 ?_
                  refine mV_aload f5_run_148 rfl ?_
                  refine mV_getP f5_run_149 (by decide) kk_1 rfl (pp_1_5 _) ?_
                  refine mV_iload f5_run_152 rfl ?_
                  obtain ⟨z13, hz13, hr⟩ := mBind hr
                  refine mV_ldO f5_run_154 (by decide) kk_41 hz13 ?_
                  refine mV_isub f5_run_155 ?_
                  refine mV_goto f5_run_156 ?_
                  have hr := Option.some.inj hr; subst hr
                  refine mV_drop (L' := [.ref 1, mX0, .int k2, .ref 15, .int y4, .int y5, mX0, mX0]) (mSub_k (mSub_x (mSub_k (mSub_k (mSub_k (mSub_k (mSub_x (mSub_x mSub_n)))))))) ?_
                  exact keyz10
              · rw [if_neg h9] at hr
                refine mV_push f5_run_132 ?_
                have hr := Option.some.inj hr; subst hr; have hQ := hret _ rfl
                exact mV_iret rfl rfl f5_run_133 hQ
        · rw [if_neg h2] at hr
          refine mV_iload f5_run_62 rfl ?_
          refine mV_push f5_run_64 ?_
          refine mV_iadd f5_run_65 ?_
          refine mV_push f5_run_66 ?_
          refine mV_icmp_lt f5_run_68 (fun h12 => ?_) (fun h12 => ?_)
          · rw [if_pos h12] at hr
            refine mV_iinc (y := (y4 + 1)) (L' := [.ref 1, mX0, .int k2, .ref 15, .int (y4 + 1), .int y5, .int (z0 &&& 15), .int ((z1 : Int32) >>> (4 &&& 31))]) f5_run_73 rfl rfl (by decide) rfl rfl ?_
            refine mV_aload f5_run_76 rfl ?_
            refine mV_getP f5_run_77 (by decide) kk_1 rfl (pp_1_5 _) ?_
            refine mV_iload f5_run_80 rfl ?_
            refine mV_iload f5_run_82 rfl ?_
            obtain ⟨z15, hz15, hr⟩ := mBind hr
            have keyz15 : mV X m5_run 1 0 0 110 [.ref 1, mX0, .int k2, .ref 15, .int (y4 + 1), .int y5, mX0, mX0] [.int z15, .int (y4 + 1), .ref 41] NN KK I (PP s) Q := by
              obtain ⟨z17, hz17, hr⟩ := mBind hr
              refine mV_stO f5_run_110 (by decide) kk_41 hz17 ?_
              refine mV_goto f5_run_111 ?_
              refine mV_iinc (y := (y5 + 1)) (L' := [.ref 1, mX0, .int k2, .ref 15, .int (y4 + 1), .int (y5 + 1), mX0, mX0]) f5_run_221 rfl rfl (by decide) rfl rfl ?_
              refine mV_goto f5_run_224 ?_
              exact ih (y4 + 1) (y5 + 1) z17 _ hr hret hk
            clear hr
            have hr := hz15
            clear hz15
            refine mV_if_ne f5_run_84 (fun h13 => ?_) (fun h13 => ?_)
            · rw [if_neg h13] at hr
              refine mV_iload f5_run_92 rfl ?_
              refine mV_push f5_run_94 ?_
              refine mV_icmp_ge f5_run_96 (fun h14 => ?_) (fun h14 => ?_)
              · rw [if_pos h14] at hr
                refine mV_push f5_run_109 ?_
                have hr := Option.some.inj hr; subst hr
                refine mV_drop (L' := [.ref 1, mX0, .int k2, .ref 15, .int (y4 + 1), .int y5, mX0, mX0]) (mSub_k (mSub_x (mSub_k (mSub_k (mSub_k (mSub_k (mSub_x (mSub_x mSub_n)))))))) ?_
                exact keyz15
              · rw [if_neg h14] at hr
                refine mV_aload f5_run_99 rfl ?_
                refine mV_getP f5_run_100 (by decide) kk_1 rfl (pp_1_4 _) ?_
                refine mV_iload f5_run_103 rfl ?_
                obtain ⟨z16, hz16, hr⟩ := mBind hr
                refine mV_ldO f5_run_105 (by decide) kk_40 hz16 ?_
                refine mV_goto f5_run_106 ?_
                have hr := Option.some.inj hr; subst hr
                refine mV_drop (L' := [.ref 1, mX0, .int k2, .ref 15, .int (y4 + 1), .int y5, mX0, mX0]) (mSub_k (mSub_x (mSub_k (mSub_k (mSub_k (mSub_k (mSub_x (mSub_x mSub_n)))))))) ?_
                exact keyz15
            · rw [if_pos h13] at hr
              refine mV_iload f5_run_87 rfl ?_
              refine mV_goto f5_run_89 ?_
              have hr := Option.some.inj hr; subst hr
              refine mV_drop (L' := [.ref 1, mX0, .int k2, .ref 15, .int (y4 + 1), .int y5, mX0, mX0]) (mSub_k (mSub_x (mSub_k (mSub_k (mSub_k (mSub_k (mSub_x (mSub_x mSub_n)))))))) ?_
              exact keyz15
          · rw [if_neg h12] at hr
            refine mV_push f5_run_71 ?_
            have hr := Option.some.inj hr; subst hr; have hQ := hret _ rfl
            exact mV_iret rfl rfl f5_run_72 hQ
set_option maxHeartbeats 4000000 in
set_option maxRecDepth 100000 in
theorem w5_run (X : Nat × (Nat → Int32)) (I : mI) (s : Nat) (x0 : Int32) (x1 : Int32) (Q : mQ) {res : Int32 × mI} (hr : r5_run I x0 x1 = some res) (hQ : Q (some (.int res.1)) NN KK res.2 (PP s)) : mV X m5_run 1 0 0 0 [.ref 1, .int x0, .int x1, mX0, mX0, mX0, mX0, mX0] [] NN KK I (PP s) Q := by
  unfold r5_run at hr
  refine mV_aload f5_run_0 rfl ?_
  refine mV_getP f5_run_1 (by decide) kk_1 rfl (pp_1_0 _) ?_
  refine mV_getP f5_run_4 (by decide) kk_2 rfl (pp_2_2 _) ?_
  refine mV_astore (L' := [.ref 1, .int x0, .int x1, .ref 15, mX0, mX0, mX0, mX0]) f5_run_7 (by decide) rfl rfl ?_
  refine mV_push f5_run_8 ?_
  refine mV_istore (L' := [.ref 1, .int x0, .int x1, .ref 15, .int (-1), mX0, mX0, mX0]) f5_run_9 (by decide) rfl rfl ?_
  refine mV_push f5_run_11 ?_
  refine mV_iload f5_run_12 rfl ?_
  refine mV_maxC fm5_run_13 (Nat.le_of_ble_eq_true rfl) ?_
  refine mV_istore (L' := [.ref 1, .int x0, .int x1, .ref 15, .int (-1), .int (mMax 0 x0), mX0, mX0]) f5_run_16 (by decide) rfl rfl ?_
  obtain ⟨z0, hz0, hr⟩ := mBind hr
  refine mV_drop (L' := [.ref 1, mX0, .int x1, .ref 15, .int (-1), .int (mMax 0 x0), mX0, mX0]) (mSub_k (mSub_x (mSub_k (mSub_k (mSub_k (mSub_k (mSub_x (mSub_x mSub_n)))))))) ?_
  refine t5_run_18 X Q s x1 FU (-1) (mMax 0 x0) I _ hz0 (fun res ez0 => ?_) (fun wz0 ez0 => ?_)
  · rw [ez0] at hr; have hr := Option.some.inj hr; subst hr; exact hQ
  rw [ez0] at hr
  dsimp only at hr
  refine mV_iload f5_run_227 rfl ?_
  obtain ⟨z1, hz1, hr⟩ := mBind hr
  have keyz1 : mV X m5_run 1 0 0 242 [.ref 1, mX0, mX0, .ref 15, mX0, mX0, mX0, mX0] [.int z1] NN KK wz0.2 (PP s) Q := by
    have hr := Option.some.inj hr; subst hr
    exact mV_iret rfl rfl f5_run_242 hQ
  clear hr
  have hr := hz1
  clear hz1
  refine mV_if_ne f5_run_229 (fun h0 => ?_) (fun h0 => ?_)
  · rw [if_neg h0] at hr
    refine mV_push f5_run_241 ?_
    have hr := Option.some.inj hr; subst hr
    refine mV_drop (L' := [.ref 1, mX0, mX0, .ref 15, mX0, mX0, mX0, mX0]) (mSub_k (mSub_x (mSub_x (mSub_k (mSub_x (mSub_x (mSub_x (mSub_x mSub_n)))))))) ?_
    exact keyz1
  · rw [if_pos h0] at hr
    refine mV_aload f5_run_232 rfl ?_
    refine mV_getP f5_run_233 (by decide) kk_1 rfl (pp_1_5 _) ?_
    refine mV_push f5_run_236 ?_
    refine mV_ld (wz0.2 41 0) 0 f5_run_237 (by decide) kk_41 (by decide) rfl ?_
    refine mV_goto f5_run_238 ?_
    have hr := Option.some.inj hr; subst hr
    refine mV_drop (L' := [.ref 1, mX0, mX0, .ref 15, mX0, mX0, mX0, mX0]) (mSub_k (mSub_x (mSub_x (mSub_k (mSub_x (mSub_x (mSub_x (mSub_x mSub_n)))))))) ?_
    exact keyz1
theorem c5_run (X : Nat × (Nat → Int32)) (I : mI) (s : Nat) (x0 : Int32) (x1 : Int32) {res : Int32 × mI} (hr : r5_run I x0 x1 = some res) : mC X m5_run 1 0 0 [.ref 1, .int x0, .int x1] NN KK I (PP s) (mRet (some (.int res.1)) NN KK res.2 (PP s)) :=
  mC_of (L0 := [.ref 1, .int x0, .int x1, mX0, mX0, mX0, mX0, mX0]) rfl (Nat.le_of_ble_eq_true rfl) (w5_run X I s x0 x1 _ hr (mRet_ok _ _ _ _ _))
def r5_withoutLaw (I : mI) (x0 : Int32) : Int32 := if (x0 : Int32) = 0 then ((I 40 0 + I 40 2) - I 40 3) else if (x0 : Int32) = 1 then I 40 4 else (3 + I 40 8)
set_option maxHeartbeats 4000000 in
set_option maxRecDepth 100000 in
theorem w5_withoutLaw (X : Nat × (Nat → Int32)) (I : mI) (s : Nat) (x0 : Int32) (Q : mQ) {res : Int32} (hr : r5_withoutLaw I x0 = res) (hQ : Q (some (.int res)) NN KK I (PP s)) : mV X m5_withoutLaw 0 0 0 0 [.ref 1, .int x0] [] NN KK I (PP s) Q := by
  unfold r5_withoutLaw at hr
  refine mV_iload f5_withoutLaw_0 rfl ?_
  by_cases h0 : x0 = 0
  · rw [if_pos h0] at hr
    refine mV_lookEq (v := 0) f5_withoutLaw_1 (by decide) h0 (by decide) (by decide : (1 : Int) + 27 = (28 : Nat)) ?_
    refine mV_aload f5_withoutLaw_28 rfl ?_
    refine mV_getP f5_withoutLaw_29 (by decide) kk_1 rfl (pp_1_4 _) ?_
    refine mV_push f5_withoutLaw_32 ?_
    refine mV_ld (I 40 0) 0 f5_withoutLaw_33 (by decide) kk_40 (by decide) rfl ?_
    refine mV_aload f5_withoutLaw_34 rfl ?_
    refine mV_getP f5_withoutLaw_35 (by decide) kk_1 rfl (pp_1_4 _) ?_
    refine mV_push f5_withoutLaw_38 ?_
    refine mV_ld (I 40 2) 2 f5_withoutLaw_39 (by decide) kk_40 (by decide) rfl ?_
    refine mV_iadd f5_withoutLaw_40 ?_
    refine mV_aload f5_withoutLaw_41 rfl ?_
    refine mV_getP f5_withoutLaw_42 (by decide) kk_1 rfl (pp_1_4 _) ?_
    refine mV_push f5_withoutLaw_45 ?_
    refine mV_ld (I 40 3) 3 f5_withoutLaw_46 (by decide) kk_40 (by decide) rfl ?_
    refine mV_isub f5_withoutLaw_47 ?_
    subst hr
    exact mV_iret rfl rfl f5_withoutLaw_48 hQ
  rw [if_neg h0] at hr
  by_cases h1 : x0 = 1
  · rw [if_pos h1] at hr
    refine mV_lookEq (v := 1) f5_withoutLaw_1 (by decide) h1 (by decide) (by decide : (1 : Int) + 48 = (49 : Nat)) ?_
    refine mV_aload f5_withoutLaw_49 rfl ?_
    refine mV_getP f5_withoutLaw_50 (by decide) kk_1 rfl (pp_1_4 _) ?_
    refine mV_push f5_withoutLaw_53 ?_
    refine mV_ld (I 40 4) 4 f5_withoutLaw_54 (by decide) kk_40 (by decide) rfl ?_
    subst hr
    exact mV_iret rfl rfl f5_withoutLaw_55 hQ
  rw [if_neg h1] at hr
  refine mV_lookNo f5_withoutLaw_1 (by decide) [0, 1] (by decide) (List.forall_mem_cons.mpr ⟨h0, (List.forall_mem_cons.mpr ⟨h1, (fun _ hc => absurd hc List.not_mem_nil)⟩)⟩) (by decide : (1 : Int) + 55 = (56 : Nat)) ?_
  refine mV_push f5_withoutLaw_56 ?_
  refine mV_aload f5_withoutLaw_57 rfl ?_
  refine mV_getP f5_withoutLaw_58 (by decide) kk_1 rfl (pp_1_4 _) ?_
  refine mV_push f5_withoutLaw_61 ?_
  refine mV_ld (I 40 8) 8 f5_withoutLaw_63 (by decide) kk_40 (by decide) rfl ?_
  refine mV_iadd f5_withoutLaw_64 ?_
  subst hr
  exact mV_iret rfl rfl f5_withoutLaw_65 hQ
theorem c5_withoutLaw (X : Nat × (Nat → Int32)) (I : mI) (s : Nat) (x0 : Int32) {res : Int32} (hr : r5_withoutLaw I x0 = res) : mC X m5_withoutLaw 0 0 0 [.ref 1, .int x0] NN KK I (PP s) (mRet (some (.int res)) NN KK I (PP s)) :=
  mC_of (L0 := [.ref 1, .int x0]) rfl (Nat.le_of_ble_eq_true rfl) (w5_withoutLaw X I s x0 _ hr (mRet_ok _ _ _ _ _))
def l5_ask_42 (s : Nat) (k1 : Int32) : Nat → Int32 → Int32 → Int32 → mI → Option (Int32 × Int32 × mI)
  | 0, _, _, _, _ => none
  | f + 1, y3, y4, y5, I => if (I 15 2 : Int32) ≤ (y5 : Int32) then some (y3, y4, I) else if (y3 : Int32) = (0 : Int32) then (r6_cell_15 I y5 0).bind fun z0 => (if (z0 : Int32) = (k1 : Int32) then (r6_cell_15 I y5 2).bind fun z2 => (r6_cell_15 I y5 3).bind fun z3 => (if (z2 : Int32) = (z3 : Int32) then some (1, I) else (r5_run I z2 z3).bind fun z5 => if (z5.1 : Int32) = (0 : Int32) then some (0, z5.2) else some (1, z5.2) : Option (Int32 × mI)).bind fun z4 => (if (z4.1 : Int32) = (0 : Int32) then some (0, z4.2) else (r6_cell_15 z4.2 y5 1).bind fun z7 => (r5_run z4.2 z7 z2).bind fun z8 => some (z8.1, z8.2) : Option (Int32 × mI)).bind fun z6 => some (z4.1, z6.1, z6.2) else some (y3, y4, I) : Option (Int32 × Int32 × mI)).bind fun z1 => l5_ask_42 s k1 f z1.1 z1.2.1 (y5 + 1) z1.2.2 else some (y3, y4, I)
def r5_ask (I : mI) (s : Nat) (x0 : Int32) : Option (Int32 × mI) := (l5_ask_42 s x0 FU 0 0 0 (mW (mW I 40 4 (I s 4)) 40 5 ((mW I 40 4 (I s 4)) s 5))).bind fun z0 => (if (x0 : Int32) = (1 : Int32) then some 1000 else some 99 : Option (Int32)).bind fun z1 => (if (z0.1 : Int32) = (0 : Int32) then some (r5_withoutLaw z0.2.2 x0) else some z0.2.1 : Option (Int32)).bind fun z2 => some ((mMax 0 (mMin z1 z2)), z0.2.2)
set_option maxHeartbeats 4000000 in
set_option maxRecDepth 100000 in
theorem t5_ask_42 (X : Nat × (Nat → Int32)) (Q : mQ) (s : Nat) (hs : mStg s) (k1 : Int32) : ∀ (f : Nat) (y3 : Int32) (y4 : Int32) (y5 : Int32) (I : mI) (z : Int32 × Int32 × mI), l5_ask_42 s k1 f y3 y4 y5 I = some z → mV X m5_ask 2 0 0 137 [.ref 1, .int k1, .ref 15, .int z.1, .int z.2.1, mX0, mX0, mX0] [] NN KK z.2.2 (PP s) Q → mV X m5_ask 2 0 0 42 [.ref 1, .int k1, .ref 15, .int y3, .int y4, .int y5, mX0, mX0] [] NN KK I (PP s) Q := by
  intro f
  induction f with
  | zero => intro y3 y4 y5 I z hr hk; cases hr
  | succ f ih =>
    intro y3 y4 y5 I z hr hk
    unfold l5_ask_42 at hr
    refine mV_iload f5_ask_42 rfl ?_
    refine mV_aload f5_ask_44 rfl ?_
    refine mV_gI (I 15 2) f5_ask_45 (by decide) kk_15 rfl rfl ?_
    refine mV_icmp_ge f5_ask_48 (fun h0 => ?_) (fun h0 => ?_)
    · rw [if_pos h0] at hr
      have hr := Option.some.inj hr; subst hr
      refine mV_drop (L' := [.ref 1, .int k1, .ref 15, .int y3, .int y4, mX0, mX0, mX0]) (mSub_k (mSub_k (mSub_k (mSub_k (mSub_k (mSub_x (mSub_x (mSub_x mSub_n)))))))) ?_
      exact hk
    · rw [if_neg h0] at hr
      refine mV_iload f5_ask_51 rfl ?_
      refine mV_if_ne f5_ask_52 (fun h1 => ?_) (fun h1 => ?_)
      · rw [if_neg h1] at hr
        have hr := Option.some.inj hr; subst hr
        refine mV_drop (L' := [.ref 1, .int k1, .ref 15, .int y3, .int y4, mX0, mX0, mX0]) (mSub_k (mSub_k (mSub_k (mSub_k (mSub_k (mSub_x (mSub_x (mSub_x mSub_n)))))))) ?_
        exact hk
      · rw [if_pos h1] at hr
        refine mV_aload f5_ask_55 rfl ?_
        refine mV_iload f5_ask_56 rfl ?_
        refine mV_push f5_ask_58 ?_
        obtain ⟨z0, hz0, hr⟩ := mBind hr
        refine mV_cV f5_ask_59 tg_m6_cell mCls6 (by decide) kk_15 (mC_deep (c6_cell_15 X I s y5 0 hz0) (by decide)) rfl rfl (Nat.le_of_ble_eq_true rfl) ?_
        refine mV_iload f5_ask_62 rfl ?_
        obtain ⟨z1, hz1, hr⟩ := mBind hr
        have keyz1 : mV X m5_ask 2 0 0 131 [.ref 1, .int k1, .ref 15, .int z1.1, .int z1.2.1, .int y5, mX0, mX0] [] NN KK z1.2.2 (PP s) Q := by
          refine mV_iinc (y := (y5 + 1)) (L' := [.ref 1, .int k1, .ref 15, .int z1.1, .int z1.2.1, .int (y5 + 1), mX0, mX0]) f5_ask_131 rfl rfl (by decide) rfl rfl ?_
          refine mV_goto f5_ask_134 ?_
          exact ih z1.1 z1.2.1 (y5 + 1) z1.2.2 _ hr hk
        clear hr
        have hr := hz1
        clear hz1
        refine mV_icmp_ne f5_ask_63 (fun h2 => ?_) (fun h2 => ?_)
        · rw [if_neg h2] at hr
          have hr := Option.some.inj hr; subst hr
          exact keyz1
        · rw [if_pos h2] at hr
          refine mV_aload f5_ask_66 rfl ?_
          refine mV_iload f5_ask_67 rfl ?_
          refine mV_push f5_ask_69 ?_
          obtain ⟨z2, hz2, hr⟩ := mBind hr
          refine mV_cV f5_ask_70 tg_m6_cell mCls6 (by decide) kk_15 (mC_deep (c6_cell_15 X I s y5 2 hz2) (by decide)) rfl rfl (Nat.le_of_ble_eq_true rfl) ?_
          refine mV_istore (L' := [.ref 1, .int k1, .ref 15, .int y3, .int y4, .int y5, .int z2, mX0]) f5_ask_73 (by decide) rfl rfl ?_
          refine mV_aload f5_ask_75 rfl ?_
          refine mV_iload f5_ask_76 rfl ?_
          refine mV_push f5_ask_78 ?_
          obtain ⟨z3, hz3, hr⟩ := mBind hr
          refine mV_cV f5_ask_79 tg_m6_cell mCls6 (by decide) kk_15 (mC_deep (c6_cell_15 X I s y5 3 hz3) (by decide)) rfl rfl (Nat.le_of_ble_eq_true rfl) ?_
          refine mV_istore (L' := [.ref 1, .int k1, .ref 15, .int y3, .int y4, .int y5, .int z2, .int z3]) f5_ask_82 (by decide) rfl rfl ?_
          refine mV_iload f5_ask_84 rfl ?_
          refine mV_iload f5_ask_86 rfl ?_
          obtain ⟨z4, hz4, hr⟩ := mBind hr
          have keyz4 : mV X m5_ask 2 0 0 107 [.ref 1, .int k1, .ref 15, mX0, mX0, .int y5, .int z2, mX0] [.int z4.1] NN KK z4.2 (PP s) Q := by
            refine mV_istore (L' := [.ref 1, .int k1, .ref 15, .int z4.1, mX0, .int y5, .int z2, mX0]) f5_ask_107 (by decide) rfl rfl ?_
            refine mV_iload f5_ask_108 rfl ?_
            obtain ⟨z6, hz6, hr⟩ := mBind hr
            have keyz6 : mV X m5_ask 2 0 0 129 [.ref 1, .int k1, .ref 15, .int z4.1, mX0, .int y5, mX0, mX0] [.int z6.1] NN KK z6.2 (PP s) Q := by
              refine mV_istore (L' := [.ref 1, .int k1, .ref 15, .int z4.1, .int z6.1, .int y5, mX0, mX0]) f5_ask_129 (by decide) rfl rfl ?_
              have hr := Option.some.inj hr; subst hr
              exact keyz1
            clear hr
            have hr := hz6
            clear hz6
            refine mV_if_eq f5_ask_109 (fun h5 => ?_) (fun h5 => ?_)
            · rw [if_pos h5] at hr
              refine mV_push f5_ask_128 ?_
              have hr := Option.some.inj hr; subst hr
              refine mV_drop (L' := [.ref 1, .int k1, .ref 15, .int z4.1, mX0, .int y5, mX0, mX0]) (mSub_k (mSub_k (mSub_k (mSub_k (mSub_x (mSub_k (mSub_x (mSub_x mSub_n)))))))) ?_
              exact keyz6
            · rw [if_neg h5] at hr
              refine mV_aload f5_ask_112 rfl ?_
              refine mV_aload f5_ask_113 rfl ?_
              refine mV_iload f5_ask_114 rfl ?_
              refine mV_push f5_ask_116 ?_
              obtain ⟨z7, hz7, hr⟩ := mBind hr
              refine mV_cV f5_ask_117 tg_m6_cell mCls6 (by decide) kk_15 (mC_deep (c6_cell_15 X z4.2 s y5 1 hz7) (by decide)) rfl rfl (Nat.le_of_ble_eq_true rfl) ?_
              refine mV_iload f5_ask_120 rfl ?_
              obtain ⟨z8, hz8, hr⟩ := mBind hr
              refine mV_cV f5_ask_122 tg_m5_run mCls5 (by decide) kk_1 (mC_deep (c5_run X z4.2 s z7 z2 hz8) (by decide)) rfl rfl (Nat.le_of_ble_eq_true rfl) ?_
              refine mV_goto f5_ask_125 ?_
              have hr := Option.some.inj hr; subst hr
              refine mV_drop (L' := [.ref 1, .int k1, .ref 15, .int z4.1, mX0, .int y5, mX0, mX0]) (mSub_k (mSub_k (mSub_k (mSub_k (mSub_x (mSub_k (mSub_x (mSub_x mSub_n)))))))) ?_
              exact keyz6
          clear hr
          have hr := hz4
          clear hz4
          refine mV_icmp_eq f5_ask_88 (fun h3 => ?_) (fun h3 => ?_)
          · rw [if_pos h3] at hr
            refine mV_push f5_ask_102 ?_
            refine mV_goto f5_ask_103 ?_
            have hr := Option.some.inj hr; subst hr
            refine mV_drop (L' := [.ref 1, .int k1, .ref 15, mX0, mX0, .int y5, .int z2, mX0]) (mSub_k (mSub_k (mSub_k (mSub_x (mSub_x (mSub_k (mSub_k (mSub_x mSub_n)))))))) ?_
            exact keyz4
          · rw [if_neg h3] at hr
            refine mV_aload f5_ask_91 rfl ?_
            refine mV_iload f5_ask_92 rfl ?_
            refine mV_iload f5_ask_94 rfl ?_
            obtain ⟨z5, hz5, hr⟩ := mBind hr
            refine mV_cV f5_ask_96 tg_m5_run mCls5 (by decide) kk_1 (mC_deep (c5_run X I s z2 z3 hz5) (by decide)) rfl rfl (Nat.le_of_ble_eq_true rfl) ?_
            refine mV_if_eq f5_ask_99 (fun h4 => ?_) (fun h4 => ?_)
            · rw [if_pos h4] at hr
              refine mV_push f5_ask_106 ?_
              have hr := Option.some.inj hr; subst hr
              refine mV_drop (L' := [.ref 1, .int k1, .ref 15, mX0, mX0, .int y5, .int z2, mX0]) (mSub_k (mSub_k (mSub_k (mSub_x (mSub_x (mSub_k (mSub_k (mSub_x mSub_n)))))))) ?_
              exact keyz4
            · rw [if_neg h4] at hr
              refine mV_push f5_ask_102 ?_
              refine mV_goto f5_ask_103 ?_
              have hr := Option.some.inj hr; subst hr
              refine mV_drop (L' := [.ref 1, .int k1, .ref 15, mX0, mX0, .int y5, .int z2, mX0]) (mSub_k (mSub_k (mSub_k (mSub_x (mSub_x (mSub_k (mSub_k (mSub_x mSub_n)))))))) ?_
              exact keyz4
set_option maxHeartbeats 4000000 in
set_option maxRecDepth 100000 in
theorem w5_ask (X : Nat × (Nat → Int32)) (I : mI) (s : Nat) (hs : mStg s) (x0 : Int32) (Q : mQ) {res : Int32 × mI} (hr : r5_ask I s x0 = some res) (hQ : Q (some (.int res.1)) NN KK res.2 (PP s)) : mV X m5_ask 2 0 0 0 [.ref 1, .int x0, mX0, mX0, mX0, mX0, mX0, mX0] [] NN KK I (PP s) Q := by
  unfold r5_ask at hr
  refine mV_aload f5_ask_0 rfl ?_
  refine mV_getP f5_ask_1 (by decide) kk_1 rfl (pp_1_4 _) ?_
  refine mV_push f5_ask_4 ?_
  refine mV_aload f5_ask_5 rfl ?_
  refine mV_getP f5_ask_6 (by decide) kk_1 rfl (pp_1_2 _) ?_
  refine mV_gI (I s 4) f5_ask_9 hs.l0 hs.1.2.1 rfl rfl ?_
  refine mV_sto 4 f5_ask_12 (by decide) kk_40 (by decide) ?_
  refine mV_aload f5_ask_13 rfl ?_
  refine mV_getP f5_ask_14 (by decide) kk_1 rfl (pp_1_4 _) ?_
  refine mV_push f5_ask_17 ?_
  refine mV_aload f5_ask_18 rfl ?_
  refine mV_getP f5_ask_19 (by decide) kk_1 rfl (pp_1_2 _) ?_
  refine mV_gI ((mW I 40 4 (I s 4)) s 5) f5_ask_22 hs.l0 hs.1.2.1 rfl rfl ?_
  refine mV_sto 5 f5_ask_25 (by decide) kk_40 (by decide) ?_
  refine mV_aload f5_ask_26 rfl ?_
  refine mV_getP f5_ask_27 (by decide) kk_1 rfl (pp_1_0 _) ?_
  refine mV_getP f5_ask_30 (by decide) kk_2 rfl (pp_2_2 _) ?_
  refine mV_astore (L' := [.ref 1, .int x0, .ref 15, mX0, mX0, mX0, mX0, mX0]) f5_ask_33 (by decide) rfl rfl ?_
  refine mV_push f5_ask_34 ?_
  refine mV_istore (L' := [.ref 1, .int x0, .ref 15, .int 0, mX0, mX0, mX0, mX0]) f5_ask_35 (by decide) rfl rfl ?_
  refine mV_push f5_ask_36 ?_
  refine mV_istore (L' := [.ref 1, .int x0, .ref 15, .int 0, .int 0, mX0, mX0, mX0]) f5_ask_37 (by decide) rfl rfl ?_
  refine mV_push f5_ask_39 ?_
  refine mV_istore (L' := [.ref 1, .int x0, .ref 15, .int 0, .int 0, .int 0, mX0, mX0]) f5_ask_40 (by decide) rfl rfl ?_
  obtain ⟨z0, hz0, hr⟩ := mBind hr
  refine t5_ask_42 X Q s hs x0 FU 0 0 0 (mW (mW I 40 4 (I s 4)) 40 5 ((mW I 40 4 (I s 4)) s 5)) _ hz0 ?_
  refine mV_iload f5_ask_137 rfl ?_
  refine mV_push f5_ask_138 ?_
  obtain ⟨z1, hz1, hr⟩ := mBind hr
  have keyz1 : mV X m5_ask 2 0 0 150 [.ref 1, .int x0, .ref 15, .int z0.1, .int z0.2.1, mX0, mX0, mX0] [.int z1] NN KK z0.2.2 (PP s) Q := by
    refine mV_istore (L' := [.ref 1, .int x0, .ref 15, .int z0.1, .int z0.2.1, .int z1, mX0, mX0]) f5_ask_150 (by decide) rfl rfl ?_
    refine mV_push f5_ask_152 ?_
    refine mV_iload f5_ask_153 rfl ?_
    refine mV_iload f5_ask_155 rfl ?_
    obtain ⟨z2, hz2, hr⟩ := mBind hr
    have keyz2 : mV X m5_ask 2 0 0 169 [.ref 1, mX0, .ref 15, mX0, mX0, mX0, mX0, mX0] [.int z2, .int z1, .int 0] NN KK z0.2.2 (PP s) Q := by
      refine mV_minC fm5_ask_169 (Nat.le_of_ble_eq_true rfl) ?_
      refine mV_maxC fm5_ask_172 (Nat.le_of_ble_eq_true rfl) ?_
      have hr := Option.some.inj hr; subst hr
      exact mV_iret rfl rfl f5_ask_175 hQ
    clear hr
    have hr := hz2
    clear hz2
    refine mV_if_eq f5_ask_156 (fun h1 => ?_) (fun h1 => ?_)
    · rw [if_pos h1] at hr
      refine mV_aload f5_ask_164 rfl ?_
      refine mV_iload f5_ask_165 rfl ?_
      refine mV_cV f5_ask_166 tg_m5_withoutLaw mCls5 (by decide) kk_1 (mC_deep (c5_withoutLaw X z0.2.2 s x0 rfl) (by decide)) rfl rfl (Nat.le_of_ble_eq_true rfl) ?_
      have hr := Option.some.inj hr; subst hr
      refine mV_drop (L' := [.ref 1, mX0, .ref 15, mX0, mX0, mX0, mX0, mX0]) (mSub_k (mSub_x (mSub_k (mSub_x (mSub_x (mSub_x (mSub_x (mSub_x mSub_n)))))))) ?_
      exact keyz2
    · rw [if_neg h1] at hr
      refine mV_iload f5_ask_159 rfl ?_
      refine mV_goto f5_ask_161 ?_
      have hr := Option.some.inj hr; subst hr
      refine mV_drop (L' := [.ref 1, mX0, .ref 15, mX0, mX0, mX0, mX0, mX0]) (mSub_k (mSub_x (mSub_k (mSub_x (mSub_x (mSub_x (mSub_x (mSub_x mSub_n)))))))) ?_
      exact keyz2
  clear hr
  have hr := hz1
  clear hz1
  refine mV_icmp_ne f5_ask_139 (fun h0 => ?_) (fun h0 => ?_)
  · rw [if_neg h0] at hr
    refine mV_push f5_ask_148 ?_
    have hr := Option.some.inj hr; subst hr
    exact keyz1
  · rw [if_pos h0] at hr
    refine mV_push f5_ask_142 ?_
    refine mV_goto f5_ask_145 ?_
    have hr := Option.some.inj hr; subst hr
    exact keyz1
theorem c5_ask (X : Nat × (Nat → Int32)) (I : mI) (s : Nat) (hs : mStg s) (x0 : Int32) {res : Int32 × mI} (hr : r5_ask I s x0 = some res) : mC X m5_ask 2 0 0 [.ref 1, .int x0] NN KK I (PP s) (mRet (some (.int res.1)) NN KK res.2 (PP s)) :=
  mC_of (L0 := [.ref 1, .int x0, mX0, mX0, mX0, mX0, mX0, mX0]) rfl (Nat.le_of_ble_eq_true rfl) (w5_ask X I s hs x0 _ hr (mRet_ok _ _ _ _ _))
def r7_addWater (I : mI) (a : Nat) (x0 : Int32) : Option (mI) := some (mW I a 4 (mMin 999 (I a 4 + x0)))
set_option maxHeartbeats 4000000 in
set_option maxRecDepth 100000 in
theorem w7_addWater (X : Nat × (Nat → Int32)) (I : mI) (s : Nat) (a : Nat) (ha : mStg a) (x0 : Int32) (Q : mQ) {res : mI} (hr : r7_addWater I a x0 = some res) (hQ : Q none NN KK res (PP s)) : mV X m7_addWater 1 0 0 0 [.ref a, .int x0] [] NN KK I (PP s) Q := by
  unfold r7_addWater at hr
  refine mV_aload f7_addWater_0 rfl ?_
  refine mV_push f7_addWater_1 ?_
  refine mV_aload f7_addWater_4 rfl ?_
  refine mV_gI (I a 4) f7_addWater_5 ha.l0 ha.1.2.1 rfl rfl ?_
  refine mV_iload f7_addWater_8 rfl ?_
  refine mV_iadd f7_addWater_9 ?_
  refine mV_minC fm7_addWater_10 (Nat.le_of_ble_eq_true rfl) ?_
  refine mV_putI f7_addWater_13 ha.l0 ha.1.2.1 rfl rfl ?_
  have hr := Option.some.inj hr; subst hr
  exact mV_vret rfl f7_addWater_16 hQ
theorem c7_addWater (X : Nat × (Nat → Int32)) (I : mI) (s : Nat) (a : Nat) (ha : mStg a) (x0 : Int32) {res : mI} (hr : r7_addWater I a x0 = some res) : mC X m7_addWater 1 0 0 [.ref a, .int x0] NN KK I (PP s) (mRet none NN KK res (PP s)) :=
  mC_of (L0 := [.ref a, .int x0]) rfl (Nat.le_of_ble_eq_true rfl) (w7_addWater X I s a ha x0 _ hr (mRet_ok _ _ _ _ _))
def r7_drawBelow (I : mI) (a : Nat) (x0 : Int32) : Option (Int32 × mI) := (if (x0 : Int32) ≤ (0 : Int32) then some 0 else (mRemO (mUsh ((1664525 * I a 11) + 1013904223) 8) x0).bind fun z1 => some z1 : Option (Int32)).bind fun z0 => some (z0, (mW I a 11 ((1664525 * I a 11) + 1013904223)))
set_option maxHeartbeats 4000000 in
set_option maxRecDepth 100000 in
theorem w7_drawBelow (X : Nat × (Nat → Int32)) (I : mI) (s : Nat) (a : Nat) (ha : mStg a) (x0 : Int32) (Q : mQ) {res : Int32 × mI} (hr : r7_drawBelow I a x0 = some res) (hQ : Q (some (.int res.1)) NN KK res.2 (PP s)) : mV X m7_drawBelow 0 0 0 0 [.ref a, .int x0] [] NN KK I (PP s) Q := by
  unfold r7_drawBelow at hr
  refine mV_aload f7_drawBelow_0 rfl ?_
  refine mV_push f7_drawBelow_1 ?_
  refine mV_aload f7_drawBelow_3 rfl ?_
  refine mV_gI (I a 11) f7_drawBelow_4 ha.l0 ha.1.2.1 rfl rfl ?_
  refine mV_imul f7_drawBelow_7 ?_
  refine mV_push f7_drawBelow_8 ?_
  refine mV_iadd f7_drawBelow_10 ?_
  refine mV_putI f7_drawBelow_11 ha.l0 ha.1.2.1 rfl rfl ?_
  refine mV_iload f7_drawBelow_14 rfl ?_
  obtain ⟨z0, hz0, hr⟩ := mBind hr
  have keyz0 : mV X m7_drawBelow 0 0 0 31 [.ref a, mX0] [.int z0] NN KK (mW I a 11 ((1664525 * I a 11) + 1013904223)) (PP s) Q := by
    have hr := Option.some.inj hr; subst hr
    exact mV_iret rfl rfl f7_drawBelow_31 hQ
  clear hr
  have hr := hz0
  clear hz0
  refine mV_if_le f7_drawBelow_15 (fun h0 => ?_) (fun h0 => ?_)
  · rw [if_pos h0] at hr
    refine mV_push f7_drawBelow_30 ?_
    have hr := Option.some.inj hr; subst hr
    refine mV_drop (L' := [.ref a, mX0]) (mSub_k (mSub_x mSub_n)) ?_
    exact keyz0
  · rw [if_neg h0] at hr
    refine mV_aload f7_drawBelow_18 rfl ?_
    refine mV_gI ((1664525 * I a 11) + 1013904223) f7_drawBelow_19 ha.l0 ha.1.2.1 rfl (by simp [mW, mU]) ?_
    refine mV_push f7_drawBelow_22 ?_
    refine mV_ushC f7_drawBelow_24 ?_
    refine mV_iload f7_drawBelow_25 rfl ?_
    obtain ⟨z1, hz1, hr⟩ := mBind hr
    refine mV_remO f7_drawBelow_26 hz1 ?_
    refine mV_goto f7_drawBelow_27 ?_
    have hr := Option.some.inj hr; subst hr
    refine mV_drop (L' := [.ref a, mX0]) (mSub_k (mSub_x mSub_n)) ?_
    exact keyz0
theorem c7_drawBelow (X : Nat × (Nat → Int32)) (I : mI) (s : Nat) (a : Nat) (ha : mStg a) (x0 : Int32) {res : Int32 × mI} (hr : r7_drawBelow I a x0 = some res) : mC X m7_drawBelow 0 0 0 [.ref a, .int x0] NN KK I (PP s) (mRet (some (.int res.1)) NN KK res.2 (PP s)) :=
  mC_of (L0 := [.ref a, .int x0]) rfl (Nat.le_of_ble_eq_true rfl) (w7_drawBelow X I s a ha x0 _ hr (mRet_ok _ _ _ _ _))
def r7_flatten (I : mI) (a : Nat) (x0 : Int32) : Option (mI) := (if (x0 : Int32) < (0 : Int32) then some I else if (8 : Int32) ≤ (x0 : Int32) then some I else (mLd I (a + 4) 8 x0).bind fun z1 => (mSto I (a + 4) 8 x0 (mMin 50 (z1 + 1))).bind fun z2 => some z2 : Option (mI)).bind fun z0 => some z0
set_option maxHeartbeats 4000000 in
set_option maxRecDepth 100000 in
theorem w7_flatten (X : Nat × (Nat → Int32)) (I : mI) (s : Nat) (a : Nat) (ha : mStg a) (x0 : Int32) (Q : mQ) {res : mI} (hr : r7_flatten I a x0 = some res) (hQ : Q none NN KK res (PP s)) : mV X m7_flatten 1 0 0 0 [.ref a, .int x0] [] NN KK I (PP s) Q := by
  unfold r7_flatten at hr
  refine mV_iload f7_flatten_0 rfl ?_
  obtain ⟨z0, hz0, hr⟩ := mBind hr
  have keyz0 : mV X m7_flatten 1 0 0 29 [.ref a, mX0] [] NN KK z0 (PP s) Q := by
    have hr := Option.some.inj hr; subst hr
    exact mV_vret rfl f7_flatten_29 hQ
  clear hr
  have hr := hz0
  clear hz0
  refine mV_if_lt f7_flatten_1 (fun h0 => ?_) (fun h0 => ?_)
  · rw [if_pos h0] at hr
    have hr := Option.some.inj hr; subst hr
    refine mV_drop (L' := [.ref a, mX0]) (mSub_k (mSub_x mSub_n)) ?_
    exact keyz0
  · rw [if_neg h0] at hr
    refine mV_iload f7_flatten_4 rfl ?_
    refine mV_push f7_flatten_5 ?_
    refine mV_icmp_ge f7_flatten_7 (fun h1 => ?_) (fun h1 => ?_)
    · rw [if_pos h1] at hr
      have hr := Option.some.inj hr; subst hr
      refine mV_drop (L' := [.ref a, mX0]) (mSub_k (mSub_x mSub_n)) ?_
      exact keyz0
    · rw [if_neg h1] at hr
      refine mV_aload f7_flatten_10 rfl ?_
      refine mV_getP f7_flatten_11 ha.l0 ha.1.2.1 rfl (ha.p3 _) ?_
      refine mV_iload f7_flatten_14 rfl ?_
      refine mV_push f7_flatten_15 ?_
      refine mV_aload f7_flatten_17 rfl ?_
      refine mV_getP f7_flatten_18 ha.l0 ha.1.2.1 rfl (ha.p3 _) ?_
      refine mV_iload f7_flatten_21 rfl ?_
      obtain ⟨z1, hz1, hr⟩ := mBind hr
      refine mV_ldO f7_flatten_22 (ha.l (by decide)) ha.1.2.2.2.2.2 hz1 ?_
      refine mV_push f7_flatten_23 ?_
      refine mV_iadd f7_flatten_24 ?_
      refine mV_minC fm7_flatten_25 (Nat.le_of_ble_eq_true rfl) ?_
      obtain ⟨z2, hz2, hr⟩ := mBind hr
      refine mV_stO f7_flatten_28 (ha.l (by decide)) ha.1.2.2.2.2.2 hz2 ?_
      have hr := Option.some.inj hr; subst hr
      refine mV_drop (L' := [.ref a, mX0]) (mSub_k (mSub_x mSub_n)) ?_
      exact keyz0
theorem c7_flatten (X : Nat × (Nat → Int32)) (I : mI) (s : Nat) (a : Nat) (ha : mStg a) (x0 : Int32) {res : mI} (hr : r7_flatten I a x0 = some res) : mC X m7_flatten 1 0 0 [.ref a, .int x0] NN KK I (PP s) (mRet none NN KK res (PP s)) :=
  mC_of (L0 := [.ref a, .int x0]) rfl (Nat.le_of_ble_eq_true rfl) (w7_flatten X I s a ha x0 _ hr (mRet_ok _ _ _ _ _))
def l5_dampStrings_2 (s : Nat) : Nat → Int32 → mI → Option (mI)
  | 0, _, _ => none
  | f + 1, y1, I => if (8 : Int32) ≤ (y1 : Int32) then some I else (mLd (mW I 40 7 y1) (s + 4) 8 y1).bind fun z0 => (r5_ask (mW (mW I 40 7 y1) 40 6 z0) s 1).bind fun z1 => (if (z1.2 1 3 : Int32) = (0 : Int32) then if (z1.1 : Int32) < (500 : Int32) then some (0, z1.2) else some (1, z1.2) else if (z1.1 : Int32) ≤ (0 : Int32) then some (0, z1.2) else (r7_drawBelow z1.2 s 1000).bind fun z3 => if (z1.1 : Int32) ≤ (z3.1 : Int32) then some (0, z3.2) else some (1, z3.2) : Option (Int32 × mI)).bind fun z2 => (if (z2.1 : Int32) = (0 : Int32) then some z2.2 else (r7_flatten z2.2 s y1).bind fun z5 => some z5 : Option (mI)).bind fun z4 => l5_dampStrings_2 s f (y1 + 1) z4
def r5_dampStrings (I : mI) (s : Nat) : Option (mI) := (l5_dampStrings_2 s FU 0 I).bind fun z0 => some (mW (mW z0 40 7 0) 40 6 0)
set_option maxHeartbeats 4000000 in
set_option maxRecDepth 100000 in
theorem t5_dampStrings_2 (X : Nat × (Nat → Int32)) (Q : mQ) (s : Nat) (hs : mStg s) : ∀ (f : Nat) (y1 : Int32) (I : mI) (z : mI), l5_dampStrings_2 s f y1 I = some z → mV X m5_dampStrings 3 0 0 102 [.ref 1, mX0, mX0, mX0] [] NN KK z (PP s) Q → mV X m5_dampStrings 3 0 0 2 [.ref 1, .int y1, mX0, mX0] [] NN KK I (PP s) Q := by
  intro f
  induction f with
  | zero => intro y1 I z hr hk; cases hr
  | succ f ih =>
    intro y1 I z hr hk
    unfold l5_dampStrings_2 at hr
    refine mV_iload f5_dampStrings_2 rfl ?_
    refine mV_push f5_dampStrings_3 ?_
    refine mV_icmp_ge f5_dampStrings_5 (fun h0 => ?_) (fun h0 => ?_)
    · rw [if_pos h0] at hr
      have hr := Option.some.inj hr; subst hr
      refine mV_drop (L' := [.ref 1, mX0, mX0, mX0]) (mSub_k (mSub_x (mSub_x (mSub_x mSub_n)))) ?_
      exact hk
    · rw [if_neg h0] at hr
      refine mV_aload f5_dampStrings_8 rfl ?_
      refine mV_getP f5_dampStrings_9 (by decide) kk_1 rfl (pp_1_4 _) ?_
      refine mV_push f5_dampStrings_12 ?_
      refine mV_iload f5_dampStrings_14 rfl ?_
      refine mV_sto 7 f5_dampStrings_15 (by decide) kk_40 (by decide) ?_
      refine mV_aload f5_dampStrings_16 rfl ?_
      refine mV_getP f5_dampStrings_17 (by decide) kk_1 rfl (pp_1_4 _) ?_
      refine mV_push f5_dampStrings_20 ?_
      refine mV_aload f5_dampStrings_22 rfl ?_
      refine mV_getP f5_dampStrings_23 (by decide) kk_1 rfl (pp_1_2 _) ?_
      refine mV_getP f5_dampStrings_26 hs.l0 hs.1.2.1 rfl (hs.p3 _) ?_
      refine mV_iload f5_dampStrings_29 rfl ?_
      obtain ⟨z0, hz0, hr⟩ := mBind hr
      refine mV_ldO f5_dampStrings_30 (hs.l (by decide)) hs.1.2.2.2.2.2 hz0 ?_
      refine mV_sto 6 f5_dampStrings_31 (by decide) kk_40 (by decide) ?_
      refine mV_aload f5_dampStrings_32 rfl ?_
      refine mV_push f5_dampStrings_33 ?_
      obtain ⟨z1, hz1, hr⟩ := mBind hr
      refine mV_cV f5_dampStrings_34 tg_m5_ask mCls5 (by decide) kk_1 (mC_deep (c5_ask X (mW (mW I 40 7 y1) 40 6 z0) s hs 1 hz1) (by decide)) rfl rfl (Nat.le_of_ble_eq_true rfl) ?_
      refine mV_istore (L' := [.ref 1, .int y1, .int z1.1, mX0]) f5_dampStrings_37 (by decide) rfl rfl ?_
      refine mV_aload f5_dampStrings_38 rfl ?_
      refine mV_gI (z1.2 1 3) f5_dampStrings_39 (by decide) kk_1 rfl rfl ?_
      obtain ⟨z2, hz2, hr⟩ := mBind hr
      have keyz2 : mV X m5_dampStrings 3 0 0 83 [.ref 1, .int y1, mX0, mX0] [.int z2.1] NN KK z2.2 (PP s) Q := by
        refine mV_istore (L' := [.ref 1, .int y1, mX0, .int z2.1]) f5_dampStrings_83 (by decide) rfl rfl ?_
        refine mV_iload f5_dampStrings_84 rfl ?_
        obtain ⟨z4, hz4, hr⟩ := mBind hr
        have keyz4 : mV X m5_dampStrings 3 0 0 96 [.ref 1, .int y1, mX0, mX0] [] NN KK z4 (PP s) Q := by
          refine mV_iinc (y := (y1 + 1)) (L' := [.ref 1, .int (y1 + 1), mX0, mX0]) f5_dampStrings_96 rfl rfl (by decide) rfl rfl ?_
          refine mV_goto f5_dampStrings_99 ?_
          exact ih (y1 + 1) z4 _ hr hk
        clear hr
        have hr := hz4
        clear hz4
        refine mV_if_eq f5_dampStrings_85 (fun h5 => ?_) (fun h5 => ?_)
        · rw [if_pos h5] at hr
          have hr := Option.some.inj hr; subst hr
          refine mV_drop (L' := [.ref 1, .int y1, mX0, mX0]) (mSub_k (mSub_k (mSub_x (mSub_x mSub_n)))) ?_
          exact keyz4
        · rw [if_neg h5] at hr
          refine mV_aload f5_dampStrings_88 rfl ?_
          refine mV_getP f5_dampStrings_89 (by decide) kk_1 rfl (pp_1_2 _) ?_
          refine mV_iload f5_dampStrings_92 rfl ?_
          obtain ⟨z5, hz5, hr⟩ := mBind hr
          refine mV_cV f5_dampStrings_93 tg_m7_flatten mCls7 hs.l0 hs.1.2.1 (mC_deep (c7_flatten X z2.2 s s hs y1 hz5) (by decide)) rfl rfl (Nat.le_of_ble_eq_true rfl) ?_
          have hr := Option.some.inj hr; subst hr
          refine mV_drop (L' := [.ref 1, .int y1, mX0, mX0]) (mSub_k (mSub_k (mSub_x (mSub_x mSub_n)))) ?_
          exact keyz4
      clear hr
      have hr := hz2
      clear hz2
      refine mV_if_eq f5_dampStrings_42 (fun h1 => ?_) (fun h1 => ?_)
      · rw [if_pos h1] at hr
        refine mV_iload f5_dampStrings_71 rfl ?_
        refine mV_push f5_dampStrings_72 ?_
        refine mV_icmp_lt f5_dampStrings_75 (fun h2 => ?_) (fun h2 => ?_)
        · rw [if_pos h2] at hr
          refine mV_push f5_dampStrings_82 ?_
          have hr := Option.some.inj hr; subst hr
          refine mV_drop (L' := [.ref 1, .int y1, mX0, mX0]) (mSub_k (mSub_k (mSub_x (mSub_x mSub_n)))) ?_
          exact keyz2
        · rw [if_neg h2] at hr
          refine mV_push f5_dampStrings_78 ?_
          refine mV_goto f5_dampStrings_79 ?_
          have hr := Option.some.inj hr; subst hr
          refine mV_drop (L' := [.ref 1, .int y1, mX0, mX0]) (mSub_k (mSub_k (mSub_x (mSub_x mSub_n)))) ?_
          exact keyz2
      · rw [if_neg h1] at hr
        refine mV_iload f5_dampStrings_45 rfl ?_
        refine mV_if_le f5_dampStrings_46 (fun h3 => ?_) (fun h3 => ?_)
        · rw [if_pos h3] at hr
          refine mV_push f5_dampStrings_67 ?_
          refine mV_goto f5_dampStrings_68 ?_
          have hr := Option.some.inj hr; subst hr
          refine mV_drop (L' := [.ref 1, .int y1, mX0, mX0]) (mSub_k (mSub_k (mSub_x (mSub_x mSub_n)))) ?_
          exact keyz2
        · rw [if_neg h3] at hr
          refine mV_aload f5_dampStrings_49 rfl ?_
          refine mV_getP f5_dampStrings_50 (by decide) kk_1 rfl (pp_1_2 _) ?_
          refine mV_push f5_dampStrings_53 ?_
          obtain ⟨z3, hz3, hr⟩ := mBind hr
          refine mV_cV f5_dampStrings_56 tg_m7_drawBelow mCls7 hs.l0 hs.1.2.1 (mC_deep (c7_drawBelow X z1.2 s s hs 1000 hz3) (by decide)) rfl rfl (Nat.le_of_ble_eq_true rfl) ?_
          refine mV_iload f5_dampStrings_59 rfl ?_
          refine mV_icmp_ge f5_dampStrings_60 (fun h4 => ?_) (fun h4 => ?_)
          · rw [if_pos h4] at hr
            refine mV_push f5_dampStrings_67 ?_
            refine mV_goto f5_dampStrings_68 ?_
            have hr := Option.some.inj hr; subst hr
            refine mV_drop (L' := [.ref 1, .int y1, mX0, mX0]) (mSub_k (mSub_k (mSub_x (mSub_x mSub_n)))) ?_
            exact keyz2
          · rw [if_neg h4] at hr
            refine mV_push f5_dampStrings_63 ?_
            refine mV_goto f5_dampStrings_64 ?_
            have hr := Option.some.inj hr; subst hr
            refine mV_drop (L' := [.ref 1, .int y1, mX0, mX0]) (mSub_k (mSub_k (mSub_x (mSub_x mSub_n)))) ?_
            exact keyz2
set_option maxHeartbeats 4000000 in
set_option maxRecDepth 100000 in
theorem w5_dampStrings (X : Nat × (Nat → Int32)) (I : mI) (s : Nat) (hs : mStg s) (Q : mQ) {res : mI} (hr : r5_dampStrings I s = some res) (hQ : Q none NN KK res (PP s)) : mV X m5_dampStrings 3 0 0 0 [.ref 1, mX0, mX0, mX0] [] NN KK I (PP s) Q := by
  unfold r5_dampStrings at hr
  refine mV_push f5_dampStrings_0 ?_
  refine mV_istore (L' := [.ref 1, .int 0, mX0, mX0]) f5_dampStrings_1 (by decide) rfl rfl ?_
  obtain ⟨z0, hz0, hr⟩ := mBind hr
  refine t5_dampStrings_2 X Q s hs FU 0 I _ hz0 ?_
  refine mV_aload f5_dampStrings_102 rfl ?_
  refine mV_getP f5_dampStrings_103 (by decide) kk_1 rfl (pp_1_4 _) ?_
  refine mV_push f5_dampStrings_106 ?_
  refine mV_push f5_dampStrings_108 ?_
  refine mV_sto 7 f5_dampStrings_109 (by decide) kk_40 (by decide) ?_
  refine mV_aload f5_dampStrings_110 rfl ?_
  refine mV_getP f5_dampStrings_111 (by decide) kk_1 rfl (pp_1_4 _) ?_
  refine mV_push f5_dampStrings_114 ?_
  refine mV_push f5_dampStrings_116 ?_
  refine mV_sto 6 f5_dampStrings_117 (by decide) kk_40 (by decide) ?_
  have hr := Option.some.inj hr; subst hr
  exact mV_vret rfl f5_dampStrings_118 hQ
theorem c5_dampStrings (X : Nat × (Nat → Int32)) (I : mI) (s : Nat) (hs : mStg s) {res : mI} (hr : r5_dampStrings I s = some res) : mC X m5_dampStrings 3 0 0 [.ref 1] NN KK I (PP s) (mRet none NN KK res (PP s)) :=
  mC_of (L0 := [.ref 1, mX0, mX0, mX0]) rfl (Nat.le_of_ble_eq_true rfl) (w5_dampStrings X I s hs _ hr (mRet_ok _ _ _ _ _))
def r8_note (I : mI) (x0 : Int32) (x1 : Int32) (x2 : Int32) : Option (mI) := (if ((I 3 12 * 4) : Int32) < (0 : Int32) then some I else if (600 : Int32) < (((I 3 12 * 4) + 4) : Int32) then some I else (mSto I 34 600 (I 3 12 * 4) (I 3 10)).bind fun z1 => (mSto z1 34 600 ((I 3 12 * 4) + 1) x0).bind fun z2 => (mSto z2 34 600 ((I 3 12 * 4) + 2) x1).bind fun z3 => (mSto z3 34 600 ((I 3 12 * 4) + 3) x2).bind fun z4 => some (mW z4 3 12 (z4 3 12 + 1)) : Option (mI)).bind fun z0 => some z0
set_option maxHeartbeats 4000000 in
set_option maxRecDepth 100000 in
theorem w8_note (X : Nat × (Nat → Int32)) (I : mI) (s : Nat) (x0 : Int32) (x1 : Int32) (x2 : Int32) (Q : mQ) {res : mI} (hr : r8_note I x0 x1 x2 = some res) (hQ : Q none NN KK res (PP s)) : mV X m8_note 0 0 0 0 [.ref 2, .int x0, .int x1, .int x2, mX0] [] NN KK I (PP s) Q := by
  unfold r8_note at hr
  refine mV_aload f8_note_0 rfl ?_
  refine mV_getP f8_note_1 (by decide) kk_2 rfl (pp_2_0 _) ?_
  refine mV_gI (I 3 12) f8_note_4 (by decide) kk_3 rfl rfl ?_
  refine mV_push f8_note_7 ?_
  refine mV_imul f8_note_8 ?_
  refine mV_istore (L' := [.ref 2, .int x0, .int x1, .int x2, .int (I 3 12 * 4)]) f8_note_9 (by decide) rfl rfl ?_
  refine mV_iload f8_note_11 rfl ?_
  obtain ⟨z0, hz0, hr⟩ := mBind hr
  have keyz0 : mV X m8_note 0 0 0 85 [.ref 2, mX0, mX0, mX0, mX0] [] NN KK z0 (PP s) Q := by
    have hr := Option.some.inj hr; subst hr
    exact mV_vret rfl f8_note_85 hQ
  clear hr
  have hr := hz0
  clear hz0
  refine mV_if_lt f8_note_13 (fun h0 => ?_) (fun h0 => ?_)
  · rw [if_pos h0] at hr
    have hr := Option.some.inj hr; subst hr
    refine mV_drop (L' := [.ref 2, mX0, mX0, mX0, mX0]) (mSub_k (mSub_x (mSub_x (mSub_x (mSub_x mSub_n))))) ?_
    exact keyz0
  · rw [if_neg h0] at hr
    refine mV_iload f8_note_16 rfl ?_
    refine mV_push f8_note_18 ?_
    refine mV_iadd f8_note_19 ?_
    refine mV_aload f8_note_20 rfl ?_
    refine mV_getP f8_note_21 (by decide) kk_2 rfl (pp_2_7 _) ?_
    refine mV_alen f8_note_24 (by decide) kk_34 ?_
    refine mV_as 600 (by decide) ?_
    refine mV_icmp_gt f8_note_25 (fun h1 => ?_) (fun h1 => ?_)
    · rw [if_pos h1] at hr
      have hr := Option.some.inj hr; subst hr
      refine mV_drop (L' := [.ref 2, mX0, mX0, mX0, mX0]) (mSub_k (mSub_x (mSub_x (mSub_x (mSub_x mSub_n))))) ?_
      exact keyz0
    · rw [if_neg h1] at hr
      refine mV_aload f8_note_28 rfl ?_
      refine mV_getP f8_note_29 (by decide) kk_2 rfl (pp_2_7 _) ?_
      refine mV_iload f8_note_32 rfl ?_
      refine mV_aload f8_note_34 rfl ?_
      refine mV_getP f8_note_35 (by decide) kk_2 rfl (pp_2_0 _) ?_
      refine mV_gI (I 3 10) f8_note_38 (by decide) kk_3 rfl rfl ?_
      obtain ⟨z1, hz1, hr⟩ := mBind hr
      refine mV_stO f8_note_41 (by decide) kk_34 hz1 ?_
      refine mV_aload f8_note_42 rfl ?_
      refine mV_getP f8_note_43 (by decide) kk_2 rfl (pp_2_7 _) ?_
      refine mV_iload f8_note_46 rfl ?_
      refine mV_push f8_note_48 ?_
      refine mV_iadd f8_note_49 ?_
      refine mV_iload f8_note_50 rfl ?_
      obtain ⟨z2, hz2, hr⟩ := mBind hr
      refine mV_stO f8_note_51 (by decide) kk_34 hz2 ?_
      refine mV_aload f8_note_52 rfl ?_
      refine mV_getP f8_note_53 (by decide) kk_2 rfl (pp_2_7 _) ?_
      refine mV_iload f8_note_56 rfl ?_
      refine mV_push f8_note_58 ?_
      refine mV_iadd f8_note_59 ?_
      refine mV_iload f8_note_60 rfl ?_
      obtain ⟨z3, hz3, hr⟩ := mBind hr
      refine mV_stO f8_note_61 (by decide) kk_34 hz3 ?_
      refine mV_aload f8_note_62 rfl ?_
      refine mV_getP f8_note_63 (by decide) kk_2 rfl (pp_2_7 _) ?_
      refine mV_iload f8_note_66 rfl ?_
      refine mV_push f8_note_68 ?_
      refine mV_iadd f8_note_69 ?_
      refine mV_iload f8_note_70 rfl ?_
      obtain ⟨z4, hz4, hr⟩ := mBind hr
      refine mV_stO f8_note_71 (by decide) kk_34 hz4 ?_
      refine mV_aload f8_note_72 rfl ?_
      refine mV_getP f8_note_73 (by decide) kk_2 rfl (pp_2_0 _) ?_
      refine mV_dup f8_note_76 rfl ?_
      refine mV_gI (z4 3 12) f8_note_77 (by decide) kk_3 rfl rfl ?_
      refine mV_push f8_note_80 ?_
      refine mV_iadd f8_note_81 ?_
      refine mV_putI f8_note_82 (by decide) kk_3 rfl rfl ?_
      have hr := Option.some.inj hr; subst hr
      refine mV_drop (L' := [.ref 2, mX0, mX0, mX0, mX0]) (mSub_k (mSub_x (mSub_x (mSub_x (mSub_x mSub_n))))) ?_
      exact keyz0
theorem c8_note (X : Nat × (Nat → Int32)) (I : mI) (s : Nat) (x0 : Int32) (x1 : Int32) (x2 : Int32) {res : mI} (hr : r8_note I x0 x1 x2 = some res) : mC X m8_note 0 0 0 [.ref 2, .int x0, .int x1, .int x2] NN KK I (PP s) (mRet none NN KK res (PP s)) :=
  mC_of (L0 := [.ref 2, .int x0, .int x1, .int x2, mX0]) rfl (Nat.le_of_ble_eq_true rfl) (w8_note X I s x0 x1 x2 _ hr (mRet_ok _ _ _ _ _))
def r5_note (I : mI) (x0 : Int32) (x1 : Int32) (x2 : Int32) : Option (mI) := (if (I 1 3 : Int32) = (0 : Int32) then some I else (r8_note I x0 x1 x2).bind fun z1 => some z1 : Option (mI)).bind fun z0 => some z0
set_option maxHeartbeats 4000000 in
set_option maxRecDepth 100000 in
theorem w5_note (X : Nat × (Nat → Int32)) (I : mI) (s : Nat) (x0 : Int32) (x1 : Int32) (x2 : Int32) (Q : mQ) {res : mI} (hr : r5_note I x0 x1 x2 = some res) (hQ : Q none NN KK res (PP s)) : mV X m5_note 1 0 0 0 [.ref 1, .int x0, .int x1, .int x2] [] NN KK I (PP s) Q := by
  unfold r5_note at hr
  refine mV_aload f5_note_0 rfl ?_
  refine mV_gI (I 1 3) f5_note_1 (by decide) kk_1 rfl rfl ?_
  obtain ⟨z0, hz0, hr⟩ := mBind hr
  have keyz0 : mV X m5_note 1 0 0 17 [.ref 1, mX0, mX0, mX0] [] NN KK z0 (PP s) Q := by
    have hr := Option.some.inj hr; subst hr
    exact mV_vret rfl f5_note_17 hQ
  clear hr
  have hr := hz0
  clear hz0
  refine mV_if_eq f5_note_4 (fun h0 => ?_) (fun h0 => ?_)
  · rw [if_pos h0] at hr
    have hr := Option.some.inj hr; subst hr
    refine mV_drop (L' := [.ref 1, mX0, mX0, mX0]) (mSub_k (mSub_x (mSub_x (mSub_x mSub_n)))) ?_
    exact keyz0
  · rw [if_neg h0] at hr
    refine mV_aload f5_note_7 rfl ?_
    refine mV_getP f5_note_8 (by decide) kk_1 rfl (pp_1_0 _) ?_
    refine mV_iload f5_note_11 rfl ?_
    refine mV_iload f5_note_12 rfl ?_
    refine mV_iload f5_note_13 rfl ?_
    obtain ⟨z1, hz1, hr⟩ := mBind hr
    refine mV_cV f5_note_14 tg_m8_note mCls8 (by decide) kk_2 (mC_deep (c8_note X I s x0 x1 x2 hz1) (by decide)) rfl rfl (Nat.le_of_ble_eq_true rfl) ?_
    have hr := Option.some.inj hr; subst hr
    refine mV_drop (L' := [.ref 1, mX0, mX0, mX0]) (mSub_k (mSub_x (mSub_x (mSub_x mSub_n)))) ?_
    exact keyz0
theorem c5_note (X : Nat × (Nat → Int32)) (I : mI) (s : Nat) (x0 : Int32) (x1 : Int32) (x2 : Int32) {res : mI} (hr : r5_note I x0 x1 x2 = some res) : mC X m5_note 1 0 0 [.ref 1, .int x0, .int x1, .int x2] NN KK I (PP s) (mRet none NN KK res (PP s)) :=
  mC_of (L0 := [.ref 1, .int x0, .int x1, .int x2]) rfl (Nat.le_of_ble_eq_true rfl) (w5_note X I s x0 x1 x2 _ hr (mRet_ok _ _ _ _ _))
def l5_perform_43 (s : Nat) (k3 : Int32) (k4 : Int32) : Nat → Int32 → Int32 → mI → Option (Int32 × mI)
  | 0, _, _, _ => none
  | f + 1, y5, y6, I => if (k4 : Int32) ≤ (y6 : Int32) then some (y5, I) else (r5_ask (mW I 40 9 y6) s 0).bind fun z0 => (r7_addWater z0.2 s z0.1).bind fun z1 => (if (k3 : Int32) = (0 : Int32) then some z1 else (r5_dampStrings z1 s).bind fun z3 => some z3 : Option (mI)).bind fun z2 => l5_perform_43 s k3 k4 f (y5 + z0.1) (y6 + 1) z2
def r5_perform (I : mI) (s : Nat) (x0 : Int32) (x1 : Int32) (x2 : Int32) : Option (Int32 × mI) := if ((r0_knows I x0 x1) : Int32) = (0 : Int32) then some (0, I) else (r5_seat I s x0 x1).bind fun z0 => (mLd z0 9 12 x1).bind fun z1 => (l5_perform_43 s x2 z1 FU 0 0 z0).bind fun z2 => (mLd z2.2 (s + 2) 12 x1).bind fun z3 => (mSto z2.2 (s + 2) 12 x1 (z3 + z2.1)).bind fun z4 => (mLd z4 (s + 3) 6 x0).bind fun z5 => (mSto z4 (s + 3) 6 x0 (z5 + z2.1)).bind fun z6 => (mLd z6 (s + 1) 12 x1).bind fun z7 => (mSto z6 (s + 1) 12 x1 (z7 + 1)).bind fun z8 => (r5_note (mW z8 s 8 (z8 s 8 + z1)) 0 x1 z2.1).bind fun z9 => some (z2.1, z9)
set_option maxHeartbeats 4000000 in
set_option maxRecDepth 100000 in
theorem t5_perform_43 (X : Nat × (Nat → Int32)) (Q : mQ) (s : Nat) (hs : mStg s) (k1 : Int32) (k2 : Int32) (k3 : Int32) (k4 : Int32) : ∀ (f : Nat) (y5 : Int32) (y6 : Int32) (I : mI) (z : Int32 × mI), l5_perform_43 s k3 k4 f y5 y6 I = some z → mV X m5_perform 4 0 0 96 [.ref 1, .int k1, .int k2, .int k3, .int k4, .int z.1, mX0, mX0] [] NN KK z.2 (PP s) Q → mV X m5_perform 4 0 0 43 [.ref 1, .int k1, .int k2, .int k3, .int k4, .int y5, .int y6, mX0] [] NN KK I (PP s) Q := by
  intro f
  induction f with
  | zero => intro y5 y6 I z hr hk; cases hr
  | succ f ih =>
    intro y5 y6 I z hr hk
    unfold l5_perform_43 at hr
    refine mV_iload f5_perform_43 rfl ?_
    refine mV_iload f5_perform_45 rfl ?_
    refine mV_icmp_ge f5_perform_47 (fun h0 => ?_) (fun h0 => ?_)
    · rw [if_pos h0] at hr
      have hr := Option.some.inj hr; subst hr
      refine mV_drop (L' := [.ref 1, .int k1, .int k2, .int k3, .int k4, .int y5, mX0, mX0]) (mSub_k (mSub_k (mSub_k (mSub_k (mSub_k (mSub_k (mSub_x (mSub_x mSub_n)))))))) ?_
      exact hk
    · rw [if_neg h0] at hr
      refine mV_aload f5_perform_50 rfl ?_
      refine mV_getP f5_perform_51 (by decide) kk_1 rfl (pp_1_4 _) ?_
      refine mV_push f5_perform_54 ?_
      refine mV_iload f5_perform_56 rfl ?_
      refine mV_sto 9 f5_perform_58 (by decide) kk_40 (by decide) ?_
      refine mV_aload f5_perform_59 rfl ?_
      refine mV_push f5_perform_60 ?_
      obtain ⟨z0, hz0, hr⟩ := mBind hr
      refine mV_cV f5_perform_61 tg_m5_ask mCls5 (by decide) kk_1 (mC_deep (c5_ask X (mW I 40 9 y6) s hs 0 hz0) (by decide)) rfl rfl (Nat.le_of_ble_eq_true rfl) ?_
      refine mV_istore (L' := [.ref 1, .int k1, .int k2, .int k3, .int k4, .int y5, .int y6, .int z0.1]) f5_perform_64 (by decide) rfl rfl ?_
      refine mV_iload f5_perform_66 rfl ?_
      refine mV_iload f5_perform_68 rfl ?_
      refine mV_iadd f5_perform_70 ?_
      refine mV_istore (L' := [.ref 1, .int k1, .int k2, .int k3, .int k4, .int (y5 + z0.1), .int y6, .int z0.1]) f5_perform_71 (by decide) rfl rfl ?_
      refine mV_aload f5_perform_73 rfl ?_
      refine mV_getP f5_perform_74 (by decide) kk_1 rfl (pp_1_2 _) ?_
      refine mV_iload f5_perform_77 rfl ?_
      obtain ⟨z1, hz1, hr⟩ := mBind hr
      refine mV_cV f5_perform_79 tg_m7_addWater mCls7 hs.l0 hs.1.2.1 (mC_deep (c7_addWater X z0.2 s s hs z0.1 hz1) (by decide)) rfl rfl (Nat.le_of_ble_eq_true rfl) ?_
      refine mV_iload f5_perform_82 rfl ?_
      obtain ⟨z2, hz2, hr⟩ := mBind hr
      have keyz2 : mV X m5_perform 4 0 0 90 [.ref 1, .int k1, .int k2, .int k3, .int k4, .int (y5 + z0.1), .int y6, mX0] [] NN KK z2 (PP s) Q := by
        refine mV_iinc (y := (y6 + 1)) (L' := [.ref 1, .int k1, .int k2, .int k3, .int k4, .int (y5 + z0.1), .int (y6 + 1), mX0]) f5_perform_90 rfl rfl (by decide) rfl rfl ?_
        refine mV_goto f5_perform_93 ?_
        exact ih (y5 + z0.1) (y6 + 1) z2 _ hr hk
      clear hr
      have hr := hz2
      clear hz2
      refine mV_if_eq f5_perform_83 (fun h1 => ?_) (fun h1 => ?_)
      · rw [if_pos h1] at hr
        have hr := Option.some.inj hr; subst hr
        refine mV_drop (L' := [.ref 1, .int k1, .int k2, .int k3, .int k4, .int (y5 + z0.1), .int y6, mX0]) (mSub_k (mSub_k (mSub_k (mSub_k (mSub_k (mSub_k (mSub_k (mSub_x mSub_n)))))))) ?_
        exact keyz2
      · rw [if_neg h1] at hr
        refine mV_aload f5_perform_86 rfl ?_
        obtain ⟨z3, hz3, hr⟩ := mBind hr
        refine mV_cV f5_perform_87 tg_m5_dampStrings mCls5 (by decide) kk_1 (mC_deep (c5_dampStrings X z1 s hs hz3) (by decide)) rfl rfl (Nat.le_of_ble_eq_true rfl) ?_
        have hr := Option.some.inj hr; subst hr
        refine mV_drop (L' := [.ref 1, .int k1, .int k2, .int k3, .int k4, .int (y5 + z0.1), .int y6, mX0]) (mSub_k (mSub_k (mSub_k (mSub_k (mSub_k (mSub_k (mSub_k (mSub_x mSub_n)))))))) ?_
        exact keyz2
set_option maxHeartbeats 4000000 in
set_option maxRecDepth 100000 in
theorem w5_perform (X : Nat × (Nat → Int32)) (I : mI) (s : Nat) (hs : mStg s) (x0 : Int32) (x1 : Int32) (x2 : Int32) (Q : mQ) {res : Int32 × mI} (hr : r5_perform I s x0 x1 x2 = some res) (hQ : Q (some (.int res.1)) NN KK res.2 (PP s)) : mV X m5_perform 4 0 0 0 [.ref 1, .int x0, .int x1, .int x2, mX0, mX0, mX0, mX0] [] NN KK I (PP s) Q := by
  unfold r5_perform at hr
  refine mV_aload f5_perform_0 rfl ?_
  refine mV_getP f5_perform_1 (by decide) kk_1 rfl (pp_1_0 _) ?_
  refine mV_getP f5_perform_4 (by decide) kk_2 rfl (pp_2_1 _) ?_
  refine mV_iload f5_perform_7 rfl ?_
  refine mV_iload f5_perform_8 rfl ?_
  refine mV_cV f5_perform_9 tg_m0_knows mCls0 (by decide) kk_8 (mC_deep (c0_knows X I s x0 x1 rfl) (by decide)) rfl rfl (Nat.le_of_ble_eq_true rfl) ?_
  refine mV_if_ne f5_perform_12 (fun h0 => ?_) (fun h0 => ?_)
  · rw [if_neg h0] at hr
    refine mV_aload f5_perform_17 rfl ?_
    refine mV_iload f5_perform_18 rfl ?_
    refine mV_iload f5_perform_19 rfl ?_
    obtain ⟨z0, hz0, hr⟩ := mBind hr
    refine mV_cV f5_perform_20 tg_m5_seat mCls5 (by decide) kk_1 (mC_deep (c5_seat X I s hs x0 x1 hz0) (by decide)) rfl rfl (Nat.le_of_ble_eq_true rfl) ?_
    refine mV_aload f5_perform_23 rfl ?_
    refine mV_getP f5_perform_24 (by decide) kk_1 rfl (pp_1_0 _) ?_
    refine mV_getP f5_perform_27 (by decide) kk_2 rfl (pp_2_1 _) ?_
    refine mV_getP f5_perform_30 (by decide) kk_8 rfl (pp_8_0 _) ?_
    refine mV_iload f5_perform_33 rfl ?_
    obtain ⟨z1, hz1, hr⟩ := mBind hr
    refine mV_ldO f5_perform_34 (by decide) kk_9 hz1 ?_
    refine mV_istore (L' := [.ref 1, .int x0, .int x1, .int x2, .int z1, mX0, mX0, mX0]) f5_perform_35 (by decide) rfl rfl ?_
    refine mV_push f5_perform_37 ?_
    refine mV_istore (L' := [.ref 1, .int x0, .int x1, .int x2, .int z1, .int 0, mX0, mX0]) f5_perform_38 (by decide) rfl rfl ?_
    refine mV_push f5_perform_40 ?_
    refine mV_istore (L' := [.ref 1, .int x0, .int x1, .int x2, .int z1, .int 0, .int 0, mX0]) f5_perform_41 (by decide) rfl rfl ?_
    obtain ⟨z2, hz2, hr⟩ := mBind hr
    refine t5_perform_43 X Q s hs x0 x1 x2 z1 FU 0 0 z0 _ hz2 ?_
    refine mV_aload f5_perform_96 rfl ?_
    refine mV_getP f5_perform_97 (by decide) kk_1 rfl (pp_1_2 _) ?_
    refine mV_getP f5_perform_100 hs.l0 hs.1.2.1 rfl (hs.p1 _) ?_
    refine mV_iload f5_perform_103 rfl ?_
    refine mV_dup2 f5_perform_104 rfl rfl ?_
    obtain ⟨z3, hz3, hr⟩ := mBind hr
    refine mV_ldO f5_perform_105 (hs.l (by decide)) hs.1.2.2.2.1 hz3 ?_
    refine mV_iload f5_perform_106 rfl ?_
    refine mV_iadd f5_perform_108 ?_
    obtain ⟨z4, hz4, hr⟩ := mBind hr
    refine mV_stO f5_perform_109 (hs.l (by decide)) hs.1.2.2.2.1 hz4 ?_
    refine mV_aload f5_perform_110 rfl ?_
    refine mV_getP f5_perform_111 (by decide) kk_1 rfl (pp_1_2 _) ?_
    refine mV_getP f5_perform_114 hs.l0 hs.1.2.1 rfl (hs.p2 _) ?_
    refine mV_iload f5_perform_117 rfl ?_
    refine mV_dup2 f5_perform_118 rfl rfl ?_
    obtain ⟨z5, hz5, hr⟩ := mBind hr
    refine mV_ldO f5_perform_119 (hs.l (by decide)) hs.1.2.2.2.2.1 hz5 ?_
    refine mV_iload f5_perform_120 rfl ?_
    refine mV_iadd f5_perform_122 ?_
    obtain ⟨z6, hz6, hr⟩ := mBind hr
    refine mV_stO f5_perform_123 (hs.l (by decide)) hs.1.2.2.2.2.1 hz6 ?_
    refine mV_aload f5_perform_124 rfl ?_
    refine mV_getP f5_perform_125 (by decide) kk_1 rfl (pp_1_2 _) ?_
    refine mV_getP f5_perform_128 hs.l0 hs.1.2.1 rfl (hs.p0 _) ?_
    refine mV_iload f5_perform_131 rfl ?_
    refine mV_dup2 f5_perform_132 rfl rfl ?_
    obtain ⟨z7, hz7, hr⟩ := mBind hr
    refine mV_ldO f5_perform_133 (hs.l (by decide)) hs.1.2.2.1 hz7 ?_
    refine mV_push f5_perform_134 ?_
    refine mV_iadd f5_perform_135 ?_
    obtain ⟨z8, hz8, hr⟩ := mBind hr
    refine mV_stO f5_perform_136 (hs.l (by decide)) hs.1.2.2.1 hz8 ?_
    refine mV_aload f5_perform_137 rfl ?_
    refine mV_getP f5_perform_138 (by decide) kk_1 rfl (pp_1_2 _) ?_
    refine mV_dup f5_perform_141 rfl ?_
    refine mV_gI (z8 s 8) f5_perform_142 hs.l0 hs.1.2.1 rfl rfl ?_
    refine mV_iload f5_perform_145 rfl ?_
    refine mV_iadd f5_perform_147 ?_
    refine mV_putI f5_perform_148 hs.l0 hs.1.2.1 rfl rfl ?_
    refine mV_aload f5_perform_151 rfl ?_
    refine mV_push f5_perform_152 ?_
    refine mV_iload f5_perform_153 rfl ?_
    refine mV_iload f5_perform_154 rfl ?_
    obtain ⟨z9, hz9, hr⟩ := mBind hr
    refine mV_cV f5_perform_156 tg_m5_note mCls5 (by decide) kk_1 (mC_deep (c5_note X (mW z8 s 8 (z8 s 8 + z1)) s 0 x1 z2.1 hz9) (by decide)) rfl rfl (Nat.le_of_ble_eq_true rfl) ?_
    refine mV_iload f5_perform_159 rfl ?_
    have hr := Option.some.inj hr; subst hr
    exact mV_iret rfl rfl f5_perform_161 hQ
  · rw [if_pos h0] at hr
    refine mV_push f5_perform_15 ?_
    have hr := Option.some.inj hr; subst hr
    exact mV_iret rfl rfl f5_perform_16 hQ
theorem c5_perform (X : Nat × (Nat → Int32)) (I : mI) (s : Nat) (hs : mStg s) (x0 : Int32) (x1 : Int32) (x2 : Int32) {res : Int32 × mI} (hr : r5_perform I s x0 x1 x2 = some res) : mC X m5_perform 4 0 0 [.ref 1, .int x0, .int x1, .int x2] NN KK I (PP s) (mRet (some (.int res.1)) NN KK res.2 (PP s)) :=
  mC_of (L0 := [.ref 1, .int x0, .int x1, .int x2, mX0, mX0, mX0, mX0]) rfl (Nat.le_of_ble_eq_true rfl) (w5_perform X I s hs x0 x1 x2 _ hr (mRet_ok _ _ _ _ _))
def r9_play (I : mI) (s : Nat) (x0 : Int32) (x1 : Int32) : Option (Int32 × mI × Nat) := if ((r0_knows I x0 x1) : Int32) = (0 : Int32) then some ((-1), I, s) else (r3_keep I).bind fun z0 => (r5_wake z0 s).bind fun z1 => (r5_perform z1 3 x0 x1 1).bind fun z2 => some (z2.1, z2.2, 3)
set_option maxHeartbeats 4000000 in
set_option maxRecDepth 100000 in
theorem w9_play (X : Nat × (Nat → Int32)) (I : mI) (s : Nat) (hs : mStg s) (x0 : Int32) (x1 : Int32) (Q : mQ) {res : Int32 × mI × Nat} (hr : r9_play I s x0 x1 = some res) (hQ : Q (some (.int res.1)) NN KK res.2.1 (PP res.2.2)) : mV X m9_play 5 0 0 0 [.ref 0, .int x0, .int x1] [] NN KK I (PP s) Q := by
  unfold r9_play at hr
  refine mV_aload f9_play_0 rfl ?_
  refine mV_getP f9_play_1 (by decide) kk_0 rfl (pp_0_1 _) ?_
  refine mV_getP f9_play_4 (by decide) kk_2 rfl (pp_2_1 _) ?_
  refine mV_iload f9_play_7 rfl ?_
  refine mV_iload f9_play_8 rfl ?_
  refine mV_cV f9_play_9 tg_m0_knows mCls0 (by decide) kk_8 (mC_deep (c0_knows X I s x0 x1 rfl) (by decide)) rfl rfl (Nat.le_of_ble_eq_true rfl) ?_
  refine mV_if_ne f9_play_12 (fun h0 => ?_) (fun h0 => ?_)
  · rw [if_neg h0] at hr
    refine mV_aload f9_play_17 rfl ?_
    refine mV_getP f9_play_18 (by decide) kk_0 rfl (pp_0_4 _) ?_
    refine mV_aload f9_play_21 rfl ?_
    refine mV_getP f9_play_22 (by decide) kk_0 rfl (pp_0_1 _) ?_
    refine mV_getP f9_play_25 (by decide) kk_2 rfl (pp_2_0 _) ?_
    obtain ⟨z0, hz0, hr⟩ := mBind hr
    refine mV_cV f9_play_28 tg_m3_keep mCls3 (by decide) kk_77 (mC_deep (c3_keep X I s hz0) (by decide)) rfl rfl (Nat.le_of_ble_eq_true rfl) ?_
    refine mV_aload f9_play_31 rfl ?_
    refine mV_getP f9_play_32 (by decide) kk_0 rfl (pp_0_0 _) ?_
    obtain ⟨z1, hz1, hr⟩ := mBind hr
    refine mV_cV f9_play_35 tg_m5_wake mCls5 (by decide) kk_1 (mC_deep (c5_wake X z0 s hz1) (by decide)) rfl rfl (Nat.le_of_ble_eq_true rfl) ?_
    refine mV_aload f9_play_38 rfl ?_
    refine mV_getP f9_play_39 (by decide) kk_0 rfl (pp_0_0 _) ?_
    refine mV_iload f9_play_42 rfl ?_
    refine mV_iload f9_play_43 rfl ?_
    refine mV_push f9_play_44 ?_
    obtain ⟨z2, hz2, hr⟩ := mBind hr
    refine mV_cV f9_play_45 tg_m5_perform mCls5 (by decide) kk_1 (mC_deep (c5_perform X z1 3 mStg_3 x0 x1 1 hz2) (by decide)) rfl rfl (Nat.le_of_ble_eq_true rfl) ?_
    have hr := Option.some.inj hr; subst hr
    exact mV_iret rfl rfl f9_play_48 hQ
  · rw [if_pos h0] at hr
    refine mV_push f9_play_15 ?_
    have hr := Option.some.inj hr; subst hr
    exact mV_iret rfl rfl f9_play_16 hQ
theorem c9_play (X : Nat × (Nat → Int32)) (I : mI) (s : Nat) (hs : mStg s) (x0 : Int32) (x1 : Int32) {res : Int32 × mI × Nat} (hr : r9_play I s x0 x1 = some res) : mC X m9_play 5 0 0 [.ref 0, .int x0, .int x1] NN KK I (PP s) (mRet (some (.int res.1)) NN KK res.2.1 (PP res.2.2)) :=
  mC_of (L0 := [.ref 0, .int x0, .int x1]) rfl (Nat.le_of_ble_eq_true rfl) (w9_play X I s hs x0 x1 _ hr (mRet_ok _ _ _ _ _))
def r5_tuneString (I : mI) (s : Nat) (x0 : Int32) : Option (mI) := (if (x0 : Int32) < (0 : Int32) then some I else if (8 : Int32) ≤ (x0 : Int32) then some I else (mLd I (s + 4) 8 x0).bind fun z1 => (r5_note I 2 x0 z1).bind fun z2 => (mSto z2 (s + 4) 8 x0 0).bind fun z3 => some z3 : Option (mI)).bind fun z0 => some z0
set_option maxHeartbeats 4000000 in
set_option maxRecDepth 100000 in
theorem w5_tuneString (X : Nat × (Nat → Int32)) (I : mI) (s : Nat) (hs : mStg s) (x0 : Int32) (Q : mQ) {res : mI} (hr : r5_tuneString I s x0 = some res) (hQ : Q none NN KK res (PP s)) : mV X m5_tuneString 2 0 0 0 [.ref 1, .int x0] [] NN KK I (PP s) Q := by
  unfold r5_tuneString at hr
  refine mV_iload f5_tuneString_0 rfl ?_
  obtain ⟨z0, hz0, hr⟩ := mBind hr
  have keyz0 : mV X m5_tuneString 2 0 0 35 [.ref 1, mX0] [] NN KK z0 (PP s) Q := by
    have hr := Option.some.inj hr; subst hr
    exact mV_vret rfl f5_tuneString_35 hQ
  clear hr
  have hr := hz0
  clear hz0
  refine mV_if_lt f5_tuneString_1 (fun h0 => ?_) (fun h0 => ?_)
  · rw [if_pos h0] at hr
    have hr := Option.some.inj hr; subst hr
    refine mV_drop (L' := [.ref 1, mX0]) (mSub_k (mSub_x mSub_n)) ?_
    exact keyz0
  · rw [if_neg h0] at hr
    refine mV_iload f5_tuneString_4 rfl ?_
    refine mV_push f5_tuneString_5 ?_
    refine mV_icmp_ge f5_tuneString_7 (fun h1 => ?_) (fun h1 => ?_)
    · rw [if_pos h1] at hr
      have hr := Option.some.inj hr; subst hr
      refine mV_drop (L' := [.ref 1, mX0]) (mSub_k (mSub_x mSub_n)) ?_
      exact keyz0
    · rw [if_neg h1] at hr
      refine mV_aload f5_tuneString_10 rfl ?_
      refine mV_push f5_tuneString_11 ?_
      refine mV_iload f5_tuneString_12 rfl ?_
      refine mV_aload f5_tuneString_13 rfl ?_
      refine mV_getP f5_tuneString_14 (by decide) kk_1 rfl (pp_1_2 _) ?_
      refine mV_getP f5_tuneString_17 hs.l0 hs.1.2.1 rfl (hs.p3 _) ?_
      refine mV_iload f5_tuneString_20 rfl ?_
      obtain ⟨z1, hz1, hr⟩ := mBind hr
      refine mV_ldO f5_tuneString_21 (hs.l (by decide)) hs.1.2.2.2.2.2 hz1 ?_
      obtain ⟨z2, hz2, hr⟩ := mBind hr
      refine mV_cV f5_tuneString_22 tg_m5_note mCls5 (by decide) kk_1 (mC_deep (c5_note X I s 2 x0 z1 hz2) (by decide)) rfl rfl (Nat.le_of_ble_eq_true rfl) ?_
      refine mV_aload f5_tuneString_25 rfl ?_
      refine mV_getP f5_tuneString_26 (by decide) kk_1 rfl (pp_1_2 _) ?_
      refine mV_getP f5_tuneString_29 hs.l0 hs.1.2.1 rfl (hs.p3 _) ?_
      refine mV_iload f5_tuneString_32 rfl ?_
      refine mV_push f5_tuneString_33 ?_
      obtain ⟨z3, hz3, hr⟩ := mBind hr
      refine mV_stO f5_tuneString_34 (hs.l (by decide)) hs.1.2.2.2.2.2 hz3 ?_
      have hr := Option.some.inj hr; subst hr
      refine mV_drop (L' := [.ref 1, mX0]) (mSub_k (mSub_x mSub_n)) ?_
      exact keyz0
theorem c5_tuneString (X : Nat × (Nat → Int32)) (I : mI) (s : Nat) (hs : mStg s) (x0 : Int32) {res : mI} (hr : r5_tuneString I s x0 = some res) : mC X m5_tuneString 2 0 0 [.ref 1, .int x0] NN KK I (PP s) (mRet none NN KK res (PP s)) :=
  mC_of (L0 := [.ref 1, .int x0]) rfl (Nat.le_of_ble_eq_true rfl) (w5_tuneString X I s hs x0 _ hr (mRet_ok _ _ _ _ _))
def r5_emptyDrawer (I : mI) (s : Nat) : Option (mI) := (r5_note I 3 (-1) (I s 5)).bind fun z0 => some (mW z0 s 5 0)
set_option maxHeartbeats 4000000 in
set_option maxRecDepth 100000 in
theorem w5_emptyDrawer (X : Nat × (Nat → Int32)) (I : mI) (s : Nat) (hs : mStg s) (Q : mQ) {res : mI} (hr : r5_emptyDrawer I s = some res) (hQ : Q none NN KK res (PP s)) : mV X m5_emptyDrawer 2 0 0 0 [.ref 1] [] NN KK I (PP s) Q := by
  unfold r5_emptyDrawer at hr
  refine mV_aload f5_emptyDrawer_0 rfl ?_
  refine mV_push f5_emptyDrawer_1 ?_
  refine mV_push f5_emptyDrawer_2 ?_
  refine mV_aload f5_emptyDrawer_3 rfl ?_
  refine mV_getP f5_emptyDrawer_4 (by decide) kk_1 rfl (pp_1_2 _) ?_
  refine mV_gI (I s 5) f5_emptyDrawer_7 hs.l0 hs.1.2.1 rfl rfl ?_
  obtain ⟨z0, hz0, hr⟩ := mBind hr
  refine mV_cV f5_emptyDrawer_10 tg_m5_note mCls5 (by decide) kk_1 (mC_deep (c5_note X I s 3 (-1) (I s 5) hz0) (by decide)) rfl rfl (Nat.le_of_ble_eq_true rfl) ?_
  refine mV_aload f5_emptyDrawer_13 rfl ?_
  refine mV_getP f5_emptyDrawer_14 (by decide) kk_1 rfl (pp_1_2 _) ?_
  refine mV_push f5_emptyDrawer_17 ?_
  refine mV_putI f5_emptyDrawer_18 hs.l0 hs.1.2.1 rfl rfl ?_
  have hr := Option.some.inj hr; subst hr
  exact mV_vret rfl f5_emptyDrawer_21 hQ
theorem c5_emptyDrawer (X : Nat × (Nat → Int32)) (I : mI) (s : Nat) (hs : mStg s) {res : mI} (hr : r5_emptyDrawer I s = some res) : mC X m5_emptyDrawer 2 0 0 [.ref 1] NN KK I (PP s) (mRet none NN KK res (PP s)) :=
  mC_of (L0 := [.ref 1]) rfl (Nat.le_of_ble_eq_true rfl) (w5_emptyDrawer X I s hs _ hr (mRet_ok _ _ _ _ _))
def r5_bringChild (I : mI) (s : Nat) (x0 : Int32) : Option (mI) := (r5_note (mW I s 4 (I s 4 - (mMin x0 (I s 4)))) 4 (-1) (mMin x0 (I s 4))).bind fun z0 => some z0
set_option maxHeartbeats 4000000 in
set_option maxRecDepth 100000 in
theorem w5_bringChild (X : Nat × (Nat → Int32)) (I : mI) (s : Nat) (hs : mStg s) (x0 : Int32) (Q : mQ) {res : mI} (hr : r5_bringChild I s x0 = some res) (hQ : Q none NN KK res (PP s)) : mV X m5_bringChild 2 0 0 0 [.ref 1, .int x0, mX0] [] NN KK I (PP s) Q := by
  unfold r5_bringChild at hr
  refine mV_iload f5_bringChild_0 rfl ?_
  refine mV_aload f5_bringChild_1 rfl ?_
  refine mV_getP f5_bringChild_2 (by decide) kk_1 rfl (pp_1_2 _) ?_
  refine mV_gI (I s 4) f5_bringChild_5 hs.l0 hs.1.2.1 rfl rfl ?_
  refine mV_minC fm5_bringChild_8 (Nat.le_of_ble_eq_true rfl) ?_
  refine mV_istore (L' := [.ref 1, .int x0, .int (mMin x0 (I s 4))]) f5_bringChild_11 (by decide) rfl rfl ?_
  refine mV_aload f5_bringChild_12 rfl ?_
  refine mV_getP f5_bringChild_13 (by decide) kk_1 rfl (pp_1_2 _) ?_
  refine mV_dup f5_bringChild_16 rfl ?_
  refine mV_gI (I s 4) f5_bringChild_17 hs.l0 hs.1.2.1 rfl rfl ?_
  refine mV_iload f5_bringChild_20 rfl ?_
  refine mV_isub f5_bringChild_21 ?_
  refine mV_putI f5_bringChild_22 hs.l0 hs.1.2.1 rfl rfl ?_
  refine mV_aload f5_bringChild_25 rfl ?_
  refine mV_push f5_bringChild_26 ?_
  refine mV_push f5_bringChild_27 ?_
  refine mV_iload f5_bringChild_28 rfl ?_
  obtain ⟨z0, hz0, hr⟩ := mBind hr
  refine mV_cV f5_bringChild_29 tg_m5_note mCls5 (by decide) kk_1 (mC_deep (c5_note X (mW I s 4 (I s 4 - (mMin x0 (I s 4)))) s 4 (-1) (mMin x0 (I s 4)) hz0) (by decide)) rfl rfl (Nat.le_of_ble_eq_true rfl) ?_
  have hr := Option.some.inj hr; subst hr
  exact mV_vret rfl f5_bringChild_32 hQ
theorem c5_bringChild (X : Nat × (Nat → Int32)) (I : mI) (s : Nat) (hs : mStg s) (x0 : Int32) {res : mI} (hr : r5_bringChild I s x0 = some res) : mC X m5_bringChild 2 0 0 [.ref 1, .int x0] NN KK I (PP s) (mRet none NN KK res (PP s)) :=
  mC_of (L0 := [.ref 1, .int x0, mX0]) rfl (Nat.le_of_ble_eq_true rfl) (w5_bringChild X I s hs x0 _ hr (mRet_ok _ _ _ _ _))

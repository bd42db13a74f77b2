def r9_look (I : mI) (x0 : Int32) : Int32 := if (x0 : Int32) = 0 then I 8 6 else if (x0 : Int32) = 1 then I 8 7 else if (x0 : Int32) = 2 then I 3 4 else if (x0 : Int32) = 3 then I 3 5 else if (x0 : Int32) = 4 then I 3 6 else if (x0 : Int32) = 5 then I 3 7 else if (x0 : Int32) = 6 then I 3 8 else if (x0 : Int32) = 7 then I 3 9 else if (x0 : Int32) = 8 then I 3 10 else if (x0 : Int32) = 9 then I 3 12 else if (x0 : Int32) = 10 then I 3 11 else if (x0 : Int32) = 11 then I 15 2 else if (x0 : Int32) = 12 then I 18 2 else if (x0 : Int32) = 13 then I 21 2 else if (x0 : Int32) = 14 then I 24 2 else if (x0 : Int32) = 15 then I 77 2 else (-1)
set_option maxHeartbeats 4000000 in
set_option maxRecDepth 100000 in
theorem w9_look (X : Nat × (Nat → Int32)) (I : mI) (s : Nat) (x0 : Int32) (Q : mQ) {res : Int32} (hr : r9_look I x0 = res) (hQ : Q (some (.int res)) NN KK I (PP s)) : mV X m9_look 0 0 0 0 [.ref 0, .int x0, mX0] [] NN KK I (PP s) Q := by
  unfold r9_look at hr
  refine mV_aload f9_look_0 rfl ?_
  refine mV_getP f9_look_1 (by decide) kk_0 rfl (pp_0_1 _) ?_
  refine mV_getP f9_look_4 (by decide) kk_2 rfl (pp_2_0 _) ?_
  refine mV_astore (L' := [.ref 0, .int x0, .ref 3]) f9_look_7 (by decide) rfl rfl ?_
  refine mV_iload f9_look_8 rfl ?_
  by_cases h0 : x0 = 0
  · rw [if_pos h0] at hr
    refine mV_tabEq (v := 0) f9_look_9 h0 (by decide) (by decide) (by decide) (by decide : (9 : Int) + 79 = (88 : Nat)) ?_
    refine mV_aload f9_look_88 rfl ?_
    refine mV_getP f9_look_89 (by decide) kk_0 rfl (pp_0_1 _) ?_
    refine mV_getP f9_look_92 (by decide) kk_2 rfl (pp_2_1 _) ?_
    refine mV_gI (I 8 6) f9_look_95 (by decide) kk_8 rfl rfl ?_
    cases hr
    exact mV_iret rfl rfl f9_look_98 hQ
  rw [if_neg h0] at hr
  by_cases h1 : x0 = 1
  · rw [if_pos h1] at hr
    refine mV_tabEq (v := 1) f9_look_9 h1 (by decide) (by decide) (by decide) (by decide : (9 : Int) + 90 = (99 : Nat)) ?_
    refine mV_aload f9_look_99 rfl ?_
    refine mV_getP f9_look_100 (by decide) kk_0 rfl (pp_0_1 _) ?_
    refine mV_getP f9_look_103 (by decide) kk_2 rfl (pp_2_1 _) ?_
    refine mV_gI (I 8 7) f9_look_106 (by decide) kk_8 rfl rfl ?_
    cases hr
    exact mV_iret rfl rfl f9_look_109 hQ
  rw [if_neg h1] at hr
  by_cases h2 : x0 = 2
  · rw [if_pos h2] at hr
    refine mV_tabEq (v := 2) f9_look_9 h2 (by decide) (by decide) (by decide) (by decide : (9 : Int) + 101 = (110 : Nat)) ?_
    refine mV_aload f9_look_110 rfl ?_
    refine mV_gI (I 3 4) f9_look_111 (by decide) kk_3 rfl rfl ?_
    cases hr
    exact mV_iret rfl rfl f9_look_114 hQ
  rw [if_neg h2] at hr
  by_cases h3 : x0 = 3
  · rw [if_pos h3] at hr
    refine mV_tabEq (v := 3) f9_look_9 h3 (by decide) (by decide) (by decide) (by decide : (9 : Int) + 106 = (115 : Nat)) ?_
    refine mV_aload f9_look_115 rfl ?_
    refine mV_gI (I 3 5) f9_look_116 (by decide) kk_3 rfl rfl ?_
    cases hr
    exact mV_iret rfl rfl f9_look_119 hQ
  rw [if_neg h3] at hr
  by_cases h4 : x0 = 4
  · rw [if_pos h4] at hr
    refine mV_tabEq (v := 4) f9_look_9 h4 (by decide) (by decide) (by decide) (by decide : (9 : Int) + 111 = (120 : Nat)) ?_
    refine mV_aload f9_look_120 rfl ?_
    refine mV_gI (I 3 6) f9_look_121 (by decide) kk_3 rfl rfl ?_
    cases hr
    exact mV_iret rfl rfl f9_look_124 hQ
  rw [if_neg h4] at hr
  by_cases h5 : x0 = 5
  · rw [if_pos h5] at hr
    refine mV_tabEq (v := 5) f9_look_9 h5 (by decide) (by decide) (by decide) (by decide : (9 : Int) + 116 = (125 : Nat)) ?_
    refine mV_aload f9_look_125 rfl ?_
    refine mV_gI (I 3 7) f9_look_126 (by decide) kk_3 rfl rfl ?_
    cases hr
    exact mV_iret rfl rfl f9_look_129 hQ
  rw [if_neg h5] at hr
  by_cases h6 : x0 = 6
  · rw [if_pos h6] at hr
    refine mV_tabEq (v := 6) f9_look_9 h6 (by decide) (by decide) (by decide) (by decide : (9 : Int) + 121 = (130 : Nat)) ?_
    refine mV_aload f9_look_130 rfl ?_
    refine mV_gI (I 3 8) f9_look_131 (by decide) kk_3 rfl rfl ?_
    cases hr
    exact mV_iret rfl rfl f9_look_134 hQ
  rw [if_neg h6] at hr
  by_cases h7 : x0 = 7
  · rw [if_pos h7] at hr
    refine mV_tabEq (v := 7) f9_look_9 h7 (by decide) (by decide) (by decide) (by decide : (9 : Int) + 126 = (135 : Nat)) ?_
    refine mV_aload f9_look_135 rfl ?_
    refine mV_gI (I 3 9) f9_look_136 (by decide) kk_3 rfl rfl ?_
    cases hr
    exact mV_iret rfl rfl f9_look_139 hQ
  rw [if_neg h7] at hr
  by_cases h8 : x0 = 8
  · rw [if_pos h8] at hr
    refine mV_tabEq (v := 8) f9_look_9 h8 (by decide) (by decide) (by decide) (by decide : (9 : Int) + 131 = (140 : Nat)) ?_
    refine mV_aload f9_look_140 rfl ?_
    refine mV_gI (I 3 10) f9_look_141 (by decide) kk_3 rfl rfl ?_
    cases hr
    exact mV_iret rfl rfl f9_look_144 hQ
  rw [if_neg h8] at hr
  by_cases h9 : x0 = 9
  · rw [if_pos h9] at hr
    refine mV_tabEq (v := 9) f9_look_9 h9 (by decide) (by decide) (by decide) (by decide : (9 : Int) + 136 = (145 : Nat)) ?_
    refine mV_aload f9_look_145 rfl ?_
    refine mV_gI (I 3 12) f9_look_146 (by decide) kk_3 rfl rfl ?_
    cases hr
    exact mV_iret rfl rfl f9_look_149 hQ
  rw [if_neg h9] at hr
  by_cases h10 : x0 = 10
  · rw [if_pos h10] at hr
    refine mV_tabEq (v := 10) f9_look_9 h10 (by decide) (by decide) (by decide) (by decide : (9 : Int) + 141 = (150 : Nat)) ?_
    refine mV_aload f9_look_150 rfl ?_
    refine mV_gI (I 3 11) f9_look_151 (by decide) kk_3 rfl rfl ?_
    cases hr
    exact mV_iret rfl rfl f9_look_154 hQ
  rw [if_neg h10] at hr
  by_cases h11 : x0 = 11
  · rw [if_pos h11] at hr
    refine mV_tabEq (v := 11) f9_look_9 h11 (by decide) (by decide) (by decide) (by decide : (9 : Int) + 146 = (155 : Nat)) ?_
    refine mV_aload f9_look_155 rfl ?_
    refine mV_getP f9_look_156 (by decide) kk_0 rfl (pp_0_1 _) ?_
    refine mV_getP f9_look_159 (by decide) kk_2 rfl (pp_2_2 _) ?_
    refine mV_gI (I 15 2) f9_look_162 (by decide) kk_15 rfl rfl ?_
    cases hr
    exact mV_iret rfl rfl f9_look_165 hQ
  rw [if_neg h11] at hr
  by_cases h12 : x0 = 12
  · rw [if_pos h12] at hr
    refine mV_tabEq (v := 12) f9_look_9 h12 (by decide) (by decide) (by decide) (by decide : (9 : Int) + 157 = (166 : Nat)) ?_
    refine mV_aload f9_look_166 rfl ?_
    refine mV_getP f9_look_167 (by decide) kk_0 rfl (pp_0_1 _) ?_
    refine mV_getP f9_look_170 (by decide) kk_2 rfl (pp_2_3 _) ?_
    refine mV_gI (I 18 2) f9_look_173 (by decide) kk_18 rfl rfl ?_
    cases hr
    exact mV_iret rfl rfl f9_look_176 hQ
  rw [if_neg h12] at hr
  by_cases h13 : x0 = 13
  · rw [if_pos h13] at hr
    refine mV_tabEq (v := 13) f9_look_9 h13 (by decide) (by decide) (by decide) (by decide : (9 : Int) + 168 = (177 : Nat)) ?_
    refine mV_aload f9_look_177 rfl ?_
    refine mV_getP f9_look_178 (by decide) kk_0 rfl (pp_0_1 _) ?_
    refine mV_getP f9_look_181 (by decide) kk_2 rfl (pp_2_4 _) ?_
    refine mV_gI (I 21 2) f9_look_184 (by decide) kk_21 rfl rfl ?_
    cases hr
    exact mV_iret rfl rfl f9_look_187 hQ
  rw [if_neg h13] at hr
  by_cases h14 : x0 = 14
  · rw [if_pos h14] at hr
    refine mV_tabEq (v := 14) f9_look_9 h14 (by decide) (by decide) (by decide) (by decide : (9 : Int) + 179 = (188 : Nat)) ?_
    refine mV_aload f9_look_188 rfl ?_
    refine mV_getP f9_look_189 (by decide) kk_0 rfl (pp_0_1 _) ?_
    refine mV_getP f9_look_192 (by decide) kk_2 rfl (pp_2_5 _) ?_
    refine mV_gI (I 24 2) f9_look_195 (by decide) kk_24 rfl rfl ?_
    cases hr
    exact mV_iret rfl rfl f9_look_198 hQ
  rw [if_neg h14] at hr
  by_cases h15 : x0 = 15
  · rw [if_pos h15] at hr
    refine mV_tabEq (v := 15) f9_look_9 h15 (by decide) (by decide) (by decide) (by decide : (9 : Int) + 190 = (199 : Nat)) ?_
    refine mV_aload f9_look_199 rfl ?_
    refine mV_getP f9_look_200 (by decide) kk_0 rfl (pp_0_4 _) ?_
    refine mV_gI (I 77 2) f9_look_203 (by decide) kk_77 rfl rfl ?_
    cases hr
    exact mV_iret rfl rfl f9_look_206 hQ
  rw [if_neg h15] at hr
  refine mV_tabNo f9_look_9 [0, 1, 2, 3, 4, 5, 6, 7, 8, 9, 10, 11, 12, 13, 14, 15] (by decide) (List.forall_mem_cons.mpr ⟨h0, (List.forall_mem_cons.mpr ⟨h1, (List.forall_mem_cons.mpr ⟨h2, (List.forall_mem_cons.mpr ⟨h3, (List.forall_mem_cons.mpr ⟨h4, (List.forall_mem_cons.mpr ⟨h5, (List.forall_mem_cons.mpr ⟨h6, (List.forall_mem_cons.mpr ⟨h7, (List.forall_mem_cons.mpr ⟨h8, (List.forall_mem_cons.mpr ⟨h9, (List.forall_mem_cons.mpr ⟨h10, (List.forall_mem_cons.mpr ⟨h11, (List.forall_mem_cons.mpr ⟨h12, (List.forall_mem_cons.mpr ⟨h13, (List.forall_mem_cons.mpr ⟨h14, (List.forall_mem_cons.mpr ⟨h15, (fun _ hc => absurd hc List.not_mem_nil)⟩)⟩)⟩)⟩)⟩)⟩)⟩)⟩)⟩)⟩)⟩)⟩)⟩)⟩)⟩)⟩) (by decide : (9 : Int) + 198 = (207 : Nat)) ?_
  refine mV_push f9_look_207 ?_
  cases hr
  exact mV_iret rfl rfl f9_look_208 hQ
theorem c9_look (X : Nat × (Nat → Int32)) (I : mI) (s : Nat) (x0 : Int32) {res : Int32} (hr : r9_look I x0 = res) : mC X m9_look 0 0 0 [.ref 0, .int x0] NN KK I (PP s) (mRet (some (.int res)) NN KK I (PP s)) :=
  mC_of (L0 := [.ref 0, .int x0, mX0]) rfl (Nat.le_of_ble_eq_true rfl) (w9_look X I s x0 _ hr (mRet_ok _ _ _ _ _))
def r10_isIn (x0 : Int32) (x1 : Int32) (x2 : Int32) : Int32 := if (x0 : Int32) < (x1 : Int32) then 0 else if (x2 : Int32) < (x0 : Int32) then 0 else 1
set_option maxHeartbeats 4000000 in
set_option maxRecDepth 100000 in
theorem w10_isIn (X : Nat × (Nat → Int32)) (I : mI) (s : Nat) (x0 : Int32) (x1 : Int32) (x2 : Int32) (Q : mQ) {res : Int32} (hr : r10_isIn x0 x1 x2 = res) (hQ : Q (some (.int res)) NN KK I (PP s)) : mV X m10_isIn 0 0 0 0 [.ref 119, .int x0, .int x1, .int x2] [] NN KK I (PP s) Q := by
  unfold r10_isIn at hr
  refine mV_iload f10_isIn_0 rfl ?_
  refine mV_iload f10_isIn_1 rfl ?_
  refine mV_icmp_lt f10_isIn_2 (fun h0 => ?_) (fun h0 => ?_)
  · rw [if_pos h0] at hr
    refine mV_push f10_isIn_14 ?_
    cases hr
    exact mV_iret rfl rfl f10_isIn_15 hQ
  · rw [if_neg h0] at hr
    refine mV_iload f10_isIn_5 rfl ?_
    refine mV_iload f10_isIn_6 rfl ?_
    refine mV_icmp_gt f10_isIn_7 (fun h1 => ?_) (fun h1 => ?_)
    · rw [if_pos h1] at hr
      refine mV_push f10_isIn_14 ?_
      cases hr
      exact mV_iret rfl rfl f10_isIn_15 hQ
    · rw [if_neg h1] at hr
      refine mV_push f10_isIn_10 ?_
      refine mV_goto f10_isIn_11 ?_
      cases hr
      exact mV_iret rfl rfl f10_isIn_15 hQ
theorem c10_isIn (X : Nat × (Nat → Int32)) (I : mI) (s : Nat) (x0 : Int32) (x1 : Int32) (x2 : Int32) {res : Int32} (hr : r10_isIn x0 x1 x2 = res) : mC X m10_isIn 0 0 0 [.ref 119, .int x0, .int x1, .int x2] NN KK I (PP s) (mRet (some (.int res)) NN KK I (PP s)) :=
  mC_of (L0 := [.ref 119, .int x0, .int x1, .int x2]) rfl (Nat.le_of_ble_eq_true rfl) (w10_isIn X I s x0 x1 x2 _ hr (mRet_ok _ _ _ _ _))
def r10_held (x0 : Int32) (x1 : Int32) (x2 : Int32) : Int32 := if (x1 : Int32) ≤ (x0 : Int32) then if (x0 : Int32) ≤ (x2 : Int32) then x0 else x2 else x1
set_option maxHeartbeats 4000000 in
set_option maxRecDepth 100000 in
theorem w10_held (X : Nat × (Nat → Int32)) (I : mI) (s : Nat) (x0 : Int32) (x1 : Int32) (x2 : Int32) (Q : mQ) {res : Int32} (hr : r10_held x0 x1 x2 = res) (hQ : Q (some (.int res)) NN KK I (PP s)) : mV X m10_held 0 0 0 0 [.ref 119, .int x0, .int x1, .int x2] [] NN KK I (PP s) Q := by
  unfold r10_held at hr
  refine mV_iload f10_held_0 rfl ?_
  refine mV_iload f10_held_1 rfl ?_
  refine mV_icmp_ge f10_held_2 (fun h0 => ?_) (fun h0 => ?_)
  · rw [if_pos h0] at hr
    refine mV_iload f10_held_9 rfl ?_
    refine mV_iload f10_held_10 rfl ?_
    refine mV_icmp_le f10_held_11 (fun h1 => ?_) (fun h1 => ?_)
    · rw [if_pos h1] at hr
      refine mV_iload f10_held_18 rfl ?_
      cases hr
      exact mV_iret rfl rfl f10_held_19 hQ
    · rw [if_neg h1] at hr
      refine mV_iload f10_held_14 rfl ?_
      refine mV_goto f10_held_15 ?_
      cases hr
      exact mV_iret rfl rfl f10_held_19 hQ
  · rw [if_neg h0] at hr
    refine mV_iload f10_held_5 rfl ?_
    refine mV_goto f10_held_6 ?_
    cases hr
    exact mV_iret rfl rfl f10_held_19 hQ
theorem c10_held (X : Nat × (Nat → Int32)) (I : mI) (s : Nat) (x0 : Int32) (x1 : Int32) (x2 : Int32) {res : Int32} (hr : r10_held x0 x1 x2 = res) : mC X m10_held 0 0 0 [.ref 119, .int x0, .int x1, .int x2] NN KK I (PP s) (mRet (some (.int res)) NN KK I (PP s)) :=
  mC_of (L0 := [.ref 119, .int x0, .int x1, .int x2]) rfl (Nat.le_of_ble_eq_true rfl) (w10_held X I s x0 x1 x2 _ hr (mRet_ok _ _ _ _ _))
def r10_greater (x0 : Int32) (x1 : Int32) : Int32 := if (x0 : Int32) ≤ (x1 : Int32) then x1 else x0
set_option maxHeartbeats 4000000 in
set_option maxRecDepth 100000 in
theorem w10_greater (X : Nat × (Nat → Int32)) (I : mI) (s : Nat) (x0 : Int32) (x1 : Int32) (Q : mQ) {res : Int32} (hr : r10_greater x0 x1 = res) (hQ : Q (some (.int res)) NN KK I (PP s)) : mV X m10_greater 0 0 0 0 [.ref 119, .int x0, .int x1] [] NN KK I (PP s) Q := by
  unfold r10_greater at hr
  refine mV_iload f10_greater_0 rfl ?_
  refine mV_iload f10_greater_1 rfl ?_
  refine mV_icmp_le f10_greater_2 (fun h0 => ?_) (fun h0 => ?_)
  · rw [if_pos h0] at hr
    refine mV_iload f10_greater_9 rfl ?_
    cases hr
    exact mV_iret rfl rfl f10_greater_10 hQ
  · rw [if_neg h0] at hr
    refine mV_iload f10_greater_5 rfl ?_
    refine mV_goto f10_greater_6 ?_
    cases hr
    exact mV_iret rfl rfl f10_greater_10 hQ
theorem c10_greater (X : Nat × (Nat → Int32)) (I : mI) (s : Nat) (x0 : Int32) (x1 : Int32) {res : Int32} (hr : r10_greater x0 x1 = res) : mC X m10_greater 0 0 0 [.ref 119, .int x0, .int x1] NN KK I (PP s) (mRet (some (.int res)) NN KK I (PP s)) :=
  mC_of (L0 := [.ref 119, .int x0, .int x1]) rfl (Nat.le_of_ble_eq_true rfl) (w10_greater X I s x0 x1 _ hr (mRet_ok _ _ _ _ _))

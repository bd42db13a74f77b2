def r9_look (I : mI) (x0 : Int32) : Int32 := if (x0 : Int32) = 0 then I 8 6 else if (x0 : Int32) = 1 then I 8 7 else if (x0 : Int32) = 2 then I 3 4 else if (x0 : Int32) = 3 then I 3 5 else if (x0 : Int32) = 4 then I 3 6 else if (x0 : Int32) = 5 then I 3 7 else if (x0 : Int32) = 6 then I 3 8 else if (x0 : Int32) = 7 then I 3 9 else if (x0 : Int32) = 8 then I 3 10 else if (x0 : Int32) = 9 then I 3 12 else if (x0 : Int32) = 10 then I 3 11 else if (x0 : Int32) = 11 then I 15 2 else if (x0 : Int32) = 12 then I 18 2 else if (x0 : Int32) = 13 then I 21 2 else if (x0 : Int32) = 14 then I 24 2 else if (x0 : Int32) = 15 then I 77 2 else (-1)
set_option maxHeartbeats 4000000 in
set_option maxRecDepth 100000 in
theorem w9_look (X : Nat × (Nat → Int32)) (I : mI) (s : Nat) (x0 : Int32) (Q : mQ) {res : Int32} (hr : r9_look I x0 = res) (hQ : Q (some (.int res)) NN KK I (PP s)) : mV X m9_look 0 0 0 0 [.ref 0, .int x0, mX0] [] NN KK I (PP s) Q := by
  unfold r9_look at hr
  refine mV_aload f9_look_0 rfl ?_
  refine mV_getP f9_look_1 (by decide) kk_0 rfl (pp_0_1 _) ?_
  refine mV_getP f9_look_4 (by decide) kk_2 rfl (pp_2_0 _) ?_
  refine mV_astore (L' := [.ref 0, .int x0, .ref 3]) f9_look_7 (by decide) rfl rfl ?_
  refine mV_iload f9_look_8 rfl ?_
  by_cases h0 : x0 = 0
  · rw [if_pos h0] at hr
    refine mV_tabEq (v := 0) f9_look_9 h0 (by decide) (by decide) (by decide) (by decide : (9 : Int) + 79 = (88 : Nat)) ?_
    refine mV_aload f9_look_88 rfl ?_
    refine mV_getP f9_look_89 (by decide) kk_0 rfl (pp_0_1 _) ?_
    refine mV_getP f9_look_92 (by decide) kk_2 rfl (pp_2_1 _) ?_
    refine mV_gI (I 8 6) f9_look_95 (by decide) kk_8 rfl rfl ?_
    subst hr
    exact mV_iret rfl rfl f9_look_98 hQ
  rw [if_neg h0] at hr
  by_cases h1 : x0 = 1
  · rw [if_pos h1] at hr
    refine mV_tabEq (v := 1) f9_look_9 h1 (by decide) (by decide) (by decide) (by decide : (9 : Int) + 90 = (99 : Nat)) ?_
    refine mV_aload f9_look_99 rfl ?_
    refine mV_getP f9_look_100 (by decide) kk_0 rfl (pp_0_1 _) ?_
    refine mV_getP f9_look_103 (by decide) kk_2 rfl (pp_2_1 _) ?_
    refine mV_gI (I 8 7) f9_look_106 (by decide) kk_8 rfl rfl ?_
    subst hr
    exact mV_iret rfl rfl f9_look_109 hQ
  rw [if_neg h1] at hr
  by_cases h2 : x0 = 2
  · rw [if_pos h2] at hr
    refine mV_tabEq (v := 2) f9_look_9 h2 (by decide) (by decide) (by decide) (by decide : (9 : Int) + 101 = (110 : Nat)) ?_
    refine mV_aload f9_look_110 rfl ?_
    refine mV_gI (I 3 4) f9_look_111 (by decide) kk_3 rfl rfl ?_
    subst hr
    exact mV_iret rfl rfl f9_look_114 hQ
  rw [if_neg h2] at hr
  by_cases h3 : x0 = 3
  · rw [if_pos h3] at hr
    refine mV_tabEq (v := 3) f9_look_9 h3 (by decide) (by decide) (by decide) (by decide : (9 : Int) + 106 = (115 : Nat)) ?_
    refine mV_aload f9_look_115 rfl ?_
    refine mV_gI (I 3 5) f9_look_116 (by decide) kk_3 rfl rfl ?_
    subst hr
    exact mV_iret rfl rfl f9_look_119 hQ
  rw [if_neg h3] at hr
  by_cases h4 : x0 = 4
  · rw [if_pos h4] at hr
    refine mV_tabEq (v := 4) f9_look_9 h4 (by decide) (by decide) (by decide) (by decide : (9 : Int) + 111 = (120 : Nat)) ?_
    refine mV_aload f9_look_120 rfl ?_
    refine mV_gI (I 3 6) f9_look_121 (by decide) kk_3 rfl rfl ?_
    subst hr
    exact mV_iret rfl rfl f9_look_124 hQ
  rw [if_neg h4] at hr
  by_cases h5 : x0 = 5
  · rw [if_pos h5] at hr
    refine mV_tabEq (v := 5) f9_look_9 h5 (by decide) (by decide) (by decide) (by decide : (9 : Int) + 116 = (125 : Nat)) ?_
    refine mV_aload f9_look_125 rfl ?_
    refine mV_gI (I 3 7) f9_look_126 (by decide) kk_3 rfl rfl ?_
    subst hr
    exact mV_iret rfl rfl f9_look_129 hQ
  rw [if_neg h5] at hr
  by_cases h6 : x0 = 6
  · rw [if_pos h6] at hr
    refine mV_tabEq (v := 6) f9_look_9 h6 (by decide) (by decide) (by decide) (by decide : (9 : Int) + 121 = (130 : Nat)) ?_
    refine mV_aload f9_look_130 rfl ?_
    refine mV_gI (I 3 8) f9_look_131 (by decide) kk_3 rfl rfl ?_
    subst hr
    exact mV_iret rfl rfl f9_look_134 hQ
  rw [if_neg h6] at hr
  by_cases h7 : x0 = 7
  · rw [if_pos h7] at hr
    refine mV_tabEq (v := 7) f9_look_9 h7 (by decide) (by decide) (by decide) (by decide : (9 : Int) + 126 = (135 : Nat)) ?_
    refine mV_aload f9_look_135 rfl ?_
    refine mV_gI (I 3 9) f9_look_136 (by decide) kk_3 rfl rfl ?_
    subst hr
    exact mV_iret rfl rfl f9_look_139 hQ
  rw [if_neg h7] at hr
  by_cases h8 : x0 = 8
  · rw [if_pos h8] at hr
    refine mV_tabEq (v := 8) f9_look_9 h8 (by decide) (by decide) (by decide) (by decide : (9 : Int) + 131 = (140 : Nat)) ?_
    refine mV_aload f9_look_140 rfl ?_
    refine mV_gI (I 3 10) f9_look_141 (by decide) kk_3 rfl rfl ?_
    subst hr
    exact mV_iret rfl rfl f9_look_144 hQ
  rw [if_neg h8] at hr
  by_cases h9 : x0 = 9
  · rw [if_pos h9] at hr
    refine mV_tabEq (v := 9) f9_look_9 h9 (by decide) (by decide) (by decide) (by decide : (9 : Int) + 136 = (145 : Nat)) ?_
    refine mV_aload f9_look_145 rfl ?_
    refine mV_gI (I 3 12) f9_look_146 (by decide) kk_3 rfl rfl ?_
    subst hr
    exact mV_iret rfl rfl f9_look_149 hQ
  rw [if_neg h9] at hr
  by_cases h10 : x0 = 10
  · rw [if_pos h10] at hr
    refine mV_tabEq (v := 10) f9_look_9 h10 (by decide) (by decide) (by decide) (by decide : (9 : Int) + 141 = (150 : Nat)) ?_
    refine mV_aload f9_look_150 rfl ?_
    refine mV_gI (I 3 11) f9_look_151 (by decide) kk_3 rfl rfl ?_
    subst hr
    exact mV_iret rfl rfl f9_look_154 hQ
  rw [if_neg h10] at hr
  by_cases h11 : x0 = 11
  · rw [if_pos h11] at hr
    refine mV_tabEq (v := 11) f9_look_9 h11 (by decide) (by decide) (by decide) (by decide : (9 : Int) + 146 = (155 : Nat)) ?_
    refine mV_aload f9_look_155 rfl ?_
    refine mV_getP f9_look_156 (by decide) kk_0 rfl (pp_0_1 _) ?_
    refine mV_getP f9_look_159 (by decide) kk_2 rfl (pp_2_2 _) ?_
    refine mV_gI (I 15 2) f9_look_162 (by decide) kk_15 rfl rfl ?_
    subst hr
    exact mV_iret rfl rfl f9_look_165 hQ
  rw [if_neg h11] at hr
  by_cases h12 : x0 = 12
  · rw [if_pos h12] at hr
    refine mV_tabEq (v := 12) f9_look_9 h12 (by decide) (by decide) (by decide) (by decide : (9 : Int) + 157 = (166 : Nat)) ?_
    refine mV_aload f9_look_166 rfl ?_
    refine mV_getP f9_look_167 (by decide) kk_0 rfl (pp_0_1 _) ?_
    refine mV_getP f9_look_170 (by decide) kk_2 rfl (pp_2_3 _) ?_
    refine mV_gI (I 18 2) f9_look_173 (by decide) kk_18 rfl rfl ?_
    subst hr
    exact mV_iret rfl rfl f9_look_176 hQ
  rw [if_neg h12] at hr
  by_cases h13 : x0 = 13
  · rw [if_pos h13] at hr
    refine mV_tabEq (v := 13) f9_look_9 h13 (by decide) (by decide) (by decide) (by decide : (9 : Int) + 168 = (177 : Nat)) ?_
    refine mV_aload f9_look_177 rfl ?_
    refine mV_getP f9_look_178 (by decide) kk_0 rfl (pp_0_1 _) ?_
    refine mV_getP f9_look_181 (by decide) kk_2 rfl (pp_2_4 _) ?_
    refine mV_gI (I 21 2) f9_look_184 (by decide) kk_21 rfl rfl ?_
    subst hr
    exact mV_iret rfl rfl f9_look_187 hQ
  rw [if_neg h13] at hr
  by_cases h14 : x0 = 14
  · rw [if_pos h14] at hr
    refine mV_tabEq (v := 14) f9_look_9 h14 (by decide) (by decide) (by decide) (by decide : (9 : Int) + 179 = (188 : Nat)) ?_
    refine mV_aload f9_look_188 rfl ?_
    refine mV_getP f9_look_189 (by decide) kk_0 rfl (pp_0_1 _) ?_
    refine mV_getP f9_look_192 (by decide) kk_2 rfl (pp_2_5 _) ?_
    refine mV_gI (I 24 2) f9_look_195 (by decide) kk_24 rfl rfl ?_
    subst hr
    exact mV_iret rfl rfl f9_look_198 hQ
  rw [if_neg h14] at hr
  by_cases h15 : x0 = 15
  · rw [if_pos h15] at hr
    refine mV_tabEq (v := 15) f9_look_9 h15 (by decide) (by decide) (by decide) (by decide : (9 : Int) + 190 = (199 : Nat)) ?_
    refine mV_aload f9_look_199 rfl ?_
    refine mV_getP f9_look_200 (by decide) kk_0 rfl (pp_0_4 _) ?_
    refine mV_gI (I 77 2) f9_look_203 (by decide) kk_77 rfl rfl ?_
    subst hr
    exact mV_iret rfl rfl f9_look_206 hQ
  rw [if_neg h15] at hr
  refine mV_tabNo f9_look_9 [0, 1, 2, 3, 4, 5, 6, 7, 8, 9, 10, 11, 12, 13, 14, 15] (by decide) (List.forall_mem_cons.mpr ⟨h0, (List.forall_mem_cons.mpr ⟨h1, (List.forall_mem_cons.mpr ⟨h2, (List.forall_mem_cons.mpr ⟨h3, (List.forall_mem_cons.mpr ⟨h4, (List.forall_mem_cons.mpr ⟨h5, (List.forall_mem_cons.mpr ⟨h6, (List.forall_mem_cons.mpr ⟨h7, (List.forall_mem_cons.mpr ⟨h8, (List.forall_mem_cons.mpr ⟨h9, (List.forall_mem_cons.mpr ⟨h10, (List.forall_mem_cons.mpr ⟨h11, (List.forall_mem_cons.mpr ⟨h12, (List.forall_mem_cons.mpr ⟨h13, (List.forall_mem_cons.mpr ⟨h14, (List.forall_mem_cons.mpr ⟨h15, (fun _ hc => absurd hc List.not_mem_nil)⟩)⟩)⟩)⟩)⟩)⟩)⟩)⟩)⟩)⟩)⟩)⟩)⟩)⟩)⟩)⟩) (by decide : (9 : Int) + 198 = (207 : Nat)) ?_
  refine mV_push f9_look_207 ?_
  subst hr
  exact mV_iret rfl rfl f9_look_208 hQ
theorem c9_look (X : Nat × (Nat → Int32)) (I : mI) (s : Nat) (x0 : Int32) {res : Int32} (hr : r9_look I x0 = res) : mC X m9_look 0 0 0 [.ref 0, .int x0] NN KK I (PP s) (mRet (some (.int res)) NN KK I (PP s)) :=
  mC_of (L0 := [.ref 0, .int x0, mX0]) rfl (Nat.le_of_ble_eq_true rfl) (w9_look X I s x0 _ hr (mRet_ok _ _ _ _ _))
def r10_isIn (x0 : Int32) (x1 : Int32) (x2 : Int32) : Int32 := if (x0 : Int32) < (x1 : Int32) then 0 else if (x2 : Int32) < (x0 : Int32) then 0 else 1
set_option maxHeartbeats 4000000 in
set_option maxRecDepth 100000 in
theorem w10_isIn (X : Nat × (Nat → Int32)) (I : mI) (s : Nat) (x0 : Int32) (x1 : Int32) (x2 : Int32) (Q : mQ) {res : Int32} (hr : r10_isIn x0 x1 x2 = res) (hQ : Q (some (.int res)) NN KK I (PP s)) : mV X m10_isIn 0 0 0 0 [.ref 119, .int x0, .int x1, .int x2] [] NN KK I (PP s) Q := by
  unfold r10_isIn at hr
  refine mV_iload f10_isIn_0 rfl ?_
  refine mV_iload f10_isIn_1 rfl ?_
  refine mV_icmp_lt f10_isIn_2 (fun h0 => ?_) (fun h0 => ?_)
  · rw [if_pos h0] at hr
    refine mV_push f10_isIn_14 ?_
    subst hr
    exact mV_iret rfl rfl f10_isIn_15 hQ
  · rw [if_neg h0] at hr
    refine mV_iload f10_isIn_5 rfl ?_
    refine mV_iload f10_isIn_6 rfl ?_
    refine mV_icmp_gt f10_isIn_7 (fun h1 => ?_) (fun h1 => ?_)
    · rw [if_pos h1] at hr
      refine mV_push f10_isIn_14 ?_
      subst hr
      exact mV_iret rfl rfl f10_isIn_15 hQ
    · rw [if_neg h1] at hr
      refine mV_push f10_isIn_10 ?_
      refine mV_goto f10_isIn_11 ?_
      subst hr
      exact mV_iret rfl rfl f10_isIn_15 hQ
theorem c10_isIn (X : Nat × (Nat → Int32)) (I : mI) (s : Nat) (x0 : Int32) (x1 : Int32) (x2 : Int32) {res : Int32} (hr : r10_isIn x0 x1 x2 = res) : mC X m10_isIn 0 0 0 [.ref 119, .int x0, .int x1, .int x2] NN KK I (PP s) (mRet (some (.int res)) NN KK I (PP s)) :=
  mC_of (L0 := [.ref 119, .int x0, .int x1, .int x2]) rfl (Nat.le_of_ble_eq_true rfl) (w10_isIn X I s x0 x1 x2 _ hr (mRet_ok _ _ _ _ _))
def r10_held (x0 : Int32) (x1 : Int32) (x2 : Int32) : Int32 := if (x1 : Int32) ≤ (x0 : Int32) then if (x0 : Int32) ≤ (x2 : Int32) then x0 else x2 else x1
set_option maxHeartbeats 4000000 in
set_option maxRecDepth 100000 in
theorem w10_held (X : Nat × (Nat → Int32)) (I : mI) (s : Nat) (x0 : Int32) (x1 : Int32) (x2 : Int32) (Q : mQ) {res : Int32} (hr : r10_held x0 x1 x2 = res) (hQ : Q (some (.int res)) NN KK I (PP s)) : mV X m10_held 0 0 0 0 [.ref 119, .int x0, .int x1, .int x2] [] NN KK I (PP s) Q := by
  unfold r10_held at hr
  refine mV_iload f10_held_0 rfl ?_
  refine mV_iload f10_held_1 rfl ?_
  refine mV_icmp_ge f10_held_2 (fun h0 => ?_) (fun h0 => ?_)
  · rw [if_pos h0] at hr
    refine mV_iload f10_held_9 rfl ?_
    refine mV_iload f10_held_10 rfl ?_
    refine mV_icmp_le f10_held_11 (fun h1 => ?_) (fun h1 => ?_)
    · rw [if_pos h1] at hr
      refine mV_iload f10_held_18 rfl ?_
      subst hr
      exact mV_iret rfl rfl f10_held_19 hQ
    · rw [if_neg h1] at hr
      refine mV_iload f10_held_14 rfl ?_
      refine mV_goto f10_held_15 ?_
      subst hr
      exact mV_iret rfl rfl f10_held_19 hQ
  · rw [if_neg h0] at hr
    refine mV_iload f10_held_5 rfl ?_
    refine mV_goto f10_held_6 ?_
    subst hr
    exact mV_iret rfl rfl f10_held_19 hQ
theorem c10_held (X : Nat × (Nat → Int32)) (I : mI) (s : Nat) (x0 : Int32) (x1 : Int32) (x2 : Int32) {res : Int32} (hr : r10_held x0 x1 x2 = res) : mC X m10_held 0 0 0 [.ref 119, .int x0, .int x1, .int x2] NN KK I (PP s) (mRet (some (.int res)) NN KK I (PP s)) :=
  mC_of (L0 := [.ref 119, .int x0, .int x1, .int x2]) rfl (Nat.le_of_ble_eq_true rfl) (w10_held X I s x0 x1 x2 _ hr (mRet_ok _ _ _ _ _))
def r10_greater (x0 : Int32) (x1 : Int32) : Int32 := if (x0 : Int32) ≤ (x1 : Int32) then x1 else x0
set_option maxHeartbeats 4000000 in
set_option maxRecDepth 100000 in
theorem w10_greater (X : Nat × (Nat → Int32)) (I : mI) (s : Nat) (x0 : Int32) (x1 : Int32) (Q : mQ) {res : Int32} (hr : r10_greater x0 x1 = res) (hQ : Q (some (.int res)) NN KK I (PP s)) : mV X m10_greater 0 0 0 0 [.ref 119, .int x0, .int x1] [] NN KK I (PP s) Q := by
  unfold r10_greater at hr
  refine mV_iload f10_greater_0 rfl ?_
  refine mV_iload f10_greater_1 rfl ?_
  refine mV_icmp_le f10_greater_2 (fun h0 => ?_) (fun h0 => ?_)
  · rw [if_pos h0] at hr
    refine mV_iload f10_greater_9 rfl ?_
    subst hr
    exact mV_iret rfl rfl f10_greater_10 hQ
  · rw [if_neg h0] at hr
    refine mV_iload f10_greater_5 rfl ?_
    refine mV_goto f10_greater_6 ?_
    subst hr
    exact mV_iret rfl rfl f10_greater_10 hQ
theorem c10_greater (X : Nat × (Nat → Int32)) (I : mI) (s : Nat) (x0 : Int32) (x1 : Int32) {res : Int32} (hr : r10_greater x0 x1 = res) : mC X m10_greater 0 0 0 [.ref 119, .int x0, .int x1] NN KK I (PP s) (mRet (some (.int res)) NN KK I (PP s)) :=
  mC_of (L0 := [.ref 119, .int x0, .int x1]) rfl (Nat.le_of_ble_eq_true rfl) (w10_greater X I s x0 x1 _ hr (mRet_ok _ _ _ _ _))
def r10_lesser (x0 : Int32) (x1 : Int32) : Int32 := if (x1 : Int32) ≤ (x0 : Int32) then x1 else x0
set_option maxHeartbeats 4000000 in
set_option maxRecDepth 100000 in
theorem w10_lesser (X : Nat × (Nat → Int32)) (I : mI) (s : Nat) (x0 : Int32) (x1 : Int32) (Q : mQ) {res : Int32} (hr : r10_lesser x0 x1 = res) (hQ : Q (some (.int res)) NN KK I (PP s)) : mV X m10_lesser 0 0 0 0 [.ref 119, .int x0, .int x1] [] NN KK I (PP s) Q := by
  unfold r10_lesser at hr
  refine mV_iload f10_lesser_0 rfl ?_
  refine mV_iload f10_lesser_1 rfl ?_
  refine mV_icmp_ge f10_lesser_2 (fun h0 => ?_) (fun h0 => ?_)
  · rw [if_pos h0] at hr
    refine mV_iload f10_lesser_9 rfl ?_
    subst hr
    exact mV_iret rfl rfl f10_lesser_10 hQ
  · rw [if_neg h0] at hr
    refine mV_iload f10_lesser_5 rfl ?_
    refine mV_goto f10_lesser_6 ?_
    subst hr
    exact mV_iret rfl rfl f10_lesser_10 hQ
theorem c10_lesser (X : Nat × (Nat → Int32)) (I : mI) (s : Nat) (x0 : Int32) (x1 : Int32) {res : Int32} (hr : r10_lesser x0 x1 = res) : mC X m10_lesser 0 0 0 [.ref 119, .int x0, .int x1] NN KK I (PP s) (mRet (some (.int res)) NN KK I (PP s)) :=
  mC_of (L0 := [.ref 119, .int x0, .int x1]) rfl (Nat.le_of_ble_eq_true rfl) (w10_lesser X I s x0 x1 _ hr (mRet_ok _ _ _ _ _))
def r10_apart (x0 : Int32) (x1 : Int32) : Int32 := if (x0 : Int32) ≤ (x1 : Int32) then (x1 - x0) else (x0 - x1)
set_option maxHeartbeats 4000000 in
set_option maxRecDepth 100000 in
theorem w10_apart (X : Nat × (Nat → Int32)) (I : mI) (s : Nat) (x0 : Int32) (x1 : Int32) (Q : mQ) {res : Int32} (hr : r10_apart x0 x1 = res) (hQ : Q (some (.int res)) NN KK I (PP s)) : mV X m10_apart 0 0 0 0 [.ref 119, .int x0, .int x1] [] NN KK I (PP s) Q := by
  unfold r10_apart at hr
  refine mV_iload f10_apart_0 rfl ?_
  refine mV_iload f10_apart_1 rfl ?_
  refine mV_icmp_le f10_apart_2 (fun h0 => ?_) (fun h0 => ?_)
  · rw [if_pos h0] at hr
    refine mV_iload f10_apart_11 rfl ?_
    refine mV_iload f10_apart_12 rfl ?_
    refine mV_isub f10_apart_13 ?_
    subst hr
    exact mV_iret rfl rfl f10_apart_14 hQ
  · rw [if_neg h0] at hr
    refine mV_iload f10_apart_5 rfl ?_
    refine mV_iload f10_apart_6 rfl ?_
    refine mV_isub f10_apart_7 ?_
    refine mV_goto f10_apart_8 ?_
    subst hr
    exact mV_iret rfl rfl f10_apart_14 hQ
theorem c10_apart (X : Nat × (Nat → Int32)) (I : mI) (s : Nat) (x0 : Int32) (x1 : Int32) {res : Int32} (hr : r10_apart x0 x1 = res) : mC X m10_apart 0 0 0 [.ref 119, .int x0, .int x1] NN KK I (PP s) (mRet (some (.int res)) NN KK I (PP s)) :=
  mC_of (L0 := [.ref 119, .int x0, .int x1]) rfl (Nat.le_of_ble_eq_true rfl) (w10_apart X I s x0 x1 _ hr (mRet_ok _ _ _ _ _))
def r10_added (x0 : Int32) (x1 : Int32) : Int32 := if (x0 : Int32) < ((1000000007 - x1) : Int32) then (x0 + x1) else (x0 - (1000000007 - x1))
set_option maxHeartbeats 4000000 in
set_option maxRecDepth 100000 in
theorem w10_added (X : Nat × (Nat → Int32)) (I : mI) (s : Nat) (x0 : Int32) (x1 : Int32) (Q : mQ) {res : Int32} (hr : r10_added x0 x1 = res) (hQ : Q (some (.int res)) NN KK I (PP s)) : mV X m10_added 0 0 0 0 [.ref 119, .int x0, .int x1] [] NN KK I (PP s) Q := by
  unfold r10_added at hr
  refine mV_iload f10_added_0 rfl ?_
  refine mV_push f10_added_1 ?_
  refine mV_iload f10_added_3 rfl ?_
  refine mV_isub f10_added_4 ?_
  refine mV_icmp_lt f10_added_5 (fun h0 => ?_) (fun h0 => ?_)
  · rw [if_pos h0] at hr
    refine mV_iload f10_added_17 rfl ?_
    refine mV_iload f10_added_18 rfl ?_
    refine mV_iadd f10_added_19 ?_
    subst hr
    exact mV_iret rfl rfl f10_added_20 hQ
  · rw [if_neg h0] at hr
    refine mV_iload f10_added_8 rfl ?_
    refine mV_push f10_added_9 ?_
    refine mV_iload f10_added_11 rfl ?_
    refine mV_isub f10_added_12 ?_
    refine mV_isub f10_added_13 ?_
    refine mV_goto f10_added_14 ?_
    subst hr
    exact mV_iret rfl rfl f10_added_20 hQ
theorem c10_added (X : Nat × (Nat → Int32)) (I : mI) (s : Nat) (x0 : Int32) (x1 : Int32) {res : Int32} (hr : r10_added x0 x1 = res) : mC X m10_added 0 0 0 [.ref 119, .int x0, .int x1] NN KK I (PP s) (mRet (some (.int res)) NN KK I (PP s)) :=
  mC_of (L0 := [.ref 119, .int x0, .int x1]) rfl (Nat.le_of_ble_eq_true rfl) (w10_added X I s x0 x1 _ hr (mRet_ok _ _ _ _ _))
def l10_onesOf_4 : Nat → Int32 → Int32 → Option (Int32)
  | 0, _, _ => none
  | f + 1, y2, y3 => if (y3 : Int32) = (0 : Int32) then some y2 else l10_onesOf_4 f (y2 + 1) (y3 &&& (y3 - 1))
def r10_onesOf (x0 : Int32) : Option (Int32) := (l10_onesOf_4 FU 0 x0).bind fun z0 => some z0
set_option maxHeartbeats 4000000 in
set_option maxRecDepth 100000 in
theorem t10_onesOf_4 (X : Nat × (Nat → Int32)) (Q : mQ) (s : Nat) (I : mI) : ∀ (f : Nat) (y2 : Int32) (y3 : Int32) (z : Int32), l10_onesOf_4 f y2 y3 = some z → mV X m10_onesOf 0 0 0 21 [.ref 119, mX0, .int z, mX0] [] NN KK I (PP s) Q → mV X m10_onesOf 0 0 0 4 [.ref 119, mX0, .int y2, .int y3] [] NN KK I (PP s) Q := by
  intro f
  induction f with
  | zero => intro y2 y3 z hr hk; cases hr
  | succ f ih =>
    intro y2 y3 z hr hk
    unfold l10_onesOf_4 at hr
    refine mV_iload f10_onesOf_4 rfl ?_
    refine mV_if_eq f10_onesOf_5 (fun h0 => ?_) (fun h0 => ?_)
    · rw [if_pos h0] at hr
      have hr := Option.some.inj hr; subst hr
      refine mV_drop (L' := [.ref 119, mX0, .int y2, mX0]) (mSub_k (mSub_x (mSub_k (mSub_x mSub_n)))) ?_
      exact hk
    · rw [if_neg h0] at hr
      refine mV_iload f10_onesOf_8 rfl ?_
      refine mV_push f10_onesOf_9 ?_
      refine mV_iadd f10_onesOf_10 ?_
      refine mV_istore (L' := [.ref 119, mX0, .int (y2 + 1), .int y3]) f10_onesOf_11 (by decide) rfl rfl ?_
      refine mV_iload f10_onesOf_12 rfl ?_
      refine mV_iload f10_onesOf_13 rfl ?_
      refine mV_push f10_onesOf_14 ?_
      refine mV_isub f10_onesOf_15 ?_
      refine mV_iand f10_onesOf_16 ?_
      refine mV_istore (L' := [.ref 119, mX0, .int (y2 + 1), .int (y3 &&& (y3 - 1))]) f10_onesOf_17 (by decide) rfl rfl ?_
      refine mV_goto f10_onesOf_18 ?_
      exact ih (y2 + 1) (y3 &&& (y3 - 1)) _ hr hk
set_option maxHeartbeats 4000000 in
set_option maxRecDepth 100000 in
theorem w10_onesOf (X : Nat × (Nat → Int32)) (I : mI) (s : Nat) (x0 : Int32) (Q : mQ) {res : Int32} (hr : r10_onesOf x0 = some res) (hQ : Q (some (.int res)) NN KK I (PP s)) : mV X m10_onesOf 0 0 0 0 [.ref 119, .int x0, mX0, mX0] [] NN KK I (PP s) Q := by
  unfold r10_onesOf at hr
  refine mV_push f10_onesOf_0 ?_
  refine mV_istore (L' := [.ref 119, .int x0, .int 0, mX0]) f10_onesOf_1 (by decide) rfl rfl ?_
  refine mV_iload f10_onesOf_2 rfl ?_
  refine mV_istore (L' := [.ref 119, .int x0, .int 0, .int x0]) f10_onesOf_3 (by decide) rfl rfl ?_
  obtain ⟨z0, hz0, hr⟩ := mBind hr
  refine mV_drop (L' := [.ref 119, mX0, .int 0, .int x0]) (mSub_k (mSub_x (mSub_k (mSub_k mSub_n)))) ?_
  refine t10_onesOf_4 X Q s I FU 0 x0 _ hz0 ?_
  refine mV_iload f10_onesOf_21 rfl ?_
  have hr := Option.some.inj hr; subst hr
  exact mV_iret rfl rfl f10_onesOf_22 hQ
theorem c10_onesOf (X : Nat × (Nat → Int32)) (I : mI) (s : Nat) (x0 : Int32) {res : Int32} (hr : r10_onesOf x0 = some res) : mC X m10_onesOf 0 0 0 [.ref 119, .int x0] NN KK I (PP s) (mRet (some (.int res)) NN KK I (PP s)) :=
  mC_of (L0 := [.ref 119, .int x0, mX0, mX0]) rfl (Nat.le_of_ble_eq_true rfl) (w10_onesOf X I s x0 _ hr (mRet_ok _ _ _ _ _))
def r10_has (x0 : Int32) (x1 : Int32) : Int32 := if (((x0 >>> (x1 &&& 31)) &&& 1) : Int32) = (1 : Int32) then 1 else 0
set_option maxHeartbeats 4000000 in
set_option maxRecDepth 100000 in
theorem w10_has (X : Nat × (Nat → Int32)) (I : mI) (s : Nat) (x0 : Int32) (x1 : Int32) (Q : mQ) {res : Int32} (hr : r10_has x0 x1 = res) (hQ : Q (some (.int res)) NN KK I (PP s)) : mV X m10_has 0 0 0 0 [.ref 119, .int x0, .int x1] [] NN KK I (PP s) Q := by
  unfold r10_has at hr
  refine mV_iload f10_has_0 rfl ?_
  refine mV_iload f10_has_1 rfl ?_
  refine mV_ishr f10_has_2 ?_
  refine mV_push f10_has_3 ?_
  refine mV_iand f10_has_4 ?_
  refine mV_push f10_has_5 ?_
  refine mV_icmp_ne f10_has_6 (fun h0 => ?_) (fun h0 => ?_)
  · rw [if_neg h0] at hr
    refine mV_push f10_has_13 ?_
    subst hr
    exact mV_iret rfl rfl f10_has_14 hQ
  · rw [if_pos h0] at hr
    refine mV_push f10_has_9 ?_
    refine mV_goto f10_has_10 ?_
    subst hr
    exact mV_iret rfl rfl f10_has_14 hQ
theorem c10_has (X : Nat × (Nat → Int32)) (I : mI) (s : Nat) (x0 : Int32) (x1 : Int32) {res : Int32} (hr : r10_has x0 x1 = res) : mC X m10_has 0 0 0 [.ref 119, .int x0, .int x1] NN KK I (PP s) (mRet (some (.int res)) NN KK I (PP s)) :=
  mC_of (L0 := [.ref 119, .int x0, .int x1]) rfl (Nat.le_of_ble_eq_true rfl) (w10_has X I s x0 x1 _ hr (mRet_ok _ _ _ _ _))
def l10_keepsAhead_21 : Nat → Int32 → mI → Option (mI)
  | 0, _, _ => none
  | f + 1, y1, I => if ((47 * I 119 3) : Int32) ≤ (y1 : Int32) then some I else (mLd I 121 282 (y1 + 47)).bind fun z0 => (mSto I 121 282 y1 z0).bind fun z1 => l10_keepsAhead_21 f (y1 + 1) z1
def l10_keepsAhead_55 : Nat → Int32 → mI → Option (mI)
  | 0, _, _ => none
  | f + 1, y1, I => if (47 : Int32) ≤ (y1 : Int32) then some I else (mLd I 120 47 y1).bind fun z0 => (mSto I 121 282 ((47 * I 119 3) + y1) z0).bind fun z1 => l10_keepsAhead_55 f (y1 + 1) z1
def r10_keepsAhead (I : mI) : Option (mI) := (if (I 119 3 : Int32) = (6 : Int32) then (l10_keepsAhead_21 FU 0 (mW I 119 3 (I 119 3 - 1))).bind fun z1 => some z1 else some I : Option (mI)).bind fun z0 => (l10_keepsAhead_55 FU 0 z0).bind fun z2 => some (mW z2 119 3 (z2 119 3 + 1))
set_option maxHeartbeats 4000000 in
set_option maxRecDepth 100000 in
theorem t10_keepsAhead_21 (X : Nat × (Nat → Int32)) (Q : mQ) (s : Nat) : ∀ (f : Nat) (y1 : Int32) (I : mI) (z : mI), l10_keepsAhead_21 f y1 I = some z → mV X m10_keepsAhead 0 0 0 53 [.ref 119, mX0] [] NN KK z (PP s) Q → mV X m10_keepsAhead 0 0 0 21 [.ref 119, .int y1] [] NN KK I (PP s) Q := by
  intro f
  induction f with
  | zero => intro y1 I z hr hk; cases hr
  | succ f ih =>
    intro y1 I z hr hk
    unfold l10_keepsAhead_21 at hr
    refine mV_iload f10_keepsAhead_21 rfl ?_
    refine mV_push f10_keepsAhead_22 ?_
    refine mV_aload f10_keepsAhead_24 rfl ?_
    refine mV_gI (I 119 3) f10_keepsAhead_25 (by decide) kk_119 rfl rfl ?_
    refine mV_imul f10_keepsAhead_28 ?_
    refine mV_icmp_ge f10_keepsAhead_29 (fun h0 => ?_) (fun h0 => ?_)
    · rw [if_pos h0] at hr
      have hr := Option.some.inj hr; subst hr
      refine mV_drop (L' := [.ref 119, mX0]) (mSub_k (mSub_x mSub_n)) ?_
      exact hk
    · rw [if_neg h0] at hr
      refine mV_aload f10_keepsAhead_32 rfl ?_
      refine mV_getP f10_keepsAhead_33 (by decide) kk_119 rfl (pp_119_2 _) ?_
      refine mV_iload f10_keepsAhead_36 rfl ?_
      refine mV_aload f10_keepsAhead_37 rfl ?_
      refine mV_getP f10_keepsAhead_38 (by decide) kk_119 rfl (pp_119_2 _) ?_
      refine mV_iload f10_keepsAhead_41 rfl ?_
      refine mV_push f10_keepsAhead_42 ?_
      refine mV_iadd f10_keepsAhead_44 ?_
      obtain ⟨z0, hz0, hr⟩ := mBind hr
      refine mV_ldO f10_keepsAhead_45 (by decide) kk_121 hz0 ?_
      obtain ⟨z1, hz1, hr⟩ := mBind hr
      refine mV_stO f10_keepsAhead_46 (by decide) kk_121 hz1 ?_
      refine mV_iinc (y := (y1 + 1)) (L' := [.ref 119, .int (y1 + 1)]) f10_keepsAhead_47 rfl rfl (by decide) rfl rfl ?_
      refine mV_goto f10_keepsAhead_50 ?_
      exact ih (y1 + 1) z1 _ hr hk
set_option maxHeartbeats 4000000 in
set_option maxRecDepth 100000 in
theorem t10_keepsAhead_55 (X : Nat × (Nat → Int32)) (Q : mQ) (s : Nat) : ∀ (f : Nat) (y1 : Int32) (I : mI) (z : mI), l10_keepsAhead_55 f y1 I = some z → mV X m10_keepsAhead 0 0 0 87 [.ref 119, mX0] [] NN KK z (PP s) Q → mV X m10_keepsAhead 0 0 0 55 [.ref 119, .int y1] [] NN KK I (PP s) Q := by
  intro f
  induction f with
  | zero => intro y1 I z hr hk; cases hr
  | succ f ih =>
    intro y1 I z hr hk
    unfold l10_keepsAhead_55 at hr
    refine mV_iload f10_keepsAhead_55 rfl ?_
    refine mV_push f10_keepsAhead_56 ?_
    refine mV_icmp_ge f10_keepsAhead_58 (fun h0 => ?_) (fun h0 => ?_)
    · rw [if_pos h0] at hr
      have hr := Option.some.inj hr; subst hr
      refine mV_drop (L' := [.ref 119, mX0]) (mSub_k (mSub_x mSub_n)) ?_
      exact hk
    · rw [if_neg h0] at hr
      refine mV_aload f10_keepsAhead_61 rfl ?_
      refine mV_getP f10_keepsAhead_62 (by decide) kk_119 rfl (pp_119_2 _) ?_
      refine mV_push f10_keepsAhead_65 ?_
      refine mV_aload f10_keepsAhead_67 rfl ?_
      refine mV_gI (I 119 3) f10_keepsAhead_68 (by decide) kk_119 rfl rfl ?_
      refine mV_imul f10_keepsAhead_71 ?_
      refine mV_iload f10_keepsAhead_72 rfl ?_
      refine mV_iadd f10_keepsAhead_73 ?_
      refine mV_aload f10_keepsAhead_74 rfl ?_
      refine mV_getP f10_keepsAhead_75 (by decide) kk_119 rfl (pp_119_1 _) ?_
      refine mV_iload f10_keepsAhead_78 rfl ?_
      obtain ⟨z0, hz0, hr⟩ := mBind hr
      refine mV_ldO f10_keepsAhead_79 (by decide) kk_120 hz0 ?_
      obtain ⟨z1, hz1, hr⟩ := mBind hr
      refine mV_stO f10_keepsAhead_80 (by decide) kk_121 hz1 ?_
      refine mV_iinc (y := (y1 + 1)) (L' := [.ref 119, .int (y1 + 1)]) f10_keepsAhead_81 rfl rfl (by decide) rfl rfl ?_
      refine mV_goto f10_keepsAhead_84 ?_
      exact ih (y1 + 1) z1 _ hr hk
set_option maxHeartbeats 4000000 in
set_option maxRecDepth 100000 in
theorem w10_keepsAhead (X : Nat × (Nat → Int32)) (I : mI) (s : Nat) (Q : mQ) {res : mI} (hr : r10_keepsAhead I = some res) (hQ : Q none NN KK res (PP s)) : mV X m10_keepsAhead 0 0 0 0 [.ref 119, mX0] [] NN KK I (PP s) Q := by
  unfold r10_keepsAhead at hr
  refine mV_aload f10_keepsAhead_0 rfl ?_
  refine mV_gI (I 119 3) f10_keepsAhead_1 (by decide) kk_119 rfl rfl ?_
  refine mV_push f10_keepsAhead_4 ?_
  obtain ⟨z0, hz0, hr⟩ := mBind hr
  have keyz0 : mV X m10_keepsAhead 0 0 0 53 [.ref 119, mX0] [] NN KK z0 (PP s) Q := by
    refine mV_push f10_keepsAhead_53 ?_
    refine mV_istore (L' := [.ref 119, .int 0]) f10_keepsAhead_54 (by decide) rfl rfl ?_
    obtain ⟨z2, hz2, hr⟩ := mBind hr
    refine t10_keepsAhead_55 X Q s FU 0 z0 _ hz2 ?_
    refine mV_aload f10_keepsAhead_87 rfl ?_
    refine mV_aload f10_keepsAhead_88 rfl ?_
    refine mV_gI (z2 119 3) f10_keepsAhead_89 (by decide) kk_119 rfl rfl ?_
    refine mV_push f10_keepsAhead_92 ?_
    refine mV_iadd f10_keepsAhead_93 ?_
    refine mV_putI f10_keepsAhead_94 (by decide) kk_119 rfl rfl ?_
    have hr := Option.some.inj hr; subst hr
    exact mV_vret rfl f10_keepsAhead_97 hQ
  clear hr
  have hr := hz0
  clear hz0
  refine mV_icmp_ne f10_keepsAhead_6 (fun h0 => ?_) (fun h0 => ?_)
  · rw [if_neg h0] at hr
    have hr := Option.some.inj hr; subst hr
    exact keyz0
  · rw [if_pos h0] at hr
    refine mV_aload f10_keepsAhead_9 rfl ?_
    refine mV_aload f10_keepsAhead_10 rfl ?_
    refine mV_gI (I 119 3) f10_keepsAhead_11 (by decide) kk_119 rfl rfl ?_
    refine mV_push f10_keepsAhead_14 ?_
    refine mV_isub f10_keepsAhead_15 ?_
    refine mV_putI f10_keepsAhead_16 (by decide) kk_119 rfl rfl ?_
    refine mV_push f10_keepsAhead_19 ?_
    refine mV_istore (L' := [.ref 119, .int 0]) f10_keepsAhead_20 (by decide) rfl rfl ?_
    obtain ⟨z1, hz1, hr⟩ := mBind hr
    refine t10_keepsAhead_21 X Q s FU 0 (mW I 119 3 (I 119 3 - 1)) _ hz1 ?_
    have hr := Option.some.inj hr; subst hr
    exact keyz0
theorem c10_keepsAhead (X : Nat × (Nat → Int32)) (I : mI) (s : Nat) {res : mI} (hr : r10_keepsAhead I = some res) : mC X m10_keepsAhead 0 0 0 [.ref 119] NN KK I (PP s) (mRet none NN KK res (PP s)) :=
  mC_of (L0 := [.ref 119, mX0]) rfl (Nat.le_of_ble_eq_true rfl) (w10_keepsAhead X I s _ hr (mRet_ok _ _ _ _ _))
def l10_undo_26 : Nat → Int32 → mI → Option (mI)
  | 0, _, _ => none
  | f + 1, y1, I => if (47 : Int32) ≤ (y1 : Int32) then some I else (mLd I 121 282 ((47 * I 119 3) + y1)).bind fun z0 => (mSto I 120 47 y1 z0).bind fun z1 => l10_undo_26 f (y1 + 1) z1
def r10_undo (I : mI) : Option (Int32 × mI) := if (I 119 3 : Int32) = (0 : Int32) then some (0, (mW I 119 0 0)) else (l10_undo_26 FU 0 (mW (mW I 119 0 0) 119 3 (I 119 3 - 1))).bind fun z0 => some (1, z0)
set_option maxHeartbeats 4000000 in
set_option maxRecDepth 100000 in
theorem t10_undo_26 (X : Nat × (Nat → Int32)) (Q : mQ) (s : Nat) : ∀ (f : Nat) (y1 : Int32) (I : mI) (z : mI), l10_undo_26 f y1 I = some z → mV X m10_undo 0 0 0 58 [.ref 119, mX0] [] NN KK z (PP s) Q → mV X m10_undo 0 0 0 26 [.ref 119, .int y1] [] NN KK I (PP s) Q := by
  intro f
  induction f with
  | zero => intro y1 I z hr hk; cases hr
  | succ f ih =>
    intro y1 I z hr hk
    unfold l10_undo_26 at hr
    refine mV_iload f10_undo_26 rfl ?_
    refine mV_push f10_undo_27 ?_
    refine mV_icmp_ge f10_undo_29 (fun h0 => ?_) (fun h0 => ?_)
    · rw [if_pos h0] at hr
      have hr := Option.some.inj hr; subst hr
      refine mV_drop (L' := [.ref 119, mX0]) (mSub_k (mSub_x mSub_n)) ?_
      exact hk
    · rw [if_neg h0] at hr
      refine mV_aload f10_undo_32 rfl ?_
      refine mV_getP f10_undo_33 (by decide) kk_119 rfl (pp_119_1 _) ?_
      refine mV_iload f10_undo_36 rfl ?_
      refine mV_aload f10_undo_37 rfl ?_
      refine mV_getP f10_undo_38 (by decide) kk_119 rfl (pp_119_2 _) ?_
      refine mV_push f10_undo_41 ?_
      refine mV_aload f10_undo_43 rfl ?_
      refine mV_gI (I 119 3) f10_undo_44 (by decide) kk_119 rfl rfl ?_
      refine mV_imul f10_undo_47 ?_
      refine mV_iload f10_undo_48 rfl ?_
      refine mV_iadd f10_undo_49 ?_
      obtain ⟨z0, hz0, hr⟩ := mBind hr
      refine mV_ldO f10_undo_50 (by decide) kk_121 hz0 ?_
      obtain ⟨z1, hz1, hr⟩ := mBind hr
      refine mV_stO f10_undo_51 (by decide) kk_120 hz1 ?_
      refine mV_iinc (y := (y1 + 1)) (L' := [.ref 119, .int (y1 + 1)]) f10_undo_52 rfl rfl (by decide) rfl rfl ?_
      refine mV_goto f10_undo_55 ?_
      exact ih (y1 + 1) z1 _ hr hk
set_option maxHeartbeats 4000000 in
set_option maxRecDepth 100000 in
theorem w10_undo (X : Nat × (Nat → Int32)) (I : mI) (s : Nat) (Q : mQ) {res : Int32 × mI} (hr : r10_undo I = some res) (hQ : Q (some (.int res.1)) NN KK res.2 (PP s)) : mV X m10_undo 0 0 0 0 [.ref 119, mX0] [] NN KK I (PP s) Q := by
  unfold r10_undo at hr
  refine mV_aload f10_undo_0 rfl ?_
  refine mV_push f10_undo_1 ?_
  refine mV_putI f10_undo_2 (by decide) kk_119 rfl rfl ?_
  refine mV_aload f10_undo_5 rfl ?_
  refine mV_gI (I 119 3) f10_undo_6 (by decide) kk_119 rfl rfl ?_
  refine mV_if_ne f10_undo_9 (fun h0 => ?_) (fun h0 => ?_)
  · rw [if_neg h0] at hr
    refine mV_aload f10_undo_14 rfl ?_
    refine mV_aload f10_undo_15 rfl ?_
    refine mV_gI (I 119 3) f10_undo_16 (by decide) kk_119 rfl rfl ?_
    refine mV_push f10_undo_19 ?_
    refine mV_isub f10_undo_20 ?_
    refine mV_putI f10_undo_21 (by decide) kk_119 rfl rfl ?_
    refine mV_push f10_undo_24 ?_
    refine mV_istore (L' := [.ref 119, .int 0]) f10_undo_25 (by decide) rfl rfl ?_
    obtain ⟨z0, hz0, hr⟩ := mBind hr
    refine t10_undo_26 X Q s FU 0 (mW (mW I 119 0 0) 119 3 (I 119 3 - 1)) _ hz0 ?_
    refine mV_push f10_undo_58 ?_
    have hr := Option.some.inj hr; subst hr
    exact mV_iret rfl rfl f10_undo_59 hQ
  · rw [if_pos h0] at hr
    refine mV_push f10_undo_12 ?_
    have hr := Option.some.inj hr; subst hr
    exact mV_iret rfl rfl f10_undo_13 hQ
theorem c10_undo (X : Nat × (Nat → Int32)) (I : mI) (s : Nat) {res : Int32 × mI} (hr : r10_undo I = some res) : mC X m10_undo 0 0 0 [.ref 119] NN KK I (PP s) (mRet (some (.int res.1)) NN KK res.2 (PP s)) :=
  mC_of (L0 := [.ref 119, mX0]) rfl (Nat.le_of_ble_eq_true rfl) (w10_undo X I s _ hr (mRet_ok _ _ _ _ _))
def l10_thinks_2 : Nat → Int32 → mI → Option (mI)
  | 0, _, _ => none
  | f + 1, y1, I => if (47 : Int32) ≤ (y1 : Int32) then some I else (mLd I 120 47 y1).bind fun z0 => (mSto I 122 47 y1 z0).bind fun z1 => l10_thinks_2 f (y1 + 1) z1
def r10_thinks (I : mI) : Option (mI) := (l10_thinks_2 FU 0 I).bind fun z0 => some (mW z0 119 5 1)
set_option maxHeartbeats 4000000 in
set_option maxRecDepth 100000 in
theorem t10_thinks_2 (X : Nat × (Nat → Int32)) (Q : mQ) (s : Nat) : ∀ (f : Nat) (y1 : Int32) (I : mI) (z : mI), l10_thinks_2 f y1 I = some z → mV X m10_thinks 0 0 0 26 [.ref 119, mX0] [] NN KK z (PP s) Q → mV X m10_thinks 0 0 0 2 [.ref 119, .int y1] [] NN KK I (PP s) Q := by
  intro f
  induction f with
  | zero => intro y1 I z hr hk; cases hr
  | succ f ih =>
    intro y1 I z hr hk
    unfold l10_thinks_2 at hr
    refine mV_iload f10_thinks_2 rfl ?_
    refine mV_push f10_thinks_3 ?_
    refine mV_icmp_ge f10_thinks_5 (fun h0 => ?_) (fun h0 => ?_)
    · rw [if_pos h0] at hr
      have hr := Option.some.inj hr; subst hr
      refine mV_drop (L' := [.ref 119, mX0]) (mSub_k (mSub_x mSub_n)) ?_
      exact hk
    · rw [if_neg h0] at hr
      refine mV_aload f10_thinks_8 rfl ?_
      refine mV_getP f10_thinks_9 (by decide) kk_119 rfl (pp_119_4 _) ?_
      refine mV_iload f10_thinks_12 rfl ?_
      refine mV_aload f10_thinks_13 rfl ?_
      refine mV_getP f10_thinks_14 (by decide) kk_119 rfl (pp_119_1 _) ?_
      refine mV_iload f10_thinks_17 rfl ?_
      obtain ⟨z0, hz0, hr⟩ := mBind hr
      refine mV_ldO f10_thinks_18 (by decide) kk_120 hz0 ?_
      obtain ⟨z1, hz1, hr⟩ := mBind hr
      refine mV_stO f10_thinks_19 (by decide) kk_122 hz1 ?_
      refine mV_iinc (y := (y1 + 1)) (L' := [.ref 119, .int (y1 + 1)]) f10_thinks_20 rfl rfl (by decide) rfl rfl ?_
      refine mV_goto f10_thinks_23 ?_
      exact ih (y1 + 1) z1 _ hr hk
set_option maxHeartbeats 4000000 in
set_option maxRecDepth 100000 in
theorem w10_thinks (X : Nat × (Nat → Int32)) (I : mI) (s : Nat) (Q : mQ) {res : mI} (hr : r10_thinks I = some res) (hQ : Q none NN KK res (PP s)) : mV X m10_thinks 0 0 0 0 [.ref 119, mX0] [] NN KK I (PP s) Q := by
  unfold r10_thinks at hr
  refine mV_push f10_thinks_0 ?_
  refine mV_istore (L' := [.ref 119, .int 0]) f10_thinks_1 (by decide) rfl rfl ?_
  obtain ⟨z0, hz0, hr⟩ := mBind hr
  refine t10_thinks_2 X Q s FU 0 I _ hz0 ?_
  refine mV_aload f10_thinks_26 rfl ?_
  refine mV_push f10_thinks_27 ?_
  refine mV_putI f10_thinks_28 (by decide) kk_119 rfl rfl ?_
  have hr := Option.some.inj hr; subst hr
  exact mV_vret rfl f10_thinks_31 hQ
theorem c10_thinks (X : Nat × (Nat → Int32)) (I : mI) (s : Nat) {res : mI} (hr : r10_thinks I = some res) : mC X m10_thinks 0 0 0 [.ref 119] NN KK I (PP s) (mRet none NN KK res (PP s)) :=
  mC_of (L0 := [.ref 119, mX0]) rfl (Nat.le_of_ble_eq_true rfl) (w10_thinks X I s _ hr (mRet_ok _ _ _ _ _))
def l10_endsThought_2 : Nat → Int32 → mI → Option (mI)
  | 0, _, _ => none
  | f + 1, y1, I => if (47 : Int32) ≤ (y1 : Int32) then some I else (mLd I 122 47 y1).bind fun z0 => (mSto I 120 47 y1 z0).bind fun z1 => l10_endsThought_2 f (y1 + 1) z1
def r10_endsThought (I : mI) : Option (mI) := (l10_endsThought_2 FU 0 I).bind fun z0 => some (mW z0 119 5 0)
set_option maxHeartbeats 4000000 in
set_option maxRecDepth 100000 in
theorem t10_endsThought_2 (X : Nat × (Nat → Int32)) (Q : mQ) (s : Nat) : ∀ (f : Nat) (y1 : Int32) (I : mI) (z : mI), l10_endsThought_2 f y1 I = some z → mV X m10_endsThought 0 0 0 26 [.ref 119, mX0] [] NN KK z (PP s) Q → mV X m10_endsThought 0 0 0 2 [.ref 119, .int y1] [] NN KK I (PP s) Q := by
  intro f
  induction f with
  | zero => intro y1 I z hr hk; cases hr
  | succ f ih =>
    intro y1 I z hr hk
    unfold l10_endsThought_2 at hr
    refine mV_iload f10_endsThought_2 rfl ?_
    refine mV_push f10_endsThought_3 ?_
    refine mV_icmp_ge f10_endsThought_5 (fun h0 => ?_) (fun h0 => ?_)
    · rw [if_pos h0] at hr
      have hr := Option.some.inj hr; subst hr
      refine mV_drop (L' := [.ref 119, mX0]) (mSub_k (mSub_x mSub_n)) ?_
      exact hk
    · rw [if_neg h0] at hr
      refine mV_aload f10_endsThought_8 rfl ?_
      refine mV_getP f10_endsThought_9 (by decide) kk_119 rfl (pp_119_1 _) ?_
      refine mV_iload f10_endsThought_12 rfl ?_
      refine mV_aload f10_endsThought_13 rfl ?_
      refine mV_getP f10_endsThought_14 (by decide) kk_119 rfl (pp_119_4 _) ?_
      refine mV_iload f10_endsThought_17 rfl ?_
      obtain ⟨z0, hz0, hr⟩ := mBind hr
      refine mV_ldO f10_endsThought_18 (by decide) kk_122 hz0 ?_
      obtain ⟨z1, hz1, hr⟩ := mBind hr
      refine mV_stO f10_endsThought_19 (by decide) kk_120 hz1 ?_
      refine mV_iinc (y := (y1 + 1)) (L' := [.ref 119, .int (y1 + 1)]) f10_endsThought_20 rfl rfl (by decide) rfl rfl ?_
      refine mV_goto f10_endsThought_23 ?_
      exact ih (y1 + 1) z1 _ hr hk
set_option maxHeartbeats 4000000 in
set_option maxRecDepth 100000 in
theorem w10_endsThought (X : Nat × (Nat → Int32)) (I : mI) (s : Nat) (Q : mQ) {res : mI} (hr : r10_endsThought I = some res) (hQ : Q none NN KK res (PP s)) : mV X m10_endsThought 0 0 0 0 [.ref 119, mX0] [] NN KK I (PP s) Q := by
  unfold r10_endsThought at hr
  refine mV_push f10_endsThought_0 ?_
  refine mV_istore (L' := [.ref 119, .int 0]) f10_endsThought_1 (by decide) rfl rfl ?_
  obtain ⟨z0, hz0, hr⟩ := mBind hr
  refine t10_endsThought_2 X Q s FU 0 I _ hz0 ?_
  refine mV_aload f10_endsThought_26 rfl ?_
  refine mV_push f10_endsThought_27 ?_
  refine mV_putI f10_endsThought_28 (by decide) kk_119 rfl rfl ?_
  have hr := Option.some.inj hr; subst hr
  exact mV_vret rfl f10_endsThought_31 hQ
theorem c10_endsThought (X : Nat × (Nat → Int32)) (I : mI) (s : Nat) {res : mI} (hr : r10_endsThought I = some res) : mC X m10_endsThought 0 0 0 [.ref 119] NN KK I (PP s) (mRet none NN KK res (PP s)) :=
  mC_of (L0 := [.ref 119, mX0]) rfl (Nat.le_of_ble_eq_true rfl) (w10_endsThought X I s _ hr (mRet_ok _ _ _ _ _))
def r10_state (I : mI) (x0 : Int32) : Option (Int32 × mI) := some (I 120 1, (mW (mW (mW I 119 0 0) 120 1 x0) 119 3 0))
set_option maxHeartbeats 4000000 in
set_option maxRecDepth 100000 in
theorem w10_state (X : Nat × (Nat → Int32)) (I : mI) (s : Nat) (x0 : Int32) (Q : mQ) {res : Int32 × mI} (hr : r10_state I x0 = some res) (hQ : Q (some (.int res.1)) NN KK res.2 (PP s)) : mV X m10_state 0 0 0 0 [.ref 119, .int x0, mX0] [] NN KK I (PP s) Q := by
  unfold r10_state at hr
  refine mV_aload f10_state_0 rfl ?_
  refine mV_push f10_state_1 ?_
  refine mV_putI f10_state_2 (by decide) kk_119 rfl rfl ?_
  refine mV_aload f10_state_5 rfl ?_
  refine mV_getP f10_state_6 (by decide) kk_119 rfl (pp_119_1 _) ?_
  refine mV_push f10_state_9 ?_
  refine mV_ld (I 120 1) 1 f10_state_10 (by decide) kk_120 (by decide) rfl ?_
  refine mV_istore (L' := [.ref 119, .int x0, .int (I 120 1)]) f10_state_11 (by decide) rfl rfl ?_
  refine mV_aload f10_state_12 rfl ?_
  refine mV_getP f10_state_13 (by decide) kk_119 rfl (pp_119_1 _) ?_
  refine mV_push f10_state_16 ?_
  refine mV_iload f10_state_17 rfl ?_
  refine mV_sto 1 f10_state_18 (by decide) kk_120 (by decide) ?_
  refine mV_aload f10_state_19 rfl ?_
  refine mV_push f10_state_20 ?_
  refine mV_putI f10_state_21 (by decide) kk_119 rfl rfl ?_
  refine mV_iload f10_state_24 rfl ?_
  have hr := Option.some.inj hr; subst hr
  exact mV_iret rfl rfl f10_state_25 hQ
theorem c10_state (X : Nat × (Nat → Int32)) (I : mI) (s : Nat) (x0 : Int32) {res : Int32 × mI} (hr : r10_state I x0 = some res) : mC X m10_state 0 0 0 [.ref 119, .int x0] NN KK I (PP s) (mRet (some (.int res.1)) NN KK res.2 (PP s)) :=
  mC_of (L0 := [.ref 119, .int x0, mX0]) rfl (Nat.le_of_ble_eq_true rfl) (w10_state X I s x0 _ hr (mRet_ok _ _ _ _ _))
def r10_draw (I : mI) (x0 : Int32) : Option (Int32 × mI) := (mRemO (mUsh ((1664525 * I 120 1) + 1013904223) 8) x0).bind fun z0 => some (z0, (mW I 120 1 ((1664525 * I 120 1) + 1013904223)))
set_option maxHeartbeats 4000000 in
set_option maxRecDepth 100000 in
theorem w10_draw (X : Nat × (Nat → Int32)) (I : mI) (s : Nat) (x0 : Int32) (Q : mQ) {res : Int32 × mI} (hr : r10_draw I x0 = some res) (hQ : Q (some (.int res.1)) NN KK res.2 (PP s)) : mV X m10_draw 0 0 0 0 [.ref 119, .int x0] [] NN KK I (PP s) Q := by
  unfold r10_draw at hr
  refine mV_aload f10_draw_0 rfl ?_
  refine mV_getP f10_draw_1 (by decide) kk_119 rfl (pp_119_1 _) ?_
  refine mV_push f10_draw_4 ?_
  refine mV_push f10_draw_5 ?_
  refine mV_aload f10_draw_7 rfl ?_
  refine mV_getP f10_draw_8 (by decide) kk_119 rfl (pp_119_1 _) ?_
  refine mV_push f10_draw_11 ?_
  refine mV_ld (I 120 1) 1 f10_draw_12 (by decide) kk_120 (by decide) rfl ?_
  refine mV_imul f10_draw_13 ?_
  refine mV_push f10_draw_14 ?_
  refine mV_iadd f10_draw_16 ?_
  refine mV_sto 1 f10_draw_17 (by decide) kk_120 (by decide) ?_
  refine mV_aload f10_draw_18 rfl ?_
  refine mV_getP f10_draw_19 (by decide) kk_119 rfl (pp_119_1 _) ?_
  refine mV_push f10_draw_22 ?_
  refine mV_ld ((1664525 * I 120 1) + 1013904223) 1 f10_draw_23 (by decide) kk_120 (by decide) rfl ?_
  refine mV_push f10_draw_24 ?_
  refine mV_ushC f10_draw_26 ?_
  refine mV_iload f10_draw_27 rfl ?_
  obtain ⟨z0, hz0, hr⟩ := mBind hr
  refine mV_remO f10_draw_28 hz0 ?_
  have hr := Option.some.inj hr; subst hr
  exact mV_iret rfl rfl f10_draw_29 hQ
theorem c10_draw (X : Nat × (Nat → Int32)) (I : mI) (s : Nat) (x0 : Int32) {res : Int32 × mI} (hr : r10_draw I x0 = some res) : mC X m10_draw 0 0 0 [.ref 119, .int x0] NN KK I (PP s) (mRet (some (.int res.1)) NN KK res.2 (PP s)) :=
  mC_of (L0 := [.ref 119, .int x0]) rfl (Nat.le_of_ble_eq_true rfl) (w10_draw X I s x0 _ hr (mRet_ok _ _ _ _ _))
def r10_isPiece (I : mI) (x0 : Int32) : Int32 := if (x0 : Int32) < (0 : Int32) then 0 else if (I 119 6 : Int32) ≤ (x0 : Int32) then 0 else 1
set_option maxHeartbeats 4000000 in
set_option maxRecDepth 100000 in
theorem w10_isPiece (X : Nat × (Nat → Int32)) (I : mI) (s : Nat) (x0 : Int32) (Q : mQ) {res : Int32} (hr : r10_isPiece I x0 = res) (hQ : Q (some (.int res)) NN KK I (PP s)) : mV X m10_isPiece 0 0 0 0 [.ref 119, .int x0] [] NN KK I (PP s) Q := by
  unfold r10_isPiece at hr
  refine mV_iload f10_isPiece_0 rfl ?_
  refine mV_if_lt f10_isPiece_1 (fun h0 => ?_) (fun h0 => ?_)
  · rw [if_pos h0] at hr
    refine mV_push f10_isPiece_16 ?_
    subst hr
    exact mV_iret rfl rfl f10_isPiece_17 hQ
  · rw [if_neg h0] at hr
    refine mV_iload f10_isPiece_4 rfl ?_
    refine mV_aload f10_isPiece_5 rfl ?_
    refine mV_gI (I 119 6) f10_isPiece_6 (by decide) kk_119 rfl rfl ?_
    refine mV_icmp_ge f10_isPiece_9 (fun h1 => ?_) (fun h1 => ?_)
    · rw [if_pos h1] at hr
      refine mV_push f10_isPiece_16 ?_
      subst hr
      exact mV_iret rfl rfl f10_isPiece_17 hQ
    · rw [if_neg h1] at hr
      refine mV_push f10_isPiece_12 ?_
      refine mV_goto f10_isPiece_13 ?_
      subst hr
      exact mV_iret rfl rfl f10_isPiece_17 hQ
theorem c10_isPiece (X : Nat × (Nat → Int32)) (I : mI) (s : Nat) (x0 : Int32) {res : Int32} (hr : r10_isPiece I x0 = res) : mC X m10_isPiece 0 0 0 [.ref 119, .int x0] NN KK I (PP s) (mRet (some (.int res)) NN KK I (PP s)) :=
  mC_of (L0 := [.ref 119, .int x0]) rfl (Nat.le_of_ble_eq_true rfl) (w10_isPiece X I s x0 _ hr (mRet_ok _ _ _ _ _))
def r10_isPlayer (I : mI) (x0 : Int32) : Int32 := if (x0 : Int32) < (0 : Int32) then 0 else if (I 119 7 : Int32) ≤ (x0 : Int32) then 0 else 1
set_option maxHeartbeats 4000000 in
set_option maxRecDepth 100000 in
theorem w10_isPlayer (X : Nat × (Nat → Int32)) (I : mI) (s : Nat) (x0 : Int32) (Q : mQ) {res : Int32} (hr : r10_isPlayer I x0 = res) (hQ : Q (some (.int res)) NN KK I (PP s)) : mV X m10_isPlayer 0 0 0 0 [.ref 119, .int x0] [] NN KK I (PP s) Q := by
  unfold r10_isPlayer at hr
  refine mV_iload f10_isPlayer_0 rfl ?_
  refine mV_if_lt f10_isPlayer_1 (fun h0 => ?_) (fun h0 => ?_)
  · rw [if_pos h0] at hr
    refine mV_push f10_isPlayer_16 ?_
    subst hr
    exact mV_iret rfl rfl f10_isPlayer_17 hQ
  · rw [if_neg h0] at hr
    refine mV_iload f10_isPlayer_4 rfl ?_
    refine mV_aload f10_isPlayer_5 rfl ?_
    refine mV_gI (I 119 7) f10_isPlayer_6 (by decide) kk_119 rfl rfl ?_
    refine mV_icmp_ge f10_isPlayer_9 (fun h1 => ?_) (fun h1 => ?_)
    · rw [if_pos h1] at hr
      refine mV_push f10_isPlayer_16 ?_
      subst hr
      exact mV_iret rfl rfl f10_isPlayer_17 hQ
    · rw [if_neg h1] at hr
      refine mV_push f10_isPlayer_12 ?_
      refine mV_goto f10_isPlayer_13 ?_
      subst hr
      exact mV_iret rfl rfl f10_isPlayer_17 hQ
theorem c10_isPlayer (X : Nat × (Nat → Int32)) (I : mI) (s : Nat) (x0 : Int32) {res : Int32} (hr : r10_isPlayer I x0 = res) : mC X m10_isPlayer 0 0 0 [.ref 119, .int x0] NN KK I (PP s) (mRet (some (.int res)) NN KK I (PP s)) :=
  mC_of (L0 := [.ref 119, .int x0]) rfl (Nat.le_of_ble_eq_true rfl) (w10_isPlayer X I s x0 _ hr (mRet_ok _ _ _ _ _))
def r10_isString (x0 : Int32) : Int32 := if (x0 : Int32) < (0 : Int32) then 0 else if (8 : Int32) ≤ (x0 : Int32) then 0 else 1
set_option maxHeartbeats 4000000 in
set_option maxRecDepth 100000 in
theorem w10_isString (X : Nat × (Nat → Int32)) (I : mI) (s : Nat) (x0 : Int32) (Q : mQ) {res : Int32} (hr : r10_isString x0 = res) (hQ : Q (some (.int res)) NN KK I (PP s)) : mV X m10_isString 0 0 0 0 [.ref 119, .int x0] [] NN KK I (PP s) Q := by
  unfold r10_isString at hr
  refine mV_iload f10_isString_0 rfl ?_
  refine mV_if_lt f10_isString_1 (fun h0 => ?_) (fun h0 => ?_)
  · rw [if_pos h0] at hr
    refine mV_push f10_isString_14 ?_
    subst hr
    exact mV_iret rfl rfl f10_isString_15 hQ
  · rw [if_neg h0] at hr
    refine mV_iload f10_isString_4 rfl ?_
    refine mV_push f10_isString_5 ?_
    refine mV_icmp_ge f10_isString_7 (fun h1 => ?_) (fun h1 => ?_)
    · rw [if_pos h1] at hr
      refine mV_push f10_isString_14 ?_
      subst hr
      exact mV_iret rfl rfl f10_isString_15 hQ
    · rw [if_neg h1] at hr
      refine mV_push f10_isString_10 ?_
      refine mV_goto f10_isString_11 ?_
      subst hr
      exact mV_iret rfl rfl f10_isString_15 hQ
theorem c10_isString (X : Nat × (Nat → Int32)) (I : mI) (s : Nat) (x0 : Int32) {res : Int32} (hr : r10_isString x0 = res) : mC X m10_isString 0 0 0 [.ref 119, .int x0] NN KK I (PP s) (mRet (some (.int res)) NN KK I (PP s)) :=
  mC_of (L0 := [.ref 119, .int x0]) rfl (Nat.le_of_ble_eq_true rfl) (w10_isString X I s x0 _ hr (mRet_ok _ _ _ _ _))
def r10_dry (I : mI) : Int32 := (I 120 5 + 10)
set_option maxHeartbeats 4000000 in
set_option maxRecDepth 100000 in
theorem w10_dry (X : Nat × (Nat → Int32)) (I : mI) (s : Nat) (Q : mQ) {res : Int32} (hr : r10_dry I = res) (hQ : Q (some (.int res)) NN KK I (PP s)) : mV X m10_dry 0 0 0 0 [.ref 119] [] NN KK I (PP s) Q := by
  unfold r10_dry at hr
  refine mV_aload f10_dry_0 rfl ?_
  refine mV_getP f10_dry_1 (by decide) kk_119 rfl (pp_119_1 _) ?_
  refine mV_push f10_dry_4 ?_
  refine mV_ld (I 120 5) 5 f10_dry_5 (by decide) kk_120 (by decide) rfl ?_
  refine mV_push f10_dry_6 ?_
  refine mV_iadd f10_dry_8 ?_
  subst hr
  exact mV_iret rfl rfl f10_dry_9 hQ
theorem c10_dry (X : Nat × (Nat → Int32)) (I : mI) (s : Nat) {res : Int32} (hr : r10_dry I = res) : mC X m10_dry 0 0 0 [.ref 119] NN KK I (PP s) (mRet (some (.int res)) NN KK I (PP s)) :=
  mC_of (L0 := [.ref 119]) rfl (Nat.le_of_ble_eq_true rfl) (w10_dry X I s _ hr (mRet_ok _ _ _ _ _))
def r10_piece (I : mI) (x0 : Int32) (x1 : Int32) (x2 : Int32) : Option (Int32 × mI) := if ((r10_isIn x0 1 30) : Int32) = (0 : Int32) then some ((-1), (mW I 119 0 0)) else if ((r10_isIn x1 0 9) : Int32) = (0 : Int32) then some ((-1), (mW I 119 0 0)) else if ((r10_isIn x2 0 9) : Int32) = (0 : Int32) then some ((-1), (mW I 119 0 0)) else if (I 119 6 : Int32) = (12 : Int32) then some ((-1), (mW I 119 0 0)) else (mSto (mW I 119 0 0) 123 12 (I 119 6) x0).bind fun z0 => (mSto z0 124 12 (z0 119 6) x1).bind fun z1 => (mSto z1 125 12 (z1 119 6) x2).bind fun z2 => (mSto z2 120 47 (17 + z2 119 6) 0).bind fun z3 => (mSto z3 120 47 (29 + z3 119 6) 0).bind fun z4 => some (((z4 119 6 + 1) - 1), (mW (mW z4 119 6 (z4 119 6 + 1)) 119 3 0))
set_option maxHeartbeats 4000000 in
set_option maxRecDepth 100000 in
theorem w10_piece (X : Nat × (Nat → Int32)) (I : mI) (s : Nat) (x0 : Int32) (x1 : Int32) (x2 : Int32) (Q : mQ) {res : Int32 × mI} (hr : r10_piece I x0 x1 x2 = some res) (hQ : Q (some (.int res.1)) NN KK res.2 (PP s)) : mV X m10_piece 1 0 0 0 [.ref 119, .int x0, .int x1, .int x2] [] NN KK I (PP s) Q := by
  unfold r10_piece at hr
  refine mV_aload f10_piece_0 rfl ?_
  refine mV_push f10_piece_1 ?_
  refine mV_putI f10_piece_2 (by decide) kk_119 rfl rfl ?_
  refine mV_aload f10_piece_5 rfl ?_
  refine mV_iload f10_piece_6 rfl ?_
  refine mV_push f10_piece_7 ?_
  refine mV_push f10_piece_8 ?_
  refine mV_cV f10_piece_10 tg_m10_isIn mCls10 (by decide) kk_119 (mC_deep (c10_isIn X (mW I 119 0 0) s x0 1 30 rfl) (by decide)) rfl rfl (Nat.le_of_ble_eq_true rfl) ?_
  refine mV_if_eq f10_piece_13 (fun h0 => ?_) (fun h0 => ?_)
  · rw [if_pos h0] at hr
    refine mV_push f10_piece_47 ?_
    have hr := Option.some.inj hr; subst hr
    exact mV_iret rfl rfl f10_piece_48 hQ
  · rw [if_neg h0] at hr
    refine mV_aload f10_piece_16 rfl ?_
    refine mV_iload f10_piece_17 rfl ?_
    refine mV_push f10_piece_18 ?_
    refine mV_push f10_piece_19 ?_
    refine mV_cV f10_piece_21 tg_m10_isIn mCls10 (by decide) kk_119 (mC_deep (c10_isIn X (mW I 119 0 0) s x1 0 9 rfl) (by decide)) rfl rfl (Nat.le_of_ble_eq_true rfl) ?_
    refine mV_if_eq f10_piece_24 (fun h1 => ?_) (fun h1 => ?_)
    · rw [if_pos h1] at hr
      refine mV_push f10_piece_47 ?_
      have hr := Option.some.inj hr; subst hr
      exact mV_iret rfl rfl f10_piece_48 hQ
    · rw [if_neg h1] at hr
      refine mV_aload f10_piece_27 rfl ?_
      refine mV_iload f10_piece_28 rfl ?_
      refine mV_push f10_piece_29 ?_
      refine mV_push f10_piece_30 ?_
      refine mV_cV f10_piece_32 tg_m10_isIn mCls10 (by decide) kk_119 (mC_deep (c10_isIn X (mW I 119 0 0) s x2 0 9 rfl) (by decide)) rfl rfl (Nat.le_of_ble_eq_true rfl) ?_
      refine mV_if_eq f10_piece_35 (fun h2 => ?_) (fun h2 => ?_)
      · rw [if_pos h2] at hr
        refine mV_push f10_piece_47 ?_
        have hr := Option.some.inj hr; subst hr
        exact mV_iret rfl rfl f10_piece_48 hQ
      · rw [if_neg h2] at hr
        refine mV_aload f10_piece_38 rfl ?_
        refine mV_gI (I 119 6) f10_piece_39 (by decide) kk_119 rfl rfl ?_
        refine mV_push f10_piece_42 ?_
        refine mV_icmp_ne f10_piece_44 (fun h3 => ?_) (fun h3 => ?_)
        · rw [if_neg h3] at hr
          refine mV_aload f10_piece_49 rfl ?_
          refine mV_getP f10_piece_50 (by decide) kk_119 rfl (pp_119_8 _) ?_
          refine mV_aload f10_piece_53 rfl ?_
          refine mV_gI (I 119 6) f10_piece_54 (by decide) kk_119 rfl rfl ?_
          refine mV_iload f10_piece_57 rfl ?_
          obtain ⟨z0, hz0, hr⟩ := mBind hr
          refine mV_stO f10_piece_58 (by decide) kk_123 hz0 ?_
          refine mV_aload f10_piece_59 rfl ?_
          refine mV_getP f10_piece_60 (by decide) kk_119 rfl (pp_119_9 _) ?_
          refine mV_aload f10_piece_63 rfl ?_
          refine mV_gI (z0 119 6) f10_piece_64 (by decide) kk_119 rfl rfl ?_
          refine mV_iload f10_piece_67 rfl ?_
          obtain ⟨z1, hz1, hr⟩ := mBind hr
          refine mV_stO f10_piece_68 (by decide) kk_124 hz1 ?_
          refine mV_aload f10_piece_69 rfl ?_
          refine mV_getP f10_piece_70 (by decide) kk_119 rfl (pp_119_10 _) ?_
          refine mV_aload f10_piece_73 rfl ?_
          refine mV_gI (z1 119 6) f10_piece_74 (by decide) kk_119 rfl rfl ?_
          refine mV_iload f10_piece_77 rfl ?_
          obtain ⟨z2, hz2, hr⟩ := mBind hr
          refine mV_stO f10_piece_78 (by decide) kk_125 hz2 ?_
          refine mV_aload f10_piece_79 rfl ?_
          refine mV_getP f10_piece_80 (by decide) kk_119 rfl (pp_119_1 _) ?_
          refine mV_push f10_piece_83 ?_
          refine mV_aload f10_piece_85 rfl ?_
          refine mV_gI (z2 119 6) f10_piece_86 (by decide) kk_119 rfl rfl ?_
          refine mV_iadd f10_piece_89 ?_
          refine mV_push f10_piece_90 ?_
          obtain ⟨z3, hz3, hr⟩ := mBind hr
          refine mV_stO f10_piece_91 (by decide) kk_120 hz3 ?_
          refine mV_aload f10_piece_92 rfl ?_
          refine mV_getP f10_piece_93 (by decide) kk_119 rfl (pp_119_1 _) ?_
          refine mV_push f10_piece_96 ?_
          refine mV_aload f10_piece_98 rfl ?_
          refine mV_gI (z3 119 6) f10_piece_99 (by decide) kk_119 rfl rfl ?_
          refine mV_iadd f10_piece_102 ?_
          refine mV_push f10_piece_103 ?_
          obtain ⟨z4, hz4, hr⟩ := mBind hr
          refine mV_stO f10_piece_104 (by decide) kk_120 hz4 ?_
          refine mV_aload f10_piece_105 rfl ?_
          refine mV_aload f10_piece_106 rfl ?_
          refine mV_gI (z4 119 6) f10_piece_107 (by decide) kk_119 rfl rfl ?_
          refine mV_push f10_piece_110 ?_
          refine mV_iadd f10_piece_111 ?_
          refine mV_putI f10_piece_112 (by decide) kk_119 rfl rfl ?_
          refine mV_aload f10_piece_115 rfl ?_
          refine mV_push f10_piece_116 ?_
          refine mV_putI f10_piece_117 (by decide) kk_119 rfl rfl ?_
          refine mV_aload f10_piece_120 rfl ?_
          refine mV_gI (z4 119 6 + 1) f10_piece_121 (by decide) kk_119 rfl rfl ?_
          refine mV_push f10_piece_124 ?_
          refine mV_isub f10_piece_125 ?_
          have hr := Option.some.inj hr; subst hr
          exact mV_iret rfl rfl f10_piece_126 hQ
        · rw [if_pos h3] at hr
          refine mV_push f10_piece_47 ?_
          have hr := Option.some.inj hr; subst hr
          exact mV_iret rfl rfl f10_piece_48 hQ
theorem c10_piece (X : Nat × (Nat → Int32)) (I : mI) (s : Nat) (x0 : Int32) (x1 : Int32) (x2 : Int32) {res : Int32 × mI} (hr : r10_piece I x0 x1 x2 = some res) : mC X m10_piece 1 0 0 [.ref 119, .int x0, .int x1, .int x2] NN KK I (PP s) (mRet (some (.int res.1)) NN KK res.2 (PP s)) :=
  mC_of (L0 := [.ref 119, .int x0, .int x1, .int x2]) rfl (Nat.le_of_ble_eq_true rfl) (w10_piece X I s x0 x1 x2 _ hr (mRet_ok _ _ _ _ _))
def r10_player (I : mI) (x0 : Int32) (x1 : Int32) : Option (Int32 × mI) := if ((r10_isIn x0 0 9) : Int32) = (0 : Int32) then some ((-1), (mW I 119 0 0)) else if ((r10_isIn x1 0 9) : Int32) = (0 : Int32) then some ((-1), (mW I 119 0 0)) else if (I 119 7 : Int32) = (6 : Int32) then some ((-1), (mW I 119 0 0)) else (mSto (mW I 119 0 0) 126 6 (I 119 7) x0).bind fun z0 => (mSto z0 127 6 (z0 119 7) x1).bind fun z1 => (mSto z1 120 47 (41 + z1 119 7) 0).bind fun z2 => some (((z2 119 7 + 1) - 1), (mW (mW z2 119 7 (z2 119 7 + 1)) 119 3 0))
set_option maxHeartbeats 4000000 in
set_option maxRecDepth 100000 in
theorem w10_player (X : Nat × (Nat → Int32)) (I : mI) (s : Nat) (x0 : Int32) (x1 : Int32) (Q : mQ) {res : Int32 × mI} (hr : r10_player I x0 x1 = some res) (hQ : Q (some (.int res.1)) NN KK res.2 (PP s)) : mV X m10_player 1 0 0 0 [.ref 119, .int x0, .int x1] [] NN KK I (PP s) Q := by
  unfold r10_player at hr
  refine mV_aload f10_player_0 rfl ?_
  refine mV_push f10_player_1 ?_
  refine mV_putI f10_player_2 (by decide) kk_119 rfl rfl ?_
  refine mV_aload f10_player_5 rfl ?_
  refine mV_iload f10_player_6 rfl ?_
  refine mV_push f10_player_7 ?_
  refine mV_push f10_player_8 ?_
  refine mV_cV f10_player_10 tg_m10_isIn mCls10 (by decide) kk_119 (mC_deep (c10_isIn X (mW I 119 0 0) s x0 0 9 rfl) (by decide)) rfl rfl (Nat.le_of_ble_eq_true rfl) ?_
  refine mV_if_eq f10_player_13 (fun h0 => ?_) (fun h0 => ?_)
  · rw [if_pos h0] at hr
    refine mV_push f10_player_36 ?_
    have hr := Option.some.inj hr; subst hr
    exact mV_iret rfl rfl f10_player_37 hQ
  · rw [if_neg h0] at hr
    refine mV_aload f10_player_16 rfl ?_
    refine mV_iload f10_player_17 rfl ?_
    refine mV_push f10_player_18 ?_
    refine mV_push f10_player_19 ?_
    refine mV_cV f10_player_21 tg_m10_isIn mCls10 (by decide) kk_119 (mC_deep (c10_isIn X (mW I 119 0 0) s x1 0 9 rfl) (by decide)) rfl rfl (Nat.le_of_ble_eq_true rfl) ?_
    refine mV_if_eq f10_player_24 (fun h1 => ?_) (fun h1 => ?_)
    · rw [if_pos h1] at hr
      refine mV_push f10_player_36 ?_
      have hr := Option.some.inj hr; subst hr
      exact mV_iret rfl rfl f10_player_37 hQ
    · rw [if_neg h1] at hr
      refine mV_aload f10_player_27 rfl ?_
      refine mV_gI (I 119 7) f10_player_28 (by decide) kk_119 rfl rfl ?_
      refine mV_push f10_player_31 ?_
      refine mV_icmp_ne f10_player_33 (fun h2 => ?_) (fun h2 => ?_)
      · rw [if_neg h2] at hr
        refine mV_aload f10_player_38 rfl ?_
        refine mV_getP f10_player_39 (by decide) kk_119 rfl (pp_119_11 _) ?_
        refine mV_aload f10_player_42 rfl ?_
        refine mV_gI (I 119 7) f10_player_43 (by decide) kk_119 rfl rfl ?_
        refine mV_iload f10_player_46 rfl ?_
        obtain ⟨z0, hz0, hr⟩ := mBind hr
        refine mV_stO f10_player_47 (by decide) kk_126 hz0 ?_
        refine mV_aload f10_player_48 rfl ?_
        refine mV_getP f10_player_49 (by decide) kk_119 rfl (pp_119_12 _) ?_
        refine mV_aload f10_player_52 rfl ?_
        refine mV_gI (z0 119 7) f10_player_53 (by decide) kk_119 rfl rfl ?_
        refine mV_iload f10_player_56 rfl ?_
        obtain ⟨z1, hz1, hr⟩ := mBind hr
        refine mV_stO f10_player_57 (by decide) kk_127 hz1 ?_
        refine mV_aload f10_player_58 rfl ?_
        refine mV_getP f10_player_59 (by decide) kk_119 rfl (pp_119_1 _) ?_
        refine mV_push f10_player_62 ?_
        refine mV_aload f10_player_64 rfl ?_
        refine mV_gI (z1 119 7) f10_player_65 (by decide) kk_119 rfl rfl ?_
        refine mV_iadd f10_player_68 ?_
        refine mV_push f10_player_69 ?_
        obtain ⟨z2, hz2, hr⟩ := mBind hr
        refine mV_stO f10_player_70 (by decide) kk_120 hz2 ?_
        refine mV_aload f10_player_71 rfl ?_
        refine mV_aload f10_player_72 rfl ?_
        refine mV_gI (z2 119 7) f10_player_73 (by decide) kk_119 rfl rfl ?_
        refine mV_push f10_player_76 ?_
        refine mV_iadd f10_player_77 ?_
        refine mV_putI f10_player_78 (by decide) kk_119 rfl rfl ?_
        refine mV_aload f10_player_81 rfl ?_
        refine mV_push f10_player_82 ?_
        refine mV_putI f10_player_83 (by decide) kk_119 rfl rfl ?_
        refine mV_aload f10_player_86 rfl ?_
        refine mV_gI (z2 119 7 + 1) f10_player_87 (by decide) kk_119 rfl rfl ?_
        refine mV_push f10_player_90 ?_
        refine mV_isub f10_player_91 ?_
        have hr := Option.some.inj hr; subst hr
        exact mV_iret rfl rfl f10_player_92 hQ
      · rw [if_pos h2] at hr
        refine mV_push f10_player_36 ?_
        have hr := Option.some.inj hr; subst hr
        exact mV_iret rfl rfl f10_player_37 hQ
theorem c10_player (X : Nat × (Nat → Int32)) (I : mI) (s : Nat) (x0 : Int32) (x1 : Int32) {res : Int32 × mI} (hr : r10_player I x0 x1 = some res) : mC X m10_player 1 0 0 [.ref 119, .int x0, .int x1] NN KK I (PP s) (mRet (some (.int res.1)) NN KK res.2 (PP s)) :=
  mC_of (L0 := [.ref 119, .int x0, .int x1]) rfl (Nat.le_of_ble_eq_true rfl) (w10_player X I s x0 x1 _ hr (mRet_ok _ _ _ _ _))
def r10_canSet (I : mI) (x0 : Int32) (x1 : Int32) (x2 : Int32) : Int32 := if (x0 : Int32) = (0 : Int32) then if ((r10_isPiece I x1) : Int32) = (0 : Int32) then 0 else if ((r10_isIn x2 0 9) : Int32) = (0 : Int32) then 0 else 1 else if (x0 : Int32) = (1 : Int32) then if ((r10_isPiece I x1) : Int32) = (0 : Int32) then 0 else if ((r10_isIn x2 0 9) : Int32) = (0 : Int32) then 0 else 1 else if (x0 : Int32) = (2 : Int32) then if ((r10_isPlayer I x1) : Int32) = (0 : Int32) then 0 else if ((r10_isIn x2 0 9) : Int32) = (0 : Int32) then 0 else 1 else if (x0 : Int32) = (3 : Int32) then if ((r10_isPlayer I x1) : Int32) = (0 : Int32) then 0 else if ((r10_isIn x2 0 9) : Int32) = (0 : Int32) then 0 else 1 else if (x0 : Int32) = (4 : Int32) then if ((r10_isString x1) : Int32) = (0 : Int32) then 0 else if ((r10_isIn x2 0 50) : Int32) = (0 : Int32) then 0 else 1 else if ((r10_isIn x0 5 7) : Int32) = (0 : Int32) then 0 else if (x0 : Int32) = (5 : Int32) then if ((r10_isIn x2 0 999) : Int32) = (0 : Int32) then 0 else 1 else if (x0 : Int32) = (6 : Int32) then if ((r10_isIn x2 0 99) : Int32) = (0 : Int32) then 0 else 1 else if ((r10_isIn x2 0 9) : Int32) = (0 : Int32) then 0 else 1
set_option maxHeartbeats 4000000 in
set_option maxRecDepth 100000 in
theorem w10_canSet (X : Nat × (Nat → Int32)) (I : mI) (s : Nat) (x0 : Int32) (x1 : Int32) (x2 : Int32) (Q : mQ) {res : Int32} (hr : r10_canSet I x0 x1 x2 = res) (hQ : Q (some (.int res)) NN KK I (PP s)) : mV X m10_canSet 1 0 0 0 [.ref 119, .int x0, .int x1, .int x2] [] NN KK I (PP s) Q := by
  unfold r10_canSet at hr
  refine mV_iload f10_canSet_0 rfl ?_
  refine mV_if_eq f10_canSet_1 (fun h0 => ?_) (fun h0 => ?_)
  · rw [if_pos h0] at hr
    refine mV_aload f10_canSet_9 rfl ?_
    refine mV_iload f10_canSet_10 rfl ?_
    refine mV_cV f10_canSet_11 tg_m10_isPiece mCls10 (by decide) kk_119 (mC_deep (c10_isPiece X I s x1 rfl) (by decide)) rfl rfl (Nat.le_of_ble_eq_true rfl) ?_
    refine mV_if_eq f10_canSet_14 (fun h1 => ?_) (fun h1 => ?_)
    · rw [if_pos h1] at hr
      refine mV_push f10_canSet_32 ?_
      subst hr
      exact mV_iret rfl rfl f10_canSet_33 hQ
    · rw [if_neg h1] at hr
      refine mV_aload f10_canSet_17 rfl ?_
      refine mV_iload f10_canSet_18 rfl ?_
      refine mV_push f10_canSet_19 ?_
      refine mV_push f10_canSet_20 ?_
      refine mV_cV f10_canSet_22 tg_m10_isIn mCls10 (by decide) kk_119 (mC_deep (c10_isIn X I s x2 0 9 rfl) (by decide)) rfl rfl (Nat.le_of_ble_eq_true rfl) ?_
      refine mV_if_eq f10_canSet_25 (fun h2 => ?_) (fun h2 => ?_)
      · rw [if_pos h2] at hr
        refine mV_push f10_canSet_32 ?_
        subst hr
        exact mV_iret rfl rfl f10_canSet_33 hQ
      · rw [if_neg h2] at hr
        refine mV_push f10_canSet_28 ?_
        refine mV_goto f10_canSet_29 ?_
        subst hr
        exact mV_iret rfl rfl f10_canSet_33 hQ
  · rw [if_neg h0] at hr
    refine mV_iload f10_canSet_4 rfl ?_
    refine mV_push f10_canSet_5 ?_
    refine mV_icmp_ne f10_canSet_6 (fun h3 => ?_) (fun h3 => ?_)
    · rw [if_neg h3] at hr
      refine mV_iload f10_canSet_34 rfl ?_
      refine mV_push f10_canSet_35 ?_
      refine mV_icmp_eq f10_canSet_36 (fun h4 => ?_) (fun h4 => ?_)
      · rw [if_pos h4] at hr
        refine mV_aload f10_canSet_44 rfl ?_
        refine mV_iload f10_canSet_45 rfl ?_
        refine mV_cV f10_canSet_46 tg_m10_isPlayer mCls10 (by decide) kk_119 (mC_deep (c10_isPlayer X I s x1 rfl) (by decide)) rfl rfl (Nat.le_of_ble_eq_true rfl) ?_
        refine mV_if_eq f10_canSet_49 (fun h5 => ?_) (fun h5 => ?_)
        · rw [if_pos h5] at hr
          refine mV_push f10_canSet_67 ?_
          subst hr
          exact mV_iret rfl rfl f10_canSet_68 hQ
        · rw [if_neg h5] at hr
          refine mV_aload f10_canSet_52 rfl ?_
          refine mV_iload f10_canSet_53 rfl ?_
          refine mV_push f10_canSet_54 ?_
          refine mV_push f10_canSet_55 ?_
          refine mV_cV f10_canSet_57 tg_m10_isIn mCls10 (by decide) kk_119 (mC_deep (c10_isIn X I s x2 0 9 rfl) (by decide)) rfl rfl (Nat.le_of_ble_eq_true rfl) ?_
          refine mV_if_eq f10_canSet_60 (fun h6 => ?_) (fun h6 => ?_)
          · rw [if_pos h6] at hr
            refine mV_push f10_canSet_67 ?_
            subst hr
            exact mV_iret rfl rfl f10_canSet_68 hQ
          · rw [if_neg h6] at hr
            refine mV_push f10_canSet_63 ?_
            refine mV_goto f10_canSet_64 ?_
            subst hr
            exact mV_iret rfl rfl f10_canSet_68 hQ
      · rw [if_neg h4] at hr
        refine mV_iload f10_canSet_39 rfl ?_
        refine mV_push f10_canSet_40 ?_
        refine mV_icmp_ne f10_canSet_41 (fun h7 => ?_) (fun h7 => ?_)
        · rw [if_neg h7] at hr
          refine mV_iload f10_canSet_69 rfl ?_
          refine mV_push f10_canSet_70 ?_
          refine mV_icmp_ne f10_canSet_71 (fun h8 => ?_) (fun h8 => ?_)
          · rw [if_neg h8] at hr
            refine mV_aload f10_canSet_99 rfl ?_
            refine mV_iload f10_canSet_100 rfl ?_
            refine mV_push f10_canSet_101 ?_
            refine mV_push f10_canSet_102 ?_
            refine mV_cV f10_canSet_104 tg_m10_isIn mCls10 (by decide) kk_119 (mC_deep (c10_isIn X I s x0 5 7 rfl) (by decide)) rfl rfl (Nat.le_of_ble_eq_true rfl) ?_
            refine mV_if_eq f10_canSet_107 (fun h9 => ?_) (fun h9 => ?_)
            · rw [if_pos h9] at hr
              refine mV_push f10_canSet_147 ?_
              subst hr
              exact mV_iret rfl rfl f10_canSet_148 hQ
            · rw [if_neg h9] at hr
              refine mV_aload f10_canSet_110 rfl ?_
              refine mV_iload f10_canSet_111 rfl ?_
              refine mV_push f10_canSet_112 ?_
              refine mV_iload f10_canSet_113 rfl ?_
              refine mV_push f10_canSet_114 ?_
              refine mV_icmp_ne f10_canSet_115 (fun h10 => ?_) (fun h10 => ?_)
              · rw [if_neg h10] at hr
                refine mV_iload f10_canSet_124 rfl ?_
                refine mV_push f10_canSet_125 ?_
                refine mV_icmp_ne f10_canSet_127 (fun h11 => ?_) (fun h11 => ?_)
                · rw [if_neg h11] at hr
                  refine mV_push f10_canSet_135 ?_
                  refine mV_cV f10_canSet_137 tg_m10_isIn mCls10 (by decide) kk_119 (mC_deep (c10_isIn X I s x2 0 9 rfl) (by decide)) rfl rfl (Nat.le_of_ble_eq_true rfl) ?_
                  refine mV_if_eq f10_canSet_140 (fun h12 => ?_) (fun h12 => ?_)
                  · rw [if_pos h12] at hr
                    refine mV_push f10_canSet_147 ?_
                    subst hr
                    exact mV_iret rfl rfl f10_canSet_148 hQ
                  · rw [if_neg h12] at hr
                    refine mV_push f10_canSet_143 ?_
                    refine mV_goto f10_canSet_144 ?_
                    subst hr
                    exact mV_iret rfl rfl f10_canSet_148 hQ
                · rw [if_pos h11] at hr
                  refine mV_push f10_canSet_130 ?_
                  refine mV_goto f10_canSet_132 ?_
                  refine mV_cV f10_canSet_137 tg_m10_isIn mCls10 (by decide) kk_119 (mC_deep (c10_isIn X I s x2 0 99 rfl) (by decide)) rfl rfl (Nat.le_of_ble_eq_true rfl) ?_
                  refine mV_if_eq f10_canSet_140 (fun h13 => ?_) (fun h13 => ?_)
                  · rw [if_pos h13] at hr
                    refine mV_push f10_canSet_147 ?_
                    subst hr
                    exact mV_iret rfl rfl f10_canSet_148 hQ
                  · rw [if_neg h13] at hr
                    refine mV_push f10_canSet_143 ?_
                    refine mV_goto f10_canSet_144 ?_
                    subst hr
                    exact mV_iret rfl rfl f10_canSet_148 hQ
              · rw [if_pos h10] at hr
                refine mV_push f10_canSet_118 ?_
                refine mV_goto f10_canSet_121 ?_
                refine mV_cV f10_canSet_137 tg_m10_isIn mCls10 (by decide) kk_119 (mC_deep (c10_isIn X I s x2 0 999 rfl) (by decide)) rfl rfl (Nat.le_of_ble_eq_true rfl) ?_
                refine mV_if_eq f10_canSet_140 (fun h14 => ?_) (fun h14 => ?_)
                · rw [if_pos h14] at hr
                  refine mV_push f10_canSet_147 ?_
                  subst hr
                  exact mV_iret rfl rfl f10_canSet_148 hQ
                · rw [if_neg h14] at hr
                  refine mV_push f10_canSet_143 ?_
                  refine mV_goto f10_canSet_144 ?_
                  subst hr
                  exact mV_iret rfl rfl f10_canSet_148 hQ
          · rw [if_pos h8] at hr
            refine mV_aload f10_canSet_74 rfl ?_
            refine mV_iload f10_canSet_75 rfl ?_
            refine mV_cV f10_canSet_76 tg_m10_isString mCls10 (by decide) kk_119 (mC_deep (c10_isString X I s x1 rfl) (by decide)) rfl rfl (Nat.le_of_ble_eq_true rfl) ?_
            refine mV_if_eq f10_canSet_79 (fun h15 => ?_) (fun h15 => ?_)
            · rw [if_pos h15] at hr
              refine mV_push f10_canSet_97 ?_
              subst hr
              exact mV_iret rfl rfl f10_canSet_98 hQ
            · rw [if_neg h15] at hr
              refine mV_aload f10_canSet_82 rfl ?_
              refine mV_iload f10_canSet_83 rfl ?_
              refine mV_push f10_canSet_84 ?_
              refine mV_push f10_canSet_85 ?_
              refine mV_cV f10_canSet_87 tg_m10_isIn mCls10 (by decide) kk_119 (mC_deep (c10_isIn X I s x2 0 50 rfl) (by decide)) rfl rfl (Nat.le_of_ble_eq_true rfl) ?_
              refine mV_if_eq f10_canSet_90 (fun h16 => ?_) (fun h16 => ?_)
              · rw [if_pos h16] at hr
                refine mV_push f10_canSet_97 ?_
                subst hr
                exact mV_iret rfl rfl f10_canSet_98 hQ
              · rw [if_neg h16] at hr
                refine mV_push f10_canSet_93 ?_
                refine mV_goto f10_canSet_94 ?_
                subst hr
                exact mV_iret rfl rfl f10_canSet_98 hQ
        · rw [if_pos h7] at hr
          refine mV_aload f10_canSet_44 rfl ?_
          refine mV_iload f10_canSet_45 rfl ?_
          refine mV_cV f10_canSet_46 tg_m10_isPlayer mCls10 (by decide) kk_119 (mC_deep (c10_isPlayer X I s x1 rfl) (by decide)) rfl rfl (Nat.le_of_ble_eq_true rfl) ?_
          refine mV_if_eq f10_canSet_49 (fun h17 => ?_) (fun h17 => ?_)
          · rw [if_pos h17] at hr
            refine mV_push f10_canSet_67 ?_
            subst hr
            exact mV_iret rfl rfl f10_canSet_68 hQ
          · rw [if_neg h17] at hr
            refine mV_aload f10_canSet_52 rfl ?_
            refine mV_iload f10_canSet_53 rfl ?_
            refine mV_push f10_canSet_54 ?_
            refine mV_push f10_canSet_55 ?_
            refine mV_cV f10_canSet_57 tg_m10_isIn mCls10 (by decide) kk_119 (mC_deep (c10_isIn X I s x2 0 9 rfl) (by decide)) rfl rfl (Nat.le_of_ble_eq_true rfl) ?_
            refine mV_if_eq f10_canSet_60 (fun h18 => ?_) (fun h18 => ?_)
            · rw [if_pos h18] at hr
              refine mV_push f10_canSet_67 ?_
              subst hr
              exact mV_iret rfl rfl f10_canSet_68 hQ
            · rw [if_neg h18] at hr
              refine mV_push f10_canSet_63 ?_
              refine mV_goto f10_canSet_64 ?_
              subst hr
              exact mV_iret rfl rfl f10_canSet_68 hQ
    · rw [if_pos h3] at hr
      refine mV_aload f10_canSet_9 rfl ?_
      refine mV_iload f10_canSet_10 rfl ?_
      refine mV_cV f10_canSet_11 tg_m10_isPiece mCls10 (by decide) kk_119 (mC_deep (c10_isPiece X I s x1 rfl) (by decide)) rfl rfl (Nat.le_of_ble_eq_true rfl) ?_
      refine mV_if_eq f10_canSet_14 (fun h19 => ?_) (fun h19 => ?_)
      · rw [if_pos h19] at hr
        refine mV_push f10_canSet_32 ?_
        subst hr
        exact mV_iret rfl rfl f10_canSet_33 hQ
      · rw [if_neg h19] at hr
        refine mV_aload f10_canSet_17 rfl ?_
        refine mV_iload f10_canSet_18 rfl ?_
        refine mV_push f10_canSet_19 ?_
        refine mV_push f10_canSet_20 ?_
        refine mV_cV f10_canSet_22 tg_m10_isIn mCls10 (by decide) kk_119 (mC_deep (c10_isIn X I s x2 0 9 rfl) (by decide)) rfl rfl (Nat.le_of_ble_eq_true rfl) ?_
        refine mV_if_eq f10_canSet_25 (fun h20 => ?_) (fun h20 => ?_)
        · rw [if_pos h20] at hr
          refine mV_push f10_canSet_32 ?_
          subst hr
          exact mV_iret rfl rfl f10_canSet_33 hQ
        · rw [if_neg h20] at hr
          refine mV_push f10_canSet_28 ?_
          refine mV_goto f10_canSet_29 ?_
          subst hr
          exact mV_iret rfl rfl f10_canSet_33 hQ
theorem c10_canSet (X : Nat × (Nat → Int32)) (I : mI) (s : Nat) (x0 : Int32) (x1 : Int32) (x2 : Int32) {res : Int32} (hr : r10_canSet I x0 x1 x2 = res) : mC X m10_canSet 1 0 0 [.ref 119, .int x0, .int x1, .int x2] NN KK I (PP s) (mRet (some (.int res)) NN KK I (PP s)) :=
  mC_of (L0 := [.ref 119, .int x0, .int x1, .int x2]) rfl (Nat.le_of_ble_eq_true rfl) (w10_canSet X I s x0 x1 x2 _ hr (mRet_ok _ _ _ _ _))
def r10_set (I : mI) (x0 : Int32) (x1 : Int32) (x2 : Int32) : Option (Int32 × mI) := if ((r10_canSet (mW I 119 0 0) x0 x1 x2) : Int32) = (0 : Int32) then some (0, (mW I 119 0 0)) else (if (x0 : Int32) = (0 : Int32) then (mSto (mW I 119 0 0) 124 12 x1 x2).bind fun z1 => some z1 else some (mW I 119 0 0) : Option (mI)).bind fun z0 => (if (x0 : Int32) = (1 : Int32) then (mSto z0 125 12 x1 x2).bind fun z3 => some z3 else some z0 : Option (mI)).bind fun z2 => (if (x0 : Int32) = (2 : Int32) then (mSto z2 126 6 x1 x2).bind fun z5 => some z5 else some z2 : Option (mI)).bind fun z4 => (if (x0 : Int32) = (3 : Int32) then (mSto z4 127 6 x1 x2).bind fun z7 => some z7 else some z4 : Option (mI)).bind fun z6 => (if (x0 : Int32) = (4 : Int32) then (mSto z6 120 47 (9 + x1) x2).bind fun z9 => some z9 else some z6 : Option (mI)).bind fun z8 => (if (x0 : Int32) = (5 : Int32) then some (mW z8 120 3 x2) else some z8 : Option (mI)).bind fun z10 => (if (x0 : Int32) = (6 : Int32) then some (mW z10 120 5 (x2 - 10)) else some z10 : Option (mI)).bind fun z11 => (if (x0 : Int32) = (7 : Int32) then some (mW z11 120 6 x2) else some z11 : Option (mI)).bind fun z12 => some (1, (mW z12 119 3 0))
set_option maxHeartbeats 4000000 in
set_option maxRecDepth 100000 in
theorem w10_set (X : Nat × (Nat → Int32)) (I : mI) (s : Nat) (x0 : Int32) (x1 : Int32) (x2 : Int32) (Q : mQ) {res : Int32 × mI} (hr : r10_set I x0 x1 x2 = some res) (hQ : Q (some (.int res.1)) NN KK res.2 (PP s)) : mV X m10_set 2 0 0 0 [.ref 119, .int x0, .int x1, .int x2] [] NN KK I (PP s) Q := by
  unfold r10_set at hr
  refine mV_aload f10_set_0 rfl ?_
  refine mV_push f10_set_1 ?_
  refine mV_putI f10_set_2 (by decide) kk_119 rfl rfl ?_
  refine mV_aload f10_set_5 rfl ?_
  refine mV_iload f10_set_6 rfl ?_
  refine mV_iload f10_set_7 rfl ?_
  refine mV_iload f10_set_8 rfl ?_
  refine mV_cV f10_set_9 tg_m10_canSet mCls10 (by decide) kk_119 (mC_deep (c10_canSet X (mW I 119 0 0) s x0 x1 x2 rfl) (by decide)) rfl rfl (Nat.le_of_ble_eq_true rfl) ?_
  refine mV_if_ne f10_set_12 (fun h0 => ?_) (fun h0 => ?_)
  · rw [if_neg h0] at hr
    refine mV_iload f10_set_17 rfl ?_
    obtain ⟨z0, hz0, hr⟩ := mBind hr
    have keyz0 : mV X m10_set 2 0 0 28 [.ref 119, .int x0, .int x1, .int x2] [] NN KK z0 (PP s) Q := by
      refine mV_iload f10_set_28 rfl ?_
      refine mV_push f10_set_29 ?_
      obtain ⟨z2, hz2, hr⟩ := mBind hr
      have keyz2 : mV X m10_set 2 0 0 40 [.ref 119, .int x0, .int x1, .int x2] [] NN KK z2 (PP s) Q := by
        refine mV_iload f10_set_40 rfl ?_
        refine mV_push f10_set_41 ?_
        obtain ⟨z4, hz4, hr⟩ := mBind hr
        have keyz4 : mV X m10_set 2 0 0 52 [.ref 119, .int x0, .int x1, .int x2] [] NN KK z4 (PP s) Q := by
          refine mV_iload f10_set_52 rfl ?_
          refine mV_push f10_set_53 ?_
          obtain ⟨z6, hz6, hr⟩ := mBind hr
          have keyz6 : mV X m10_set 2 0 0 64 [.ref 119, .int x0, .int x1, .int x2] [] NN KK z6 (PP s) Q := by
            refine mV_iload f10_set_64 rfl ?_
            refine mV_push f10_set_65 ?_
            obtain ⟨z8, hz8, hr⟩ := mBind hr
            have keyz8 : mV X m10_set 2 0 0 79 [.ref 119, .int x0, mX0, .int x2] [] NN KK z8 (PP s) Q := by
              refine mV_iload f10_set_79 rfl ?_
              refine mV_push f10_set_80 ?_
              obtain ⟨z10, hz10, hr⟩ := mBind hr
              have keyz10 : mV X m10_set 2 0 0 91 [.ref 119, .int x0, mX0, .int x2] [] NN KK z10 (PP s) Q := by
                refine mV_iload f10_set_91 rfl ?_
                refine mV_push f10_set_92 ?_
                obtain ⟨z11, hz11, hr⟩ := mBind hr
                have keyz11 : mV X m10_set 2 0 0 107 [.ref 119, .int x0, mX0, .int x2] [] NN KK z11 (PP s) Q := by
                  refine mV_iload f10_set_107 rfl ?_
                  refine mV_push f10_set_108 ?_
                  obtain ⟨z12, hz12, hr⟩ := mBind hr
                  have keyz12 : mV X m10_set 2 0 0 121 [.ref 119, mX0, mX0, mX0] [] NN KK z12 (PP s) Q := by
                    refine mV_aload f10_set_121 rfl ?_
                    refine mV_push f10_set_122 ?_
                    refine mV_putI f10_set_123 (by decide) kk_119 rfl rfl ?_
                    refine mV_push f10_set_126 ?_
                    have hr := Option.some.inj hr; subst hr
                    exact mV_iret rfl rfl f10_set_127 hQ
                  clear hr
                  have hr := hz12
                  clear hz12
                  refine mV_icmp_ne f10_set_110 (fun h8 => ?_) (fun h8 => ?_)
                  · rw [if_neg h8] at hr
                    have hr := Option.some.inj hr; subst hr
                    refine mV_drop (L' := [.ref 119, mX0, mX0, mX0]) (mSub_k (mSub_x (mSub_x (mSub_x mSub_n)))) ?_
                    exact keyz12
                  · rw [if_pos h8] at hr
                    refine mV_aload f10_set_113 rfl ?_
                    refine mV_getP f10_set_114 (by decide) kk_119 rfl (pp_119_1 _) ?_
                    refine mV_push f10_set_117 ?_
                    refine mV_iload f10_set_119 rfl ?_
                    refine mV_sto 6 f10_set_120 (by decide) kk_120 (by decide) ?_
                    have hr := Option.some.inj hr; subst hr
                    refine mV_drop (L' := [.ref 119, mX0, mX0, mX0]) (mSub_k (mSub_x (mSub_x (mSub_x mSub_n)))) ?_
                    exact keyz12
                clear hr
                have hr := hz11
                clear hz11
                refine mV_icmp_ne f10_set_94 (fun h7 => ?_) (fun h7 => ?_)
                · rw [if_neg h7] at hr
                  have hr := Option.some.inj hr; subst hr
                  exact keyz11
                · rw [if_pos h7] at hr
                  refine mV_aload f10_set_97 rfl ?_
                  refine mV_getP f10_set_98 (by decide) kk_119 rfl (pp_119_1 _) ?_
                  refine mV_push f10_set_101 ?_
                  refine mV_iload f10_set_102 rfl ?_
                  refine mV_push f10_set_103 ?_
                  refine mV_isub f10_set_105 ?_
                  refine mV_sto 5 f10_set_106 (by decide) kk_120 (by decide) ?_
                  have hr := Option.some.inj hr; subst hr
                  exact keyz11
              clear hr
              have hr := hz10
              clear hz10
              refine mV_icmp_ne f10_set_81 (fun h6 => ?_) (fun h6 => ?_)
              · rw [if_neg h6] at hr
                have hr := Option.some.inj hr; subst hr
                exact keyz10
              · rw [if_pos h6] at hr
                refine mV_aload f10_set_84 rfl ?_
                refine mV_getP f10_set_85 (by decide) kk_119 rfl (pp_119_1 _) ?_
                refine mV_push f10_set_88 ?_
                refine mV_iload f10_set_89 rfl ?_
                refine mV_sto 3 f10_set_90 (by decide) kk_120 (by decide) ?_
                have hr := Option.some.inj hr; subst hr
                exact keyz10
            clear hr
            have hr := hz8
            clear hz8
            refine mV_icmp_ne f10_set_66 (fun h5 => ?_) (fun h5 => ?_)
            · rw [if_neg h5] at hr
              have hr := Option.some.inj hr; subst hr
              refine mV_drop (L' := [.ref 119, .int x0, mX0, .int x2]) (mSub_k (mSub_k (mSub_x (mSub_k mSub_n)))) ?_
              exact keyz8
            · rw [if_pos h5] at hr
              refine mV_aload f10_set_69 rfl ?_
              refine mV_getP f10_set_70 (by decide) kk_119 rfl (pp_119_1 _) ?_
              refine mV_push f10_set_73 ?_
              refine mV_iload f10_set_75 rfl ?_
              refine mV_iadd f10_set_76 ?_
              refine mV_iload f10_set_77 rfl ?_
              obtain ⟨z9, hz9, hr⟩ := mBind hr
              refine mV_stO f10_set_78 (by decide) kk_120 hz9 ?_
              have hr := Option.some.inj hr; subst hr
              refine mV_drop (L' := [.ref 119, .int x0, mX0, .int x2]) (mSub_k (mSub_k (mSub_x (mSub_k mSub_n)))) ?_
              exact keyz8
          clear hr
          have hr := hz6
          clear hz6
          refine mV_icmp_ne f10_set_54 (fun h4 => ?_) (fun h4 => ?_)
          · rw [if_neg h4] at hr
            have hr := Option.some.inj hr; subst hr
            exact keyz6
          · rw [if_pos h4] at hr
            refine mV_aload f10_set_57 rfl ?_
            refine mV_getP f10_set_58 (by decide) kk_119 rfl (pp_119_12 _) ?_
            refine mV_iload f10_set_61 rfl ?_
            refine mV_iload f10_set_62 rfl ?_
            obtain ⟨z7, hz7, hr⟩ := mBind hr
            refine mV_stO f10_set_63 (by decide) kk_127 hz7 ?_
            have hr := Option.some.inj hr; subst hr
            exact keyz6
        clear hr
        have hr := hz4
        clear hz4
        refine mV_icmp_ne f10_set_42 (fun h3 => ?_) (fun h3 => ?_)
        · rw [if_neg h3] at hr
          have hr := Option.some.inj hr; subst hr
          exact keyz4
        · rw [if_pos h3] at hr
          refine mV_aload f10_set_45 rfl ?_
          refine mV_getP f10_set_46 (by decide) kk_119 rfl (pp_119_11 _) ?_
          refine mV_iload f10_set_49 rfl ?_
          refine mV_iload f10_set_50 rfl ?_
          obtain ⟨z5, hz5, hr⟩ := mBind hr
          refine mV_stO f10_set_51 (by decide) kk_126 hz5 ?_
          have hr := Option.some.inj hr; subst hr
          exact keyz4
      clear hr
      have hr := hz2
      clear hz2
      refine mV_icmp_ne f10_set_30 (fun h2 => ?_) (fun h2 => ?_)
      · rw [if_neg h2] at hr
        have hr := Option.some.inj hr; subst hr
        exact keyz2
      · rw [if_pos h2] at hr
        refine mV_aload f10_set_33 rfl ?_
        refine mV_getP f10_set_34 (by decide) kk_119 rfl (pp_119_10 _) ?_
        refine mV_iload f10_set_37 rfl ?_
        refine mV_iload f10_set_38 rfl ?_
        obtain ⟨z3, hz3, hr⟩ := mBind hr
        refine mV_stO f10_set_39 (by decide) kk_125 hz3 ?_
        have hr := Option.some.inj hr; subst hr
        exact keyz2
    clear hr
    have hr := hz0
    clear hz0
    refine mV_if_ne f10_set_18 (fun h1 => ?_) (fun h1 => ?_)
    · rw [if_neg h1] at hr
      have hr := Option.some.inj hr; subst hr
      exact keyz0
    · rw [if_pos h1] at hr
      refine mV_aload f10_set_21 rfl ?_
      refine mV_getP f10_set_22 (by decide) kk_119 rfl (pp_119_9 _) ?_
      refine mV_iload f10_set_25 rfl ?_
      refine mV_iload f10_set_26 rfl ?_
      obtain ⟨z1, hz1, hr⟩ := mBind hr
      refine mV_stO f10_set_27 (by decide) kk_124 hz1 ?_
      have hr := Option.some.inj hr; subst hr
      exact keyz0
  · rw [if_pos h0] at hr
    refine mV_push f10_set_15 ?_
    have hr := Option.some.inj hr; subst hr
    exact mV_iret rfl rfl f10_set_16 hQ
theorem c10_set (X : Nat × (Nat → Int32)) (I : mI) (s : Nat) (x0 : Int32) (x1 : Int32) (x2 : Int32) {res : Int32 × mI} (hr : r10_set I x0 x1 x2 = some res) : mC X m10_set 2 0 0 [.ref 119, .int x0, .int x1, .int x2] NN KK I (PP s) (mRet (some (.int res.1)) NN KK res.2 (PP s)) :=
  mC_of (L0 := [.ref 119, .int x0, .int x1, .int x2]) rfl (Nat.le_of_ble_eq_true rfl) (w10_set X I s x0 x1 x2 _ hr (mRet_ok _ _ _ _ _))
def l10_types_3 (k1 : Int32) : Nat → Int32 → mI → Option (mI)
  | 0, _, _ => none
  | f + 1, y2, I => if (y2 : Int32) < (0 : Int32) then some I else (mSto I 129 400 (I 119 15) ((k1 >>> (y2 &&& 31)) &&& 255)).bind fun z0 => l10_types_3 k1 f (y2 + (-8)) (mW z0 119 15 (z0 119 15 + 1))
def r10_types (I : mI) (x0 : Int32) : Option (mI) := (l10_types_3 x0 FU 24 I).bind fun z0 => some z0
set_option maxHeartbeats 4000000 in
set_option maxRecDepth 100000 in
theorem t10_types_3 (X : Nat × (Nat → Int32)) (Q : mQ) (s : Nat) (k1 : Int32) : ∀ (f : Nat) (y2 : Int32) (I : mI) (z : mI), l10_types_3 k1 f y2 I = some z → mV X m10_types 0 0 0 39 [.ref 119, .int k1, mX0] [] NN KK z (PP s) Q → mV X m10_types 0 0 0 3 [.ref 119, .int k1, .int y2] [] NN KK I (PP s) Q := by
  intro f
  induction f with
  | zero => intro y2 I z hr hk; cases hr
  | succ f ih =>
    intro y2 I z hr hk
    unfold l10_types_3 at hr
    refine mV_iload f10_types_3 rfl ?_
    refine mV_if_lt f10_types_4 (fun h0 => ?_) (fun h0 => ?_)
    · rw [if_pos h0] at hr
      have hr := Option.some.inj hr; subst hr
      refine mV_drop (L' := [.ref 119, .int k1, mX0]) (mSub_k (mSub_k (mSub_x mSub_n))) ?_
      exact hk
    · rw [if_neg h0] at hr
      refine mV_aload f10_types_7 rfl ?_
      refine mV_getP f10_types_8 (by decide) kk_119 rfl (pp_119_14 _) ?_
      refine mV_aload f10_types_11 rfl ?_
      refine mV_gI (I 119 15) f10_types_12 (by decide) kk_119 rfl rfl ?_
      refine mV_iload f10_types_15 rfl ?_
      refine mV_iload f10_types_16 rfl ?_
      refine mV_ishr f10_types_17 ?_
      refine mV_push f10_types_18 ?_
      refine mV_iand f10_types_21 ?_
      obtain ⟨z0, hz0, hr⟩ := mBind hr
      refine mV_stO f10_types_22 (by decide) kk_129 hz0 ?_
      refine mV_aload f10_types_23 rfl ?_
      refine mV_aload f10_types_24 rfl ?_
      refine mV_gI (z0 119 15) f10_types_25 (by decide) kk_119 rfl rfl ?_
      refine mV_push f10_types_28 ?_
      refine mV_iadd f10_types_29 ?_
      refine mV_putI f10_types_30 (by decide) kk_119 rfl rfl ?_
      refine mV_iinc (y := (y2 + (-8))) (L' := [.ref 119, .int k1, .int (y2 + (-8))]) f10_types_33 rfl rfl (by decide) rfl rfl ?_
      refine mV_goto f10_types_36 ?_
      exact ih (y2 + (-8)) (mW z0 119 15 (z0 119 15 + 1)) _ hr hk
set_option maxHeartbeats 4000000 in
set_option maxRecDepth 100000 in
theorem w10_types (X : Nat × (Nat → Int32)) (I : mI) (s : Nat) (x0 : Int32) (Q : mQ) {res : mI} (hr : r10_types I x0 = some res) (hQ : Q none NN KK res (PP s)) : mV X m10_types 0 0 0 0 [.ref 119, .int x0, mX0] [] NN KK I (PP s) Q := by
  unfold r10_types at hr
  refine mV_push f10_types_0 ?_
  refine mV_istore (L' := [.ref 119, .int x0, .int 24]) f10_types_2 (by decide) rfl rfl ?_
  obtain ⟨z0, hz0, hr⟩ := mBind hr
  refine t10_types_3 X Q s x0 FU 24 I _ hz0 ?_
  have hr := Option.some.inj hr; subst hr
  exact mV_vret rfl f10_types_39 hQ
theorem c10_types (X : Nat × (Nat → Int32)) (I : mI) (s : Nat) (x0 : Int32) {res : mI} (hr : r10_types I x0 = some res) : mC X m10_types 0 0 0 [.ref 119, .int x0] NN KK I (PP s) (mRet none NN KK res (PP s)) :=
  mC_of (L0 := [.ref 119, .int x0, mX0]) rfl (Nat.le_of_ble_eq_true rfl) (w10_types X I s x0 _ hr (mRet_ok _ _ _ _ _))
def r10_feed (I : mI) (x0 : Int32) (x1 : Int32) (x2 : Int32) (x3 : Int32) (x4 : Int32) : Option (Int32 × mI) := if (I 119 15 : Int32) ≤ (380 : Int32) then (r10_types (mW I 119 0 0) x0).bind fun z0 => (r10_types z0 x1).bind fun z1 => (r10_types z1 x2).bind fun z2 => (r10_types z2 x3).bind fun z3 => (r10_types z3 x4).bind fun z4 => some (z4 119 15, z4) else some ((-1), (mW I 119 0 0))
set_option maxHeartbeats 4000000 in
set_option maxRecDepth 100000 in
theorem w10_feed (X : Nat × (Nat → Int32)) (I : mI) (s : Nat) (x0 : Int32) (x1 : Int32) (x2 : Int32) (x3 : Int32) (x4 : Int32) (Q : mQ) {res : Int32 × mI} (hr : r10_feed I x0 x1 x2 x3 x4 = some res) (hQ : Q (some (.int res.1)) NN KK res.2 (PP s)) : mV X m10_feed 1 0 0 0 [.ref 119, .int x0, .int x1, .int x2, .int x3, .int x4] [] NN KK I (PP s) Q := by
  unfold r10_feed at hr
  refine mV_aload f10_feed_0 rfl ?_
  refine mV_push f10_feed_1 ?_
  refine mV_putI f10_feed_2 (by decide) kk_119 rfl rfl ?_
  refine mV_aload f10_feed_5 rfl ?_
  refine mV_gI (I 119 15) f10_feed_6 (by decide) kk_119 rfl rfl ?_
  refine mV_push f10_feed_9 ?_
  refine mV_icmp_le f10_feed_12 (fun h0 => ?_) (fun h0 => ?_)
  · rw [if_pos h0] at hr
    refine mV_aload f10_feed_17 rfl ?_
    refine mV_iload f10_feed_18 rfl ?_
    obtain ⟨z0, hz0, hr⟩ := mBind hr
    refine mV_cV f10_feed_19 tg_m10_types mCls10 (by decide) kk_119 (mC_deep (c10_types X (mW I 119 0 0) s x0 hz0) (by decide)) rfl rfl (Nat.le_of_ble_eq_true rfl) ?_
    refine mV_aload f10_feed_22 rfl ?_
    refine mV_iload f10_feed_23 rfl ?_
    obtain ⟨z1, hz1, hr⟩ := mBind hr
    refine mV_cV f10_feed_24 tg_m10_types mCls10 (by decide) kk_119 (mC_deep (c10_types X z0 s x1 hz1) (by decide)) rfl rfl (Nat.le_of_ble_eq_true rfl) ?_
    refine mV_aload f10_feed_27 rfl ?_
    refine mV_iload f10_feed_28 rfl ?_
    obtain ⟨z2, hz2, hr⟩ := mBind hr
    refine mV_cV f10_feed_29 tg_m10_types mCls10 (by decide) kk_119 (mC_deep (c10_types X z1 s x2 hz2) (by decide)) rfl rfl (Nat.le_of_ble_eq_true rfl) ?_
    refine mV_aload f10_feed_32 rfl ?_
    refine mV_iload f10_feed_33 rfl ?_
    obtain ⟨z3, hz3, hr⟩ := mBind hr
    refine mV_cV f10_feed_35 tg_m10_types mCls10 (by decide) kk_119 (mC_deep (c10_types X z2 s x3 hz3) (by decide)) rfl rfl (Nat.le_of_ble_eq_true rfl) ?_
    refine mV_aload f10_feed_38 rfl ?_
    refine mV_iload f10_feed_39 rfl ?_
    obtain ⟨z4, hz4, hr⟩ := mBind hr
    refine mV_cV f10_feed_41 tg_m10_types mCls10 (by decide) kk_119 (mC_deep (c10_types X z3 s x4 hz4) (by decide)) rfl rfl (Nat.le_of_ble_eq_true rfl) ?_
    refine mV_aload f10_feed_44 rfl ?_
    refine mV_gI (z4 119 15) f10_feed_45 (by decide) kk_119 rfl rfl ?_
    have hr := Option.some.inj hr; subst hr
    exact mV_iret rfl rfl f10_feed_48 hQ
  · rw [if_neg h0] at hr
    refine mV_push f10_feed_15 ?_
    have hr := Option.some.inj hr; subst hr
    exact mV_iret rfl rfl f10_feed_16 hQ
theorem c10_feed (X : Nat × (Nat → Int32)) (I : mI) (s : Nat) (x0 : Int32) (x1 : Int32) (x2 : Int32) (x3 : Int32) (x4 : Int32) {res : Int32 × mI} (hr : r10_feed I x0 x1 x2 x3 x4 = some res) : mC X m10_feed 1 0 0 [.ref 119, .int x0, .int x1, .int x2, .int x3, .int x4] NN KK I (PP s) (mRet (some (.int res.1)) NN KK res.2 (PP s)) :=
  mC_of (L0 := [.ref 119, .int x0, .int x1, .int x2, .int x3, .int x4]) rfl (Nat.le_of_ble_eq_true rfl) (w10_feed X I s x0 x1 x2 x3 x4 _ hr (mRet_ok _ _ _ _ _))
def r10_end (I : mI) (x0 : Int32) : Option (Int32 × mI) := if ((r10_isIn x0 0 (I 119 15)) : Int32) = (0 : Int32) then some (0, (mW I 119 0 0)) else some (1, (mW (mW I 119 0 0) 119 15 x0))
set_option maxHeartbeats 4000000 in
set_option maxRecDepth 100000 in
theorem w10_end (X : Nat × (Nat → Int32)) (I : mI) (s : Nat) (x0 : Int32) (Q : mQ) {res : Int32 × mI} (hr : r10_end I x0 = some res) (hQ : Q (some (.int res.1)) NN KK res.2 (PP s)) : mV X m10_end 1 0 0 0 [.ref 119, .int x0] [] NN KK I (PP s) Q := by
  unfold r10_end at hr
  refine mV_aload f10_end_0 rfl ?_
  refine mV_push f10_end_1 ?_
  refine mV_putI f10_end_2 (by decide) kk_119 rfl rfl ?_
  refine mV_aload f10_end_5 rfl ?_
  refine mV_iload f10_end_6 rfl ?_
  refine mV_push f10_end_7 ?_
  refine mV_aload f10_end_8 rfl ?_
  refine mV_gI (I 119 15) f10_end_9 (by decide) kk_119 rfl rfl ?_
  refine mV_cV f10_end_12 tg_m10_isIn mCls10 (by decide) kk_119 (mC_deep (c10_isIn X (mW I 119 0 0) s x0 0 (I 119 15) rfl) (by decide)) rfl rfl (Nat.le_of_ble_eq_true rfl) ?_
  refine mV_if_ne f10_end_15 (fun h0 => ?_) (fun h0 => ?_)
  · rw [if_neg h0] at hr
    refine mV_aload f10_end_20 rfl ?_
    refine mV_iload f10_end_21 rfl ?_
    refine mV_putI f10_end_22 (by decide) kk_119 rfl rfl ?_
    refine mV_push f10_end_25 ?_
    have hr := Option.some.inj hr; subst hr
    exact mV_iret rfl rfl f10_end_26 hQ
  · rw [if_pos h0] at hr
    refine mV_push f10_end_18 ?_
    have hr := Option.some.inj hr; subst hr
    exact mV_iret rfl rfl f10_end_19 hQ
theorem c10_end (X : Nat × (Nat → Int32)) (I : mI) (s : Nat) (x0 : Int32) {res : Int32 × mI} (hr : r10_end I x0 = some res) : mC X m10_end 1 0 0 [.ref 119, .int x0] NN KK I (PP s) (mRet (some (.int res.1)) NN KK res.2 (PP s)) :=
  mC_of (L0 := [.ref 119, .int x0]) rfl (Nat.le_of_ble_eq_true rfl) (w10_end X I s x0 _ hr (mRet_ok _ _ _ _ _))

def l10_bar_43 : Nat → Int32 → mI → Option (mI)
  | 0, _, _ => none
  | f + 1, y4, I => if (225 : Int32) ≤ (y4 : Int32) then some I else (if (y4 : Int32) = (8 : Int32) then some 1 else some 0 : Option (Int32)).bind fun z0 => (mSto I 148 225 y4 z0).bind fun z1 => l10_bar_43 f (y4 + 1) z1
def l10_bar_123 (I : mI) (k3 : Int32) (k4 : Int32) (k5 : Int32) : Nat → Int32 → Int32 → Option (Int32)
  | 0, _, _ => none
  | f + 1, y6, y7 => if (9 : Int32) ≤ (y7 : Int32) then some y6 else (if (k3 : Int32) = (0 : Int32) then (mLd I 148 225 ((9 * ((k4 - k5) - 1)) + y7)).bind fun z1 => some (r10_added y6 z1) else if (y7 : Int32) = (k5 : Int32) then some y6 else (mLd I 148 225 ((9 * ((k4 - k5) - 1)) + y7)).bind fun z2 => some (r10_added y6 z2) : Option (Int32)).bind fun z0 => l10_bar_123 I k3 k4 k5 f z0 (y7 + 1)
def l10_bar_88 (k2 : Int32) (k3 : Int32) (k4 : Int32) : Nat → Int32 → mI → Option (mI)
  | 0, _, _ => none
  | f + 1, y5, I => if (8 : Int32) ≤ (y5 : Int32) then some I else (if ((r10_has k2 y5) : Int32) = (0 : Int32) then some I else if ((y5 + 1) : Int32) ≤ (k4 : Int32) then (l10_bar_123 I k3 k4 y5 FU 0 0).bind fun z1 => (mSto I 148 225 ((9 * k4) + y5) z1).bind fun z2 => some z2 else some I : Option (mI)).bind fun z0 => l10_bar_88 k2 k3 k4 f (y5 + 1) z0
def l10_bar_79 (k1 : Int32) (k2 : Int32) (k3 : Int32) : Nat → Int32 → mI → Option (mI)
  | 0, _, _ => none
  | f + 1, y4, I => if (k1 : Int32) < (y4 : Int32) then some I else (l10_bar_88 k2 k3 y4 FU 0 I).bind fun z0 => l10_bar_79 k1 k2 k3 f (y4 + 1) z0
def l10_bar_206 (I : mI) (k1 : Int32) : Nat → Int32 → Int32 → Option (Int32)
  | 0, _, _ => none
  | f + 1, y4, y5 => if (9 : Int32) ≤ (y5 : Int32) then some y4 else (mLd I 148 225 ((9 * k1) + y5)).bind fun z0 => l10_bar_206 I k1 f (r10_added y4 z0) (y5 + 1)
def r10_bar (I : mI) (x0 : Int32) (x1 : Int32) (x2 : Int32) : Option (Int32 × mI) := if ((r10_isIn x0 1 24) : Int32) = (0 : Int32) then some ((-1), (mW I 119 0 0)) else if ((r10_isIn x1 1 255) : Int32) = (0 : Int32) then some ((-1), (mW I 119 0 0)) else if ((r10_isIn x2 0 1) : Int32) = (0 : Int32) then some ((-1), (mW I 119 0 0)) else (l10_bar_43 FU 0 (mW I 119 0 0)).bind fun z0 => (l10_bar_79 x0 x1 x2 FU 1 z0).bind fun z1 => (l10_bar_206 z1 x0 FU 0 0).bind fun z2 => some (z2, z1)
set_option maxHeartbeats 4000000 in
set_option maxRecDepth 100000 in
theorem t10_bar_43 (X : Nat × (Nat → Int32)) (Q : mQ) (s : Nat) (k1 : Int32) (k2 : Int32) (k3 : Int32) : ∀ (f : Nat) (y4 : Int32) (I : mI) (z : mI), l10_bar_43 f y4 I = some z → mV X m10_bar 1 0 0 76 [.ref 119, .int k1, .int k2, .int k3, mX0, mX0, mX0, mX0] [] NN KK z (PP s) Q → mV X m10_bar 1 0 0 43 [.ref 119, .int k1, .int k2, .int k3, .int y4, mX0, mX0, mX0] [] NN KK I (PP s) Q := by
  intro f
  induction f with
  | zero => intro y4 I z hr hk; cases hr
  | succ f ih =>
    intro y4 I z hr hk
    unfold l10_bar_43 at hr
    refine mV_iload f10_bar_43 rfl ?_
    refine mV_push f10_bar_45 ?_
    refine mV_icmp_ge f10_bar_48 (fun h0 => ?_) (fun h0 => ?_)
    · rw [if_pos h0] at hr
      have hr := Option.some.inj hr; subst hr
      refine mV_drop (L' := [.ref 119, .int k1, .int k2, .int k3, mX0, mX0, mX0, mX0]) (mSub_k (mSub_k (mSub_k (mSub_k (mSub_x (mSub_x (mSub_x (mSub_x mSub_n)))))))) ?_
      exact hk
    · rw [if_neg h0] at hr
      refine mV_aload f10_bar_51 rfl ?_
      refine mV_getP f10_bar_52 (by decide) kk_119 rfl (pp_119_51 _) ?_
      refine mV_iload f10_bar_55 rfl ?_
      refine mV_iload f10_bar_57 rfl ?_
      refine mV_push f10_bar_59 ?_
      obtain ⟨z0, hz0, hr⟩ := mBind hr
      have keyz0 : mV X m10_bar 1 0 0 69 [.ref 119, .int k1, .int k2, .int k3, .int y4, mX0, mX0, mX0] [.int z0, .int y4, .ref 148] NN KK I (PP s) Q := by
        obtain ⟨z1, hz1, hr⟩ := mBind hr
        refine mV_stO f10_bar_69 (by decide) kk_148 hz1 ?_
        refine mV_iinc (y := (y4 + 1)) (L' := [.ref 119, .int k1, .int k2, .int k3, .int (y4 + 1), mX0, mX0, mX0]) f10_bar_70 rfl rfl (by decide) rfl rfl ?_
        refine mV_goto f10_bar_73 ?_
        exact ih (y4 + 1) z1 _ hr hk
      clear hr
      have hr := hz0
      clear hz0
      refine mV_icmp_ne f10_bar_61 (fun h1 => ?_) (fun h1 => ?_)
      · rw [if_neg h1] at hr
        refine mV_push f10_bar_68 ?_
        have hr := Option.some.inj hr; subst hr
        exact keyz0
      · rw [if_pos h1] at hr
        refine mV_push f10_bar_64 ?_
        refine mV_goto f10_bar_65 ?_
        have hr := Option.some.inj hr; subst hr
        exact keyz0
set_option maxHeartbeats 4000000 in
set_option maxRecDepth 100000 in
theorem t10_bar_123 (X : Nat × (Nat → Int32)) (Q : mQ) (s : Nat) (I : mI) (k1 : Int32) (k2 : Int32) (k3 : Int32) (k4 : Int32) (k5 : Int32) : ∀ (f : Nat) (y6 : Int32) (y7 : Int32) (z : Int32), l10_bar_123 I k3 k4 k5 f y6 y7 = some z → mV X m10_bar 1 0 0 173 [.ref 119, .int k1, .int k2, .int k3, .int k4, .int k5, .int z, mX0] [] NN KK I (PP s) Q → mV X m10_bar 1 0 0 123 [.ref 119, .int k1, .int k2, .int k3, .int k4, .int k5, .int y6, .int y7] [] NN KK I (PP s) Q := by
  intro f
  induction f with
  | zero => intro y6 y7 z hr hk; cases hr
  | succ f ih =>
    intro y6 y7 z hr hk
    unfold l10_bar_123 at hr
    refine mV_iload f10_bar_123 rfl ?_
    refine mV_push f10_bar_125 ?_
    refine mV_icmp_ge f10_bar_127 (fun h0 => ?_) (fun h0 => ?_)
    · rw [if_pos h0] at hr
      have hr := Option.some.inj hr; subst hr
      refine mV_drop (L' := [.ref 119, .int k1, .int k2, .int k3, .int k4, .int k5, .int y6, mX0]) (mSub_k (mSub_k (mSub_k (mSub_k (mSub_k (mSub_k (mSub_k (mSub_x mSub_n)))))))) ?_
      exact hk
    · rw [if_neg h0] at hr
      refine mV_iload f10_bar_130 rfl ?_
      obtain ⟨z0, hz0, hr⟩ := mBind hr
      have keyz0 : mV X m10_bar 1 0 0 167 [.ref 119, .int k1, .int k2, .int k3, .int k4, .int k5, .int z0, .int y7] [] NN KK I (PP s) Q := by
        refine mV_iinc (y := (y7 + 1)) (L' := [.ref 119, .int k1, .int k2, .int k3, .int k4, .int k5, .int z0, .int (y7 + 1)]) f10_bar_167 rfl rfl (by decide) rfl rfl ?_
        refine mV_goto f10_bar_170 ?_
        exact ih z0 (y7 + 1) _ hr hk
      clear hr
      have hr := hz0
      clear hz0
      refine mV_if_eq f10_bar_131 (fun h1 => ?_) (fun h1 => ?_)
      · rw [if_pos h1] at hr
        refine mV_aload f10_bar_141 rfl ?_
        refine mV_iload f10_bar_142 rfl ?_
        refine mV_aload f10_bar_144 rfl ?_
        refine mV_getP f10_bar_145 (by decide) kk_119 rfl (pp_119_51 _) ?_
        refine mV_push f10_bar_148 ?_
        refine mV_iload f10_bar_150 rfl ?_
        refine mV_iload f10_bar_152 rfl ?_
        refine mV_isub f10_bar_154 ?_
        refine mV_push f10_bar_155 ?_
        refine mV_isub f10_bar_156 ?_
        refine mV_imul f10_bar_157 ?_
        refine mV_iload f10_bar_158 rfl ?_
        refine mV_iadd f10_bar_160 ?_
        obtain ⟨z1, hz1, hr⟩ := mBind hr
        refine mV_ldO f10_bar_161 (by decide) kk_148 hz1 ?_
        refine mV_cV f10_bar_162 tg_m10_added mCls10 (by decide) kk_119 (mC_deep (c10_added X I s y6 z1 rfl) (by decide)) rfl rfl (Nat.le_of_ble_eq_true rfl) ?_
        refine mV_istore (L' := [.ref 119, .int k1, .int k2, .int k3, .int k4, .int k5, .int (r10_added y6 z1), .int y7]) f10_bar_165 (by decide) rfl rfl ?_
        have hr := Option.some.inj hr; subst hr
        exact keyz0
      · rw [if_neg h1] at hr
        refine mV_iload f10_bar_134 rfl ?_
        refine mV_iload f10_bar_136 rfl ?_
        refine mV_icmp_eq f10_bar_138 (fun h2 => ?_) (fun h2 => ?_)
        · rw [if_pos h2] at hr
          have hr := Option.some.inj hr; subst hr
          exact keyz0
        · rw [if_neg h2] at hr
          refine mV_aload f10_bar_141 rfl ?_
          refine mV_iload f10_bar_142 rfl ?_
          refine mV_aload f10_bar_144 rfl ?_
          refine mV_getP f10_bar_145 (by decide) kk_119 rfl (pp_119_51 _) ?_
          refine mV_push f10_bar_148 ?_
          refine mV_iload f10_bar_150 rfl ?_
          refine mV_iload f10_bar_152 rfl ?_
          refine mV_isub f10_bar_154 ?_
          refine mV_push f10_bar_155 ?_
          refine mV_isub f10_bar_156 ?_
          refine mV_imul f10_bar_157 ?_
          refine mV_iload f10_bar_158 rfl ?_
          refine mV_iadd f10_bar_160 ?_
          obtain ⟨z2, hz2, hr⟩ := mBind hr
          refine mV_ldO f10_bar_161 (by decide) kk_148 hz2 ?_
          refine mV_cV f10_bar_162 tg_m10_added mCls10 (by decide) kk_119 (mC_deep (c10_added X I s y6 z2 rfl) (by decide)) rfl rfl (Nat.le_of_ble_eq_true rfl) ?_
          refine mV_istore (L' := [.ref 119, .int k1, .int k2, .int k3, .int k4, .int k5, .int (r10_added y6 z2), .int y7]) f10_bar_165 (by decide) rfl rfl ?_
          have hr := Option.some.inj hr; subst hr
          exact keyz0
set_option maxHeartbeats 4000000 in
set_option maxRecDepth 100000 in
theorem t10_bar_88 (X : Nat × (Nat → Int32)) (Q : mQ) (s : Nat) (k1 : Int32) (k2 : Int32) (k3 : Int32) (k4 : Int32) : ∀ (f : Nat) (y5 : Int32) (I : mI) (z : mI), l10_bar_88 k2 k3 k4 f y5 I = some z → mV X m10_bar 1 0 0 194 [.ref 119, .int k1, .int k2, .int k3, .int k4, mX0, mX0, mX0] [] NN KK z (PP s) Q → mV X m10_bar 1 0 0 88 [.ref 119, .int k1, .int k2, .int k3, .int k4, .int y5, mX0, mX0] [] NN KK I (PP s) Q := by
  intro f
  induction f with
  | zero => intro y5 I z hr hk; cases hr
  | succ f ih =>
    intro y5 I z hr hk
    unfold l10_bar_88 at hr
    refine mV_iload f10_bar_88 rfl ?_
    refine mV_push f10_bar_90 ?_
    refine mV_icmp_ge f10_bar_92 (fun h0 => ?_) (fun h0 => ?_)
    · rw [if_pos h0] at hr
      have hr := Option.some.inj hr; subst hr
      refine mV_drop (L' := [.ref 119, .int k1, .int k2, .int k3, .int k4, mX0, mX0, mX0]) (mSub_k (mSub_k (mSub_k (mSub_k (mSub_k (mSub_x (mSub_x (mSub_x mSub_n)))))))) ?_
      exact hk
    · rw [if_neg h0] at hr
      refine mV_aload f10_bar_95 rfl ?_
      refine mV_iload f10_bar_96 rfl ?_
      refine mV_iload f10_bar_97 rfl ?_
      refine mV_cV f10_bar_99 tg_m10_has mCls10 (by decide) kk_119 (mC_deep (c10_has X I s k2 y5 rfl) (by decide)) rfl rfl (Nat.le_of_ble_eq_true rfl) ?_
      obtain ⟨z0, hz0, hr⟩ := mBind hr
      have keyz0 : mV X m10_bar 1 0 0 188 [.ref 119, .int k1, .int k2, .int k3, .int k4, .int y5, mX0, mX0] [] NN KK z0 (PP s) Q := by
        refine mV_iinc (y := (y5 + 1)) (L' := [.ref 119, .int k1, .int k2, .int k3, .int k4, .int (y5 + 1), mX0, mX0]) f10_bar_188 rfl rfl (by decide) rfl rfl ?_
        refine mV_goto f10_bar_191 ?_
        exact ih (y5 + 1) z0 _ hr hk
      clear hr
      have hr := hz0
      clear hz0
      refine mV_if_eq f10_bar_102 (fun h1 => ?_) (fun h1 => ?_)
      · rw [if_pos h1] at hr
        have hr := Option.some.inj hr; subst hr
        exact keyz0
      · rw [if_neg h1] at hr
        refine mV_iload f10_bar_105 rfl ?_
        refine mV_iload f10_bar_107 rfl ?_
        refine mV_push f10_bar_109 ?_
        refine mV_iadd f10_bar_110 ?_
        refine mV_icmp_ge f10_bar_111 (fun h2 => ?_) (fun h2 => ?_)
        · rw [if_pos h2] at hr
          refine mV_push f10_bar_117 ?_
          refine mV_istore (L' := [.ref 119, .int k1, .int k2, .int k3, .int k4, .int y5, .int 0, mX0]) f10_bar_118 (by decide) rfl rfl ?_
          refine mV_push f10_bar_120 ?_
          refine mV_istore (L' := [.ref 119, .int k1, .int k2, .int k3, .int k4, .int y5, .int 0, .int 0]) f10_bar_121 (by decide) rfl rfl ?_
          obtain ⟨z1, hz1, hr⟩ := mBind hr
          refine t10_bar_123 X Q s I k1 k2 k3 k4 y5 FU 0 0 _ hz1 ?_
          refine mV_aload f10_bar_173 rfl ?_
          refine mV_getP f10_bar_174 (by decide) kk_119 rfl (pp_119_51 _) ?_
          refine mV_push f10_bar_177 ?_
          refine mV_iload f10_bar_179 rfl ?_
          refine mV_imul f10_bar_181 ?_
          refine mV_iload f10_bar_182 rfl ?_
          refine mV_iadd f10_bar_184 ?_
          refine mV_iload f10_bar_185 rfl ?_
          obtain ⟨z2, hz2, hr⟩ := mBind hr
          refine mV_stO f10_bar_187 (by decide) kk_148 hz2 ?_
          have hr := Option.some.inj hr; subst hr
          refine mV_drop (L' := [.ref 119, .int k1, .int k2, .int k3, .int k4, .int y5, mX0, mX0]) (mSub_k (mSub_k (mSub_k (mSub_k (mSub_k (mSub_k (mSub_x (mSub_x mSub_n)))))))) ?_
          exact keyz0
        · rw [if_neg h2] at hr
          refine mV_goto f10_bar_114 ?_
          have hr := Option.some.inj hr; subst hr
          exact keyz0
set_option maxHeartbeats 4000000 in
set_option maxRecDepth 100000 in
theorem t10_bar_79 (X : Nat × (Nat → Int32)) (Q : mQ) (s : Nat) (k1 : Int32) (k2 : Int32) (k3 : Int32) : ∀ (f : Nat) (y4 : Int32) (I : mI) (z : mI), l10_bar_79 k1 k2 k3 f y4 I = some z → mV X m10_bar 1 0 0 200 [.ref 119, .int k1, .int k2, .int k3, mX0, mX0, mX0, mX0] [] NN KK z (PP s) Q → mV X m10_bar 1 0 0 79 [.ref 119, .int k1, .int k2, .int k3, .int y4, mX0, mX0, mX0] [] NN KK I (PP s) Q := by
  intro f
  induction f with
  | zero => intro y4 I z hr hk; cases hr
  | succ f ih =>
    intro y4 I z hr hk
    unfold l10_bar_79 at hr
    refine mV_iload f10_bar_79 rfl ?_
    refine mV_iload f10_bar_81 rfl ?_
    refine mV_icmp_gt f10_bar_82 (fun h0 => ?_) (fun h0 => ?_)
    · rw [if_pos h0] at hr
      have hr := Option.some.inj hr; subst hr
      refine mV_drop (L' := [.ref 119, .int k1, .int k2, .int k3, mX0, mX0, mX0, mX0]) (mSub_k (mSub_k (mSub_k (mSub_k (mSub_x (mSub_x (mSub_x (mSub_x mSub_n)))))))) ?_
      exact hk
    · rw [if_neg h0] at hr
      refine mV_push f10_bar_85 ?_
      refine mV_istore (L' := [.ref 119, .int k1, .int k2, .int k3, .int y4, .int 0, mX0, mX0]) f10_bar_86 (by decide) rfl rfl ?_
      obtain ⟨z0, hz0, hr⟩ := mBind hr
      refine t10_bar_88 X Q s k1 k2 k3 y4 FU 0 I _ hz0 ?_
      refine mV_iinc (y := (y4 + 1)) (L' := [.ref 119, .int k1, .int k2, .int k3, .int (y4 + 1), mX0, mX0, mX0]) f10_bar_194 rfl rfl (by decide) rfl rfl ?_
      refine mV_goto f10_bar_197 ?_
      exact ih (y4 + 1) z0 _ hr hk
set_option maxHeartbeats 4000000 in
set_option maxRecDepth 100000 in
theorem t10_bar_206 (X : Nat × (Nat → Int32)) (Q : mQ) (s : Nat) (I : mI) (k1 : Int32) : ∀ (f : Nat) (y4 : Int32) (y5 : Int32) (z : Int32), l10_bar_206 I k1 f y4 y5 = some z → mV X m10_bar 1 0 0 239 [.ref 119, .int k1, mX0, mX0, .int z, mX0, mX0, mX0] [] NN KK I (PP s) Q → mV X m10_bar 1 0 0 206 [.ref 119, .int k1, mX0, mX0, .int y4, .int y5, mX0, mX0] [] NN KK I (PP s) Q := by
  intro f
  induction f with
  | zero => intro y4 y5 z hr hk; cases hr
  | succ f ih =>
    intro y4 y5 z hr hk
    unfold l10_bar_206 at hr
    refine mV_iload f10_bar_206 rfl ?_
    refine mV_push f10_bar_208 ?_
    refine mV_icmp_ge f10_bar_210 (fun h0 => ?_) (fun h0 => ?_)
    · rw [if_pos h0] at hr
      have hr := Option.some.inj hr; subst hr
      refine mV_drop (L' := [.ref 119, .int k1, mX0, mX0, .int y4, mX0, mX0, mX0]) (mSub_k (mSub_k (mSub_x (mSub_x (mSub_k (mSub_x (mSub_x (mSub_x mSub_n)))))))) ?_
      exact hk
    · rw [if_neg h0] at hr
      refine mV_aload f10_bar_213 rfl ?_
      refine mV_iload f10_bar_214 rfl ?_
      refine mV_aload f10_bar_216 rfl ?_
      refine mV_getP f10_bar_217 (by decide) kk_119 rfl (pp_119_51 _) ?_
      refine mV_push f10_bar_220 ?_
      refine mV_iload f10_bar_222 rfl ?_
      refine mV_imul f10_bar_223 ?_
      refine mV_iload f10_bar_224 rfl ?_
      refine mV_iadd f10_bar_226 ?_
      obtain ⟨z0, hz0, hr⟩ := mBind hr
      refine mV_ldO f10_bar_227 (by decide) kk_148 hz0 ?_
      refine mV_cV f10_bar_228 tg_m10_added mCls10 (by decide) kk_119 (mC_deep (c10_added X I s y4 z0 rfl) (by decide)) rfl rfl (Nat.le_of_ble_eq_true rfl) ?_
      refine mV_istore (L' := [.ref 119, .int k1, mX0, mX0, .int (r10_added y4 z0), .int y5, mX0, mX0]) f10_bar_231 (by decide) rfl rfl ?_
      refine mV_iinc (y := (y5 + 1)) (L' := [.ref 119, .int k1, mX0, mX0, .int (r10_added y4 z0), .int (y5 + 1), mX0, mX0]) f10_bar_233 rfl rfl (by decide) rfl rfl ?_
      refine mV_goto f10_bar_236 ?_
      exact ih (r10_added y4 z0) (y5 + 1) _ hr hk
set_option maxHeartbeats 4000000 in
set_option maxRecDepth 100000 in
theorem w10_bar (X : Nat × (Nat → Int32)) (I : mI) (s : Nat) (x0 : Int32) (x1 : Int32) (x2 : Int32) (Q : mQ) {res : Int32 × mI} (hr : r10_bar I x0 x1 x2 = some res) (hQ : Q (some (.int res.1)) NN KK res.2 (PP s)) : mV X m10_bar 1 0 0 0 [.ref 119, .int x0, .int x1, .int x2, mX0, mX0, mX0, mX0] [] NN KK I (PP s) Q := by
  unfold r10_bar at hr
  refine mV_aload f10_bar_0 rfl ?_
  refine mV_push f10_bar_1 ?_
  refine mV_putI f10_bar_2 (by decide) kk_119 rfl rfl ?_
  refine mV_aload f10_bar_5 rfl ?_
  refine mV_iload f10_bar_6 rfl ?_
  refine mV_push f10_bar_7 ?_
  refine mV_push f10_bar_8 ?_
  refine mV_cV f10_bar_10 tg_m10_isIn mCls10 (by decide) kk_119 (mC_deep (c10_isIn X (mW I 119 0 0) s x0 1 24 rfl) (by decide)) rfl rfl (Nat.le_of_ble_eq_true rfl) ?_
  refine mV_if_eq f10_bar_13 (fun h0 => ?_) (fun h0 => ?_)
  · rw [if_pos h0] at hr
    refine mV_push f10_bar_38 ?_
    have hr := Option.some.inj hr; subst hr
    exact mV_iret rfl rfl f10_bar_39 hQ
  · rw [if_neg h0] at hr
    refine mV_aload f10_bar_16 rfl ?_
    refine mV_iload f10_bar_17 rfl ?_
    refine mV_push f10_bar_18 ?_
    refine mV_push f10_bar_19 ?_
    refine mV_cV f10_bar_22 tg_m10_isIn mCls10 (by decide) kk_119 (mC_deep (c10_isIn X (mW I 119 0 0) s x1 1 255 rfl) (by decide)) rfl rfl (Nat.le_of_ble_eq_true rfl) ?_
    refine mV_if_eq f10_bar_25 (fun h1 => ?_) (fun h1 => ?_)
    · rw [if_pos h1] at hr
      refine mV_push f10_bar_38 ?_
      have hr := Option.some.inj hr; subst hr
      exact mV_iret rfl rfl f10_bar_39 hQ
    · rw [if_neg h1] at hr
      refine mV_aload f10_bar_28 rfl ?_
      refine mV_iload f10_bar_29 rfl ?_
      refine mV_push f10_bar_30 ?_
      refine mV_push f10_bar_31 ?_
      refine mV_cV f10_bar_32 tg_m10_isIn mCls10 (by decide) kk_119 (mC_deep (c10_isIn X (mW I 119 0 0) s x2 0 1 rfl) (by decide)) rfl rfl (Nat.le_of_ble_eq_true rfl) ?_
      refine mV_if_ne f10_bar_35 (fun h2 => ?_) (fun h2 => ?_)
      · rw [if_neg h2] at hr
        refine mV_push f10_bar_40 ?_
        refine mV_istore (L' := [.ref 119, .int x0, .int x1, .int x2, .int 0, mX0, mX0, mX0]) f10_bar_41 (by decide) rfl rfl ?_
        obtain ⟨z0, hz0, hr⟩ := mBind hr
        refine t10_bar_43 X Q s x0 x1 x2 FU 0 (mW I 119 0 0) _ hz0 ?_
        refine mV_push f10_bar_76 ?_
        refine mV_istore (L' := [.ref 119, .int x0, .int x1, .int x2, .int 1, mX0, mX0, mX0]) f10_bar_77 (by decide) rfl rfl ?_
        obtain ⟨z1, hz1, hr⟩ := mBind hr
        refine t10_bar_79 X Q s x0 x1 x2 FU 1 z0 _ hz1 ?_
        refine mV_push f10_bar_200 ?_
        refine mV_istore (L' := [.ref 119, .int x0, .int x1, .int x2, .int 0, mX0, mX0, mX0]) f10_bar_201 (by decide) rfl rfl ?_
        refine mV_push f10_bar_203 ?_
        refine mV_istore (L' := [.ref 119, .int x0, .int x1, .int x2, .int 0, .int 0, mX0, mX0]) f10_bar_204 (by decide) rfl rfl ?_
        obtain ⟨z2, hz2, hr⟩ := mBind hr
        refine mV_drop (L' := [.ref 119, .int x0, mX0, mX0, .int 0, .int 0, mX0, mX0]) (mSub_k (mSub_k (mSub_x (mSub_x (mSub_k (mSub_k (mSub_x (mSub_x mSub_n)))))))) ?_
        refine t10_bar_206 X Q s z1 x0 FU 0 0 _ hz2 ?_
        refine mV_iload f10_bar_239 rfl ?_
        have hr := Option.some.inj hr; subst hr
        exact mV_iret rfl rfl f10_bar_241 hQ
      · rw [if_pos h2] at hr
        refine mV_push f10_bar_38 ?_
        have hr := Option.some.inj hr; subst hr
        exact mV_iret rfl rfl f10_bar_39 hQ
theorem c10_bar (X : Nat × (Nat → Int32)) (I : mI) (s : Nat) (x0 : Int32) (x1 : Int32) (x2 : Int32) {res : Int32 × mI} (hr : r10_bar I x0 x1 x2 = some res) : mC X m10_bar 1 0 0 [.ref 119, .int x0, .int x1, .int x2] NN KK I (PP s) (mRet (some (.int res.1)) NN KK res.2 (PP s)) :=
  mC_of (L0 := [.ref 119, .int x0, .int x1, .int x2, mX0, mX0, mX0, mX0]) rfl (Nat.le_of_ble_eq_true rfl) (w10_bar X I s x0 x1 x2 _ hr (mRet_ok _ _ _ _ _))
def r10_period (I : mI) (x0 : Int32) (x1 : Int32) : Option (Int32 × mI) := if ((r10_isString x0) : Int32) = (0 : Int32) then some (0, (mW I 119 0 0)) else if ((r10_isIn x1 1 99) : Int32) = (0 : Int32) then some (0, (mW I 119 0 0)) else (mSto (mW I 119 0 0) 149 8 x0 (x1 - 1)).bind fun z0 => some (1, z0)
set_option maxHeartbeats 4000000 in
set_option maxRecDepth 100000 in
theorem w10_period (X : Nat × (Nat → Int32)) (I : mI) (s : Nat) (x0 : Int32) (x1 : Int32) (Q : mQ) {res : Int32 × mI} (hr : r10_period I x0 x1 = some res) (hQ : Q (some (.int res.1)) NN KK res.2 (PP s)) : mV X m10_period 1 0 0 0 [.ref 119, .int x0, .int x1] [] NN KK I (PP s) Q := by
  unfold r10_period at hr
  refine mV_aload f10_period_0 rfl ?_
  refine mV_push f10_period_1 ?_
  refine mV_putI f10_period_2 (by decide) kk_119 rfl rfl ?_
  refine mV_aload f10_period_5 rfl ?_
  refine mV_iload f10_period_6 rfl ?_
  refine mV_cV f10_period_7 tg_m10_isString mCls10 (by decide) kk_119 (mC_deep (c10_isString X (mW I 119 0 0) s x0 rfl) (by decide)) rfl rfl (Nat.le_of_ble_eq_true rfl) ?_
  refine mV_if_eq f10_period_10 (fun h0 => ?_) (fun h0 => ?_)
  · rw [if_pos h0] at hr
    refine mV_push f10_period_24 ?_
    have hr := Option.some.inj hr; subst hr
    exact mV_iret rfl rfl f10_period_25 hQ
  · rw [if_neg h0] at hr
    refine mV_aload f10_period_13 rfl ?_
    refine mV_iload f10_period_14 rfl ?_
    refine mV_push f10_period_15 ?_
    refine mV_push f10_period_16 ?_
    refine mV_cV f10_period_18 tg_m10_isIn mCls10 (by decide) kk_119 (mC_deep (c10_isIn X (mW I 119 0 0) s x1 1 99 rfl) (by decide)) rfl rfl (Nat.le_of_ble_eq_true rfl) ?_
    refine mV_if_ne f10_period_21 (fun h1 => ?_) (fun h1 => ?_)
    · rw [if_neg h1] at hr
      refine mV_aload f10_period_26 rfl ?_
      refine mV_getP f10_period_27 (by decide) kk_119 rfl (pp_119_52 _) ?_
      refine mV_iload f10_period_30 rfl ?_
      refine mV_iload f10_period_31 rfl ?_
      refine mV_push f10_period_32 ?_
      refine mV_isub f10_period_33 ?_
      obtain ⟨z0, hz0, hr⟩ := mBind hr
      refine mV_stO f10_period_34 (by decide) kk_149 hz0 ?_
      refine mV_push f10_period_35 ?_
      have hr := Option.some.inj hr; subst hr
      exact mV_iret rfl rfl f10_period_36 hQ
    · rw [if_pos h1] at hr
      refine mV_push f10_period_24 ?_
      have hr := Option.some.inj hr; subst hr
      exact mV_iret rfl rfl f10_period_25 hQ
theorem c10_period (X : Nat × (Nat → Int32)) (I : mI) (s : Nat) (x0 : Int32) (x1 : Int32) {res : Int32 × mI} (hr : r10_period I x0 x1 = some res) : mC X m10_period 1 0 0 [.ref 119, .int x0, .int x1] NN KK I (PP s) (mRet (some (.int res.1)) NN KK res.2 (PP s)) :=
  mC_of (L0 := [.ref 119, .int x0, .int x1]) rfl (Nat.le_of_ble_eq_true rfl) (w10_period X I s x0 x1 _ hr (mRet_ok _ _ _ _ _))
def l10_common_5 : Nat → Int32 → Int32 → Option (Int32)
  | 0, _, _ => none
  | f + 1, y3, y4 => if (y4 : Int32) = (0 : Int32) then some y3 else (mRemO y3 y4).bind fun z0 => l10_common_5 f y4 z0
def r10_common (x0 : Int32) (x1 : Int32) : Option (Int32) := (l10_common_5 FU x0 x1).bind fun z0 => some z0
set_option maxHeartbeats 4000000 in
set_option maxRecDepth 100000 in
theorem t10_common_5 (X : Nat × (Nat → Int32)) (Q : mQ) (s : Nat) (I : mI) : ∀ (f : Nat) (y3 : Int32) (y4 : Int32) (z : Int32), l10_common_5 f y3 y4 = some z → mV X m10_common 0 0 0 26 [.ref 119, mX0, mX0, .int z, mX0, mX0] [] NN KK I (PP s) Q → mV X m10_common 0 0 0 5 [.ref 119, mX0, mX0, .int y3, .int y4, mX0] [] NN KK I (PP s) Q := by
  intro f
  induction f with
  | zero => intro y3 y4 z hr hk; cases hr
  | succ f ih =>
    intro y3 y4 z hr hk
    unfold l10_common_5 at hr
    refine mV_iload f10_common_5 rfl ?_
    refine mV_if_eq f10_common_7 (fun h0 => ?_) (fun h0 => ?_)
    · rw [if_pos h0] at hr
      have hr := Option.some.inj hr; subst hr
      refine mV_drop (L' := [.ref 119, mX0, mX0, .int y3, mX0, mX0]) (mSub_k (mSub_x (mSub_x (mSub_k (mSub_x (mSub_x mSub_n)))))) ?_
      exact hk
    · rw [if_neg h0] at hr
      refine mV_iload f10_common_10 rfl ?_
      refine mV_iload f10_common_11 rfl ?_
      obtain ⟨z0, hz0, hr⟩ := mBind hr
      refine mV_remO f10_common_13 hz0 ?_
      refine mV_istore (L' := [.ref 119, mX0, mX0, .int y3, .int y4, .int z0]) f10_common_14 (by decide) rfl rfl ?_
      refine mV_iload f10_common_16 rfl ?_
      refine mV_istore (L' := [.ref 119, mX0, mX0, .int y4, .int y4, .int z0]) f10_common_18 (by decide) rfl rfl ?_
      refine mV_iload f10_common_19 rfl ?_
      refine mV_istore (L' := [.ref 119, mX0, mX0, .int y4, .int z0, .int z0]) f10_common_21 (by decide) rfl rfl ?_
      refine mV_goto f10_common_23 ?_
      refine mV_drop (L' := [.ref 119, mX0, mX0, .int y4, .int z0, mX0]) (mSub_k (mSub_x (mSub_x (mSub_k (mSub_k (mSub_x mSub_n)))))) ?_
      exact ih y4 z0 _ hr hk
set_option maxHeartbeats 4000000 in
set_option maxRecDepth 100000 in
theorem w10_common (X : Nat × (Nat → Int32)) (I : mI) (s : Nat) (x0 : Int32) (x1 : Int32) (Q : mQ) {res : Int32} (hr : r10_common x0 x1 = some res) (hQ : Q (some (.int res)) NN KK I (PP s)) : mV X m10_common 0 0 0 0 [.ref 119, .int x0, .int x1, mX0, mX0, mX0] [] NN KK I (PP s) Q := by
  unfold r10_common at hr
  refine mV_iload f10_common_0 rfl ?_
  refine mV_istore (L' := [.ref 119, .int x0, .int x1, .int x0, mX0, mX0]) f10_common_1 (by decide) rfl rfl ?_
  refine mV_iload f10_common_2 rfl ?_
  refine mV_istore (L' := [.ref 119, .int x0, .int x1, .int x0, .int x1, mX0]) f10_common_3 (by decide) rfl rfl ?_
  obtain ⟨z0, hz0, hr⟩ := mBind hr
  refine mV_drop (L' := [.ref 119, mX0, mX0, .int x0, .int x1, mX0]) (mSub_k (mSub_x (mSub_x (mSub_k (mSub_k (mSub_x mSub_n)))))) ?_
  refine t10_common_5 X Q s I FU x0 x1 _ hz0 ?_
  refine mV_iload f10_common_26 rfl ?_
  have hr := Option.some.inj hr; subst hr
  exact mV_iret rfl rfl f10_common_27 hQ
theorem c10_common (X : Nat × (Nat → Int32)) (I : mI) (s : Nat) (x0 : Int32) (x1 : Int32) {res : Int32} (hr : r10_common x0 x1 = some res) : mC X m10_common 0 0 0 [.ref 119, .int x0, .int x1] NN KK I (PP s) (mRet (some (.int res)) NN KK I (PP s)) :=
  mC_of (L0 := [.ref 119, .int x0, .int x1, mX0, mX0, mX0]) rfl (Nat.le_of_ble_eq_true rfl) (w10_common X I s x0 x1 _ hr (mRet_ok _ _ _ _ _))
def l10_times_5 (k1 : Int32) (k2 : Int32) : Nat → Int32 → Int32 → Option (Int32)
  | 0, _, _ => none
  | f + 1, y3, y4 => if (k2 : Int32) ≤ (y4 : Int32) then some y3 else l10_times_5 k1 k2 f (r10_added y3 k1) (y4 + 1)
def r10_times (x0 : Int32) (x1 : Int32) : Option (Int32) := (l10_times_5 x0 x1 FU 0 0).bind fun z0 => some z0
set_option maxHeartbeats 4000000 in
set_option maxRecDepth 100000 in
theorem t10_times_5 (X : Nat × (Nat → Int32)) (Q : mQ) (s : Nat) (I : mI) (k1 : Int32) (k2 : Int32) : ∀ (f : Nat) (y3 : Int32) (y4 : Int32) (z : Int32), l10_times_5 k1 k2 f y3 y4 = some z → mV X m10_times 1 0 0 24 [.ref 119, .int k1, .int k2, .int z, mX0] [] NN KK I (PP s) Q → mV X m10_times 1 0 0 5 [.ref 119, .int k1, .int k2, .int y3, .int y4] [] NN KK I (PP s) Q := by
  intro f
  induction f with
  | zero => intro y3 y4 z hr hk; cases hr
  | succ f ih =>
    intro y3 y4 z hr hk
    unfold l10_times_5 at hr
    refine mV_iload f10_times_5 rfl ?_
    refine mV_iload f10_times_7 rfl ?_
    refine mV_icmp_ge f10_times_8 (fun h0 => ?_) (fun h0 => ?_)
    · rw [if_pos h0] at hr
      have hr := Option.some.inj hr; subst hr
      refine mV_drop (L' := [.ref 119, .int k1, .int k2, .int y3, mX0]) (mSub_k (mSub_k (mSub_k (mSub_k (mSub_x mSub_n))))) ?_
      exact hk
    · rw [if_neg h0] at hr
      refine mV_aload f10_times_11 rfl ?_
      refine mV_iload f10_times_12 rfl ?_
      refine mV_iload f10_times_13 rfl ?_
      refine mV_cV f10_times_14 tg_m10_added mCls10 (by decide) kk_119 (mC_deep (c10_added X I s y3 k1 rfl) (by decide)) rfl rfl (Nat.le_of_ble_eq_true rfl) ?_
      refine mV_istore (L' := [.ref 119, .int k1, .int k2, .int (r10_added y3 k1), .int y4]) f10_times_17 (by decide) rfl rfl ?_
      refine mV_iinc (y := (y4 + 1)) (L' := [.ref 119, .int k1, .int k2, .int (r10_added y3 k1), .int (y4 + 1)]) f10_times_18 rfl rfl (by decide) rfl rfl ?_
      refine mV_goto f10_times_21 ?_
      exact ih (r10_added y3 k1) (y4 + 1) _ hr hk
set_option maxHeartbeats 4000000 in
set_option maxRecDepth 100000 in
theorem w10_times (X : Nat × (Nat → Int32)) (I : mI) (s : Nat) (x0 : Int32) (x1 : Int32) (Q : mQ) {res : Int32} (hr : r10_times x0 x1 = some res) (hQ : Q (some (.int res)) NN KK I (PP s)) : mV X m10_times 1 0 0 0 [.ref 119, .int x0, .int x1, mX0, mX0] [] NN KK I (PP s) Q := by
  unfold r10_times at hr
  refine mV_push f10_times_0 ?_
  refine mV_istore (L' := [.ref 119, .int x0, .int x1, .int 0, mX0]) f10_times_1 (by decide) rfl rfl ?_
  refine mV_push f10_times_2 ?_
  refine mV_istore (L' := [.ref 119, .int x0, .int x1, .int 0, .int 0]) f10_times_3 (by decide) rfl rfl ?_
  obtain ⟨z0, hz0, hr⟩ := mBind hr
  refine t10_times_5 X Q s I x0 x1 FU 0 0 _ hz0 ?_
  refine mV_iload f10_times_24 rfl ?_
  have hr := Option.some.inj hr; subst hr
  exact mV_iret rfl rfl f10_times_25 hQ
theorem c10_times (X : Nat × (Nat → Int32)) (I : mI) (s : Nat) (x0 : Int32) (x1 : Int32) {res : Int32} (hr : r10_times x0 x1 = some res) : mC X m10_times 1 0 0 [.ref 119, .int x0, .int x1] NN KK I (PP s) (mRet (some (.int res)) NN KK I (PP s)) :=
  mC_of (L0 := [.ref 119, .int x0, .int x1, mX0, mX0]) rfl (Nat.le_of_ble_eq_true rfl) (w10_times X I s x0 x1 _ hr (mRet_ok _ _ _ _ _))
def l10_allBeat_15 (I : mI) (k2 : Int32) : Nat → Int32 → Int32 → Option (Int32)
  | 0, _, _ => none
  | f + 1, y3, y4 => if (k2 : Int32) ≤ (y4 : Int32) then some y3 else (mRemO k2 y4).bind fun z0 => (if (z0 : Int32) = (0 : Int32) then some 0 else some y3 : Option (Int32)).bind fun z1 => l10_allBeat_15 I k2 f z1 (y4 + 1)
def l10_allBeat_56 (I : mI) (k2 : Int32) (k5 : Int32) : Nat → Int32 → Option (Int32)
  | 0, _ => none
  | f + 1, y4 => (mLd I 149 8 k5).bind fun z0 => (mRemO (z0 + 1) (y4 * k2)).bind fun z1 => if (z1 : Int32) = (0 : Int32) then l10_allBeat_56 I k2 k5 f (y4 * k2) else some y4
def l10_allBeat_49 (I : mI) (k2 : Int32) : Nat → Int32 → Int32 → Option (Int32)
  | 0, _, _ => none
  | f + 1, y4, y5 => if (8 : Int32) ≤ (y5 : Int32) then some y4 else (l10_allBeat_56 I k2 y5 FU y4).bind fun z0 => l10_allBeat_49 I k2 f z0 (y5 + 1)
def l10_allBeat_4 (I : mI) : Nat → Int32 → Int32 → Option (Int32)
  | 0, _, _ => none
  | f + 1, y1, y2 => if (100 : Int32) ≤ (y2 : Int32) then some y1 else (l10_allBeat_15 I y2 FU 1 2).bind fun z0 => (if (z0 : Int32) = (0 : Int32) then some y1 else (l10_allBeat_49 I y2 FU 1 0).bind fun z2 => (r10_times y1 z2).bind fun z3 => some z3 : Option (Int32)).bind fun z1 => l10_allBeat_4 I f z1 (y2 + 1)
def r10_allBeat (I : mI) : Option (Int32) := (l10_allBeat_4 I FU 1 2).bind fun z0 => some z0
set_option maxHeartbeats 4000000 in
set_option maxRecDepth 100000 in
theorem t10_allBeat_15 (X : Nat × (Nat → Int32)) (Q : mQ) (s : Nat) (I : mI) (k1 : Int32) (k2 : Int32) : ∀ (f : Nat) (y3 : Int32) (y4 : Int32) (z : Int32), l10_allBeat_15 I k2 f y3 y4 = some z → mV X m10_allBeat 2 0 0 36 [.ref 119, .int k1, .int k2, .int z, mX0, mX0] [] NN KK I (PP s) Q → mV X m10_allBeat 2 0 0 15 [.ref 119, .int k1, .int k2, .int y3, .int y4, mX0] [] NN KK I (PP s) Q := by
  intro f
  induction f with
  | zero => intro y3 y4 z hr hk; cases hr
  | succ f ih =>
    intro y3 y4 z hr hk
    unfold l10_allBeat_15 at hr
    refine mV_iload f10_allBeat_15 rfl ?_
    refine mV_iload f10_allBeat_17 rfl ?_
    refine mV_icmp_ge f10_allBeat_18 (fun h0 => ?_) (fun h0 => ?_)
    · rw [if_pos h0] at hr
      have hr := Option.some.inj hr; subst hr
      refine mV_drop (L' := [.ref 119, .int k1, .int k2, .int y3, mX0, mX0]) (mSub_k (mSub_k (mSub_k (mSub_k (mSub_x (mSub_x mSub_n)))))) ?_
      exact hk
    · rw [if_neg h0] at hr
      refine mV_iload f10_allBeat_21 rfl ?_
      refine mV_iload f10_allBeat_22 rfl ?_
      obtain ⟨z0, hz0, hr⟩ := mBind hr
      refine mV_remO f10_allBeat_24 hz0 ?_
      obtain ⟨z1, hz1, hr⟩ := mBind hr
      have keyz1 : mV X m10_allBeat 2 0 0 30 [.ref 119, .int k1, .int k2, .int z1, .int y4, mX0] [] NN KK I (PP s) Q := by
        refine mV_iinc (y := (y4 + 1)) (L' := [.ref 119, .int k1, .int k2, .int z1, .int (y4 + 1), mX0]) f10_allBeat_30 rfl rfl (by decide) rfl rfl ?_
        refine mV_goto f10_allBeat_33 ?_
        exact ih z1 (y4 + 1) _ hr hk
      clear hr
      have hr := hz1
      clear hz1
      refine mV_if_ne f10_allBeat_25 (fun h1 => ?_) (fun h1 => ?_)
      · rw [if_neg h1] at hr
        have hr := Option.some.inj hr; subst hr
        exact keyz1
      · rw [if_pos h1] at hr
        refine mV_push f10_allBeat_28 ?_
        refine mV_istore (L' := [.ref 119, .int k1, .int k2, .int 0, .int y4, mX0]) f10_allBeat_29 (by decide) rfl rfl ?_
        have hr := Option.some.inj hr; subst hr
        exact keyz1
set_option maxHeartbeats 4000000 in
set_option maxRecDepth 100000 in
theorem t10_allBeat_56 (X : Nat × (Nat → Int32)) (Q : mQ) (s : Nat) (I : mI) (k1 : Int32) (k2 : Int32) (k5 : Int32) : ∀ (f : Nat) (y4 : Int32) (z : Int32), l10_allBeat_56 I k2 k5 f y4 = some z → mV X m10_allBeat 2 0 0 82 [.ref 119, .int k1, .int k2, mX0, .int z, .int k5] [] NN KK I (PP s) Q → mV X m10_allBeat 2 0 0 56 [.ref 119, .int k1, .int k2, mX0, .int y4, .int k5] [] NN KK I (PP s) Q := by
  intro f
  induction f with
  | zero => intro y4 z hr hk; cases hr
  | succ f ih =>
    intro y4 z hr hk
    unfold l10_allBeat_56 at hr
    refine mV_aload f10_allBeat_56 rfl ?_
    refine mV_getP f10_allBeat_57 (by decide) kk_119 rfl (pp_119_52 _) ?_
    refine mV_iload f10_allBeat_60 rfl ?_
    obtain ⟨z0, hz0, hr⟩ := mBind hr
    refine mV_ldO f10_allBeat_62 (by decide) kk_149 hz0 ?_
    refine mV_push f10_allBeat_63 ?_
    refine mV_iadd f10_allBeat_64 ?_
    refine mV_iload f10_allBeat_65 rfl ?_
    refine mV_iload f10_allBeat_67 rfl ?_
    refine mV_imul f10_allBeat_68 ?_
    obtain ⟨z1, hz1, hr⟩ := mBind hr
    refine mV_remO f10_allBeat_69 hz1 ?_
    refine mV_if_ne f10_allBeat_70 (fun h0 => ?_) (fun h0 => ?_)
    · rw [if_neg h0] at hr
      have hr := Option.some.inj hr; subst hr
      exact hk
    · rw [if_pos h0] at hr
      refine mV_iload f10_allBeat_73 rfl ?_
      refine mV_iload f10_allBeat_75 rfl ?_
      refine mV_imul f10_allBeat_76 ?_
      refine mV_istore (L' := [.ref 119, .int k1, .int k2, mX0, .int (y4 * k2), .int k5]) f10_allBeat_77 (by decide) rfl rfl ?_
      refine mV_goto f10_allBeat_79 ?_
      exact ih (y4 * k2) _ hr hk
set_option maxHeartbeats 4000000 in
set_option maxRecDepth 100000 in
theorem t10_allBeat_49 (X : Nat × (Nat → Int32)) (Q : mQ) (s : Nat) (I : mI) (k1 : Int32) (k2 : Int32) : ∀ (f : Nat) (y4 : Int32) (y5 : Int32) (z : Int32), l10_allBeat_49 I k2 f y4 y5 = some z → mV X m10_allBeat 2 0 0 88 [.ref 119, .int k1, .int k2, mX0, .int z, mX0] [] NN KK I (PP s) Q → mV X m10_allBeat 2 0 0 49 [.ref 119, .int k1, .int k2, mX0, .int y4, .int y5] [] NN KK I (PP s) Q := by
  intro f
  induction f with
  | zero => intro y4 y5 z hr hk; cases hr
  | succ f ih =>
    intro y4 y5 z hr hk
    unfold l10_allBeat_49 at hr
    refine mV_iload f10_allBeat_49 rfl ?_
    refine mV_push f10_allBeat_51 ?_
    refine mV_icmp_ge f10_allBeat_53 (fun h0 => ?_) (fun h0 => ?_)
    · rw [if_pos h0] at hr
      have hr := Option.some.inj hr; subst hr
      refine mV_drop (L' := [.ref 119, .int k1, .int k2, mX0, .int y4, mX0]) (mSub_k (mSub_k (mSub_k (mSub_x (mSub_k (mSub_x mSub_n)))))) ?_
      exact hk
    · rw [if_neg h0] at hr
      obtain ⟨z0, hz0, hr⟩ := mBind hr
      refine t10_allBeat_56 X Q s I k1 k2 y5 FU y4 _ hz0 ?_
      refine mV_iinc (y := (y5 + 1)) (L' := [.ref 119, .int k1, .int k2, mX0, .int z0, .int (y5 + 1)]) f10_allBeat_82 rfl rfl (by decide) rfl rfl ?_
      refine mV_goto f10_allBeat_85 ?_
      exact ih z0 (y5 + 1) _ hr hk
set_option maxHeartbeats 4000000 in
set_option maxRecDepth 100000 in
theorem t10_allBeat_4 (X : Nat × (Nat → Int32)) (Q : mQ) (s : Nat) (I : mI) : ∀ (f : Nat) (y1 : Int32) (y2 : Int32) (z : Int32), l10_allBeat_4 I f y1 y2 = some z → mV X m10_allBeat 2 0 0 102 [.ref 119, .int z, mX0, mX0, mX0, mX0] [] NN KK I (PP s) Q → mV X m10_allBeat 2 0 0 4 [.ref 119, .int y1, .int y2, mX0, mX0, mX0] [] NN KK I (PP s) Q := by
  intro f
  induction f with
  | zero => intro y1 y2 z hr hk; cases hr
  | succ f ih =>
    intro y1 y2 z hr hk
    unfold l10_allBeat_4 at hr
    refine mV_iload f10_allBeat_4 rfl ?_
    refine mV_push f10_allBeat_5 ?_
    refine mV_icmp_ge f10_allBeat_7 (fun h0 => ?_) (fun h0 => ?_)
    · rw [if_pos h0] at hr
      have hr := Option.some.inj hr; subst hr
      refine mV_drop (L' := [.ref 119, .int y1, mX0, mX0, mX0, mX0]) (mSub_k (mSub_k (mSub_x (mSub_x (mSub_x (mSub_x mSub_n)))))) ?_
      exact hk
    · rw [if_neg h0] at hr
      refine mV_push f10_allBeat_10 ?_
      refine mV_istore (L' := [.ref 119, .int y1, .int y2, .int 1, mX0, mX0]) f10_allBeat_11 (by decide) rfl rfl ?_
      refine mV_push f10_allBeat_12 ?_
      refine mV_istore (L' := [.ref 119, .int y1, .int y2, .int 1, .int 2, mX0]) f10_allBeat_13 (by decide) rfl rfl ?_
      obtain ⟨z0, hz0, hr⟩ := mBind hr
      refine t10_allBeat_15 X Q s I y1 y2 FU 1 2 _ hz0 ?_
      refine mV_iload f10_allBeat_36 rfl ?_
      obtain ⟨z1, hz1, hr⟩ := mBind hr
      have keyz1 : mV X m10_allBeat 2 0 0 96 [.ref 119, .int z1, .int y2, mX0, mX0, mX0] [] NN KK I (PP s) Q := by
        refine mV_iinc (y := (y2 + 1)) (L' := [.ref 119, .int z1, .int (y2 + 1), mX0, mX0, mX0]) f10_allBeat_96 rfl rfl (by decide) rfl rfl ?_
        refine mV_goto f10_allBeat_99 ?_
        exact ih z1 (y2 + 1) _ hr hk
      clear hr
      have hr := hz1
      clear hz1
      refine mV_if_ne f10_allBeat_37 (fun h1 => ?_) (fun h1 => ?_)
      · rw [if_neg h1] at hr
        refine mV_push f10_allBeat_43 ?_
        refine mV_istore (L' := [.ref 119, .int y1, .int y2, .int z0, .int 1, mX0]) f10_allBeat_44 (by decide) rfl rfl ?_
        refine mV_push f10_allBeat_46 ?_
        refine mV_istore (L' := [.ref 119, .int y1, .int y2, .int z0, .int 1, .int 0]) f10_allBeat_47 (by decide) rfl rfl ?_
        obtain ⟨z2, hz2, hr⟩ := mBind hr
        refine mV_drop (L' := [.ref 119, .int y1, .int y2, mX0, .int 1, .int 0]) (mSub_k (mSub_k (mSub_k (mSub_x (mSub_k (mSub_k mSub_n)))))) ?_
        refine t10_allBeat_49 X Q s I y1 y2 FU 1 0 _ hz2 ?_
        refine mV_aload f10_allBeat_88 rfl ?_
        refine mV_iload f10_allBeat_89 rfl ?_
        refine mV_iload f10_allBeat_90 rfl ?_
        obtain ⟨z3, hz3, hr⟩ := mBind hr
        refine mV_cV f10_allBeat_92 tg_m10_times mCls10 (by decide) kk_119 (mC_deep (c10_times X I s y1 z2 hz3) (by decide)) rfl rfl (Nat.le_of_ble_eq_true rfl) ?_
        refine mV_istore (L' := [.ref 119, .int z3, .int y2, mX0, .int z2, mX0]) f10_allBeat_95 (by decide) rfl rfl ?_
        have hr := Option.some.inj hr; subst hr
        refine mV_drop (L' := [.ref 119, .int z3, .int y2, mX0, mX0, mX0]) (mSub_k (mSub_k (mSub_k (mSub_x (mSub_x (mSub_x mSub_n)))))) ?_
        exact keyz1
      · rw [if_pos h1] at hr
        refine mV_goto f10_allBeat_40 ?_
        have hr := Option.some.inj hr; subst hr
        refine mV_drop (L' := [.ref 119, .int y1, .int y2, mX0, mX0, mX0]) (mSub_k (mSub_k (mSub_k (mSub_x (mSub_x (mSub_x mSub_n)))))) ?_
        exact keyz1
set_option maxHeartbeats 4000000 in
set_option maxRecDepth 100000 in
theorem w10_allBeat (X : Nat × (Nat → Int32)) (I : mI) (s : Nat) (Q : mQ) {res : Int32} (hr : r10_allBeat I = some res) (hQ : Q (some (.int res)) NN KK I (PP s)) : mV X m10_allBeat 2 0 0 0 [.ref 119, mX0, mX0, mX0, mX0, mX0] [] NN KK I (PP s) Q := by
  unfold r10_allBeat at hr
  refine mV_push f10_allBeat_0 ?_
  refine mV_istore (L' := [.ref 119, .int 1, mX0, mX0, mX0, mX0]) f10_allBeat_1 (by decide) rfl rfl ?_
  refine mV_push f10_allBeat_2 ?_
  refine mV_istore (L' := [.ref 119, .int 1, .int 2, mX0, mX0, mX0]) f10_allBeat_3 (by decide) rfl rfl ?_
  obtain ⟨z0, hz0, hr⟩ := mBind hr
  refine t10_allBeat_4 X Q s I FU 1 2 _ hz0 ?_
  refine mV_iload f10_allBeat_102 rfl ?_
  have hr := Option.some.inj hr; subst hr
  exact mV_iret rfl rfl f10_allBeat_103 hQ
theorem c10_allBeat (X : Nat × (Nat → Int32)) (I : mI) (s : Nat) {res : Int32} (hr : r10_allBeat I = some res) : mC X m10_allBeat 2 0 0 [.ref 119] NN KK I (PP s) (mRet (some (.int res)) NN KK I (PP s)) :=
  mC_of (L0 := [.ref 119, mX0, mX0, mX0, mX0, mX0]) rfl (Nat.le_of_ble_eq_true rfl) (w10_allBeat X I s _ hr (mRet_ok _ _ _ _ _))
def r10_beats (I : mI) (x0 : Int32) (x1 : Int32) : Option (Int32 × mI) := if (x0 : Int32) = ((-1) : Int32) then (r10_allBeat (mW I 119 0 0)).bind fun z4 => some (z4, (mW I 119 0 0)) else if ((r10_isString x0) : Int32) = (0 : Int32) then some ((-1), (mW I 119 0 0)) else if ((r10_isString x1) : Int32) = (0 : Int32) then some ((-1), (mW I 119 0 0)) else (mLd (mW I 119 0 0) 149 8 x0).bind fun z0 => (mLd (mW I 119 0 0) 149 8 x1).bind fun z1 => (r10_common (z0 + 1) (z1 + 1)).bind fun z2 => (mDivO (z0 + 1) z2).bind fun z3 => some ((z3 * (z1 + 1)), (mW I 119 0 0))
set_option maxHeartbeats 4000000 in
set_option maxRecDepth 100000 in
theorem w10_beats (X : Nat × (Nat → Int32)) (I : mI) (s : Nat) (x0 : Int32) (x1 : Int32) (Q : mQ) {res : Int32 × mI} (hr : r10_beats I x0 x1 = some res) (hQ : Q (some (.int res.1)) NN KK res.2 (PP s)) : mV X m10_beats 3 0 0 0 [.ref 119, .int x0, .int x1, mX0, mX0] [] NN KK I (PP s) Q := by
  unfold r10_beats at hr
  refine mV_aload f10_beats_0 rfl ?_
  refine mV_push f10_beats_1 ?_
  refine mV_putI f10_beats_2 (by decide) kk_119 rfl rfl ?_
  refine mV_iload f10_beats_5 rfl ?_
  refine mV_push f10_beats_6 ?_
  refine mV_icmp_ne f10_beats_7 (fun h0 => ?_) (fun h0 => ?_)
  · rw [if_neg h0] at hr
    refine mV_aload f10_beats_15 rfl ?_
    refine mV_iload f10_beats_16 rfl ?_
    refine mV_cV f10_beats_17 tg_m10_isString mCls10 (by decide) kk_119 (mC_deep (c10_isString X (mW I 119 0 0) s x0 rfl) (by decide)) rfl rfl (Nat.le_of_ble_eq_true rfl) ?_
    refine mV_if_eq f10_beats_20 (fun h1 => ?_) (fun h1 => ?_)
    · rw [if_pos h1] at hr
      refine mV_push f10_beats_31 ?_
      have hr := Option.some.inj hr; subst hr
      exact mV_iret rfl rfl f10_beats_32 hQ
    · rw [if_neg h1] at hr
      refine mV_aload f10_beats_23 rfl ?_
      refine mV_iload f10_beats_24 rfl ?_
      refine mV_cV f10_beats_25 tg_m10_isString mCls10 (by decide) kk_119 (mC_deep (c10_isString X (mW I 119 0 0) s x1 rfl) (by decide)) rfl rfl (Nat.le_of_ble_eq_true rfl) ?_
      refine mV_if_ne f10_beats_28 (fun h2 => ?_) (fun h2 => ?_)
      · rw [if_neg h2] at hr
        refine mV_aload f10_beats_33 rfl ?_
        refine mV_getP f10_beats_34 (by decide) kk_119 rfl (pp_119_52 _) ?_
        refine mV_iload f10_beats_37 rfl ?_
        obtain ⟨z0, hz0, hr⟩ := mBind hr
        refine mV_ldO f10_beats_38 (by decide) kk_149 hz0 ?_
        refine mV_push f10_beats_39 ?_
        refine mV_iadd f10_beats_40 ?_
        refine mV_istore (L' := [.ref 119, .int x0, .int x1, .int (z0 + 1), mX0]) f10_beats_41 (by decide) rfl rfl ?_
        refine mV_aload f10_beats_42 rfl ?_
        refine mV_getP f10_beats_43 (by decide) kk_119 rfl (pp_119_52 _) ?_
        refine mV_iload f10_beats_46 rfl ?_
        obtain ⟨z1, hz1, hr⟩ := mBind hr
        refine mV_ldO f10_beats_47 (by decide) kk_149 hz1 ?_
        refine mV_push f10_beats_48 ?_
        refine mV_iadd f10_beats_49 ?_
        refine mV_istore (L' := [.ref 119, .int x0, .int x1, .int (z0 + 1), .int (z1 + 1)]) f10_beats_50 (by decide) rfl rfl ?_
        refine mV_iload f10_beats_52 rfl ?_
        refine mV_aload f10_beats_53 rfl ?_
        refine mV_iload f10_beats_54 rfl ?_
        refine mV_iload f10_beats_55 rfl ?_
        obtain ⟨z2, hz2, hr⟩ := mBind hr
        refine mV_cV f10_beats_57 tg_m10_common mCls10 (by decide) kk_119 (mC_deep (c10_common X (mW I 119 0 0) s (z0 + 1) (z1 + 1) hz2) (by decide)) rfl rfl (Nat.le_of_ble_eq_true rfl) ?_
        obtain ⟨z3, hz3, hr⟩ := mBind hr
        refine mV_divO f10_beats_60 hz3 ?_
        refine mV_iload f10_beats_61 rfl ?_
        refine mV_imul f10_beats_63 ?_
        have hr := Option.some.inj hr; subst hr
        exact mV_iret rfl rfl f10_beats_64 hQ
      · rw [if_pos h2] at hr
        refine mV_push f10_beats_31 ?_
        have hr := Option.some.inj hr; subst hr
        exact mV_iret rfl rfl f10_beats_32 hQ
  · rw [if_pos h0] at hr
    refine mV_aload f10_beats_10 rfl ?_
    obtain ⟨z4, hz4, hr⟩ := mBind hr
    refine mV_cV f10_beats_11 tg_m10_allBeat mCls10 (by decide) kk_119 (mC_deep (c10_allBeat X (mW I 119 0 0) s hz4) (by decide)) rfl rfl (Nat.le_of_ble_eq_true rfl) ?_
    have hr := Option.some.inj hr; subst hr
    exact mV_iret rfl rfl f10_beats_14 hQ
theorem c10_beats (X : Nat × (Nat → Int32)) (I : mI) (s : Nat) (x0 : Int32) (x1 : Int32) {res : Int32 × mI} (hr : r10_beats I x0 x1 = some res) : mC X m10_beats 3 0 0 [.ref 119, .int x0, .int x1] NN KK I (PP s) (mRet (some (.int res.1)) NN KK res.2 (PP s)) :=
  mC_of (L0 := [.ref 119, .int x0, .int x1, mX0, mX0]) rfl (Nat.le_of_ble_eq_true rfl) (w10_beats X I s x0 x1 _ hr (mRet_ok _ _ _ _ _))
def r10_pedal (I : mI) (x0 : Int32) (x1 : Int32) (x2 : Int32) : Option (Int32 × mI) := if (x0 : Int32) = ((-1) : Int32) then some (0, (mW (mW I 119 0 0) 119 53 0)) else if ((r10_isIn x0 0 59) : Int32) = (0 : Int32) then some ((-1), (mW I 119 0 0)) else if ((r10_isIn x1 1 30) : Int32) = (0 : Int32) then some ((-1), (mW I 119 0 0)) else if ((r10_isIn x2 0 60) : Int32) = (0 : Int32) then some ((-1), (mW I 119 0 0)) else if (I 119 53 : Int32) = (9 : Int32) then some ((-1), (mW I 119 0 0)) else (mSto (mW I 119 0 0) 150 9 (I 119 53) x0).bind fun z0 => (mSto z0 151 9 (z0 119 53) x1).bind fun z1 => (mSto z1 152 9 (z1 119 53) x2).bind fun z2 => some ((z2 119 53 + 1), (mW z2 119 53 (z2 119 53 + 1)))
set_option maxHeartbeats 4000000 in
set_option maxRecDepth 100000 in
theorem w10_pedal (X : Nat × (Nat → Int32)) (I : mI) (s : Nat) (x0 : Int32) (x1 : Int32) (x2 : Int32) (Q : mQ) {res : Int32 × mI} (hr : r10_pedal I x0 x1 x2 = some res) (hQ : Q (some (.int res.1)) NN KK res.2 (PP s)) : mV X m10_pedal 1 0 0 0 [.ref 119, .int x0, .int x1, .int x2] [] NN KK I (PP s) Q := by
  unfold r10_pedal at hr
  refine mV_aload f10_pedal_0 rfl ?_
  refine mV_push f10_pedal_1 ?_
  refine mV_putI f10_pedal_2 (by decide) kk_119 rfl rfl ?_
  refine mV_iload f10_pedal_5 rfl ?_
  refine mV_push f10_pedal_6 ?_
  refine mV_icmp_ne f10_pedal_7 (fun h0 => ?_) (fun h0 => ?_)
  · rw [if_neg h0] at hr
    refine mV_aload f10_pedal_17 rfl ?_
    refine mV_iload f10_pedal_18 rfl ?_
    refine mV_push f10_pedal_19 ?_
    refine mV_push f10_pedal_20 ?_
    refine mV_cV f10_pedal_22 tg_m10_isIn mCls10 (by decide) kk_119 (mC_deep (c10_isIn X (mW I 119 0 0) s x0 0 59 rfl) (by decide)) rfl rfl (Nat.le_of_ble_eq_true rfl) ?_
    refine mV_if_eq f10_pedal_25 (fun h1 => ?_) (fun h1 => ?_)
    · rw [if_pos h1] at hr
      refine mV_push f10_pedal_59 ?_
      have hr := Option.some.inj hr; subst hr
      exact mV_iret rfl rfl f10_pedal_60 hQ
    · rw [if_neg h1] at hr
      refine mV_aload f10_pedal_28 rfl ?_
      refine mV_iload f10_pedal_29 rfl ?_
      refine mV_push f10_pedal_30 ?_
      refine mV_push f10_pedal_31 ?_
      refine mV_cV f10_pedal_33 tg_m10_isIn mCls10 (by decide) kk_119 (mC_deep (c10_isIn X (mW I 119 0 0) s x1 1 30 rfl) (by decide)) rfl rfl (Nat.le_of_ble_eq_true rfl) ?_
      refine mV_if_eq f10_pedal_36 (fun h2 => ?_) (fun h2 => ?_)
      · rw [if_pos h2] at hr
        refine mV_push f10_pedal_59 ?_
        have hr := Option.some.inj hr; subst hr
        exact mV_iret rfl rfl f10_pedal_60 hQ
      · rw [if_neg h2] at hr
        refine mV_aload f10_pedal_39 rfl ?_
        refine mV_iload f10_pedal_40 rfl ?_
        refine mV_push f10_pedal_41 ?_
        refine mV_push f10_pedal_42 ?_
        refine mV_cV f10_pedal_44 tg_m10_isIn mCls10 (by decide) kk_119 (mC_deep (c10_isIn X (mW I 119 0 0) s x2 0 60 rfl) (by decide)) rfl rfl (Nat.le_of_ble_eq_true rfl) ?_
        refine mV_if_eq f10_pedal_47 (fun h3 => ?_) (fun h3 => ?_)
        · rw [if_pos h3] at hr
          refine mV_push f10_pedal_59 ?_
          have hr := Option.some.inj hr; subst hr
          exact mV_iret rfl rfl f10_pedal_60 hQ
        · rw [if_neg h3] at hr
          refine mV_aload f10_pedal_50 rfl ?_
          refine mV_gI (I 119 53) f10_pedal_51 (by decide) kk_119 rfl rfl ?_
          refine mV_push f10_pedal_54 ?_
          refine mV_icmp_ne f10_pedal_56 (fun h4 => ?_) (fun h4 => ?_)
          · rw [if_neg h4] at hr
            refine mV_aload f10_pedal_61 rfl ?_
            refine mV_getP f10_pedal_62 (by decide) kk_119 rfl (pp_119_54 _) ?_
            refine mV_aload f10_pedal_65 rfl ?_
            refine mV_gI (I 119 53) f10_pedal_66 (by decide) kk_119 rfl rfl ?_
            refine mV_iload f10_pedal_69 rfl ?_
            obtain ⟨z0, hz0, hr⟩ := mBind hr
            refine mV_stO f10_pedal_70 (by decide) kk_150 hz0 ?_
            refine mV_aload f10_pedal_71 rfl ?_
            refine mV_getP f10_pedal_72 (by decide) kk_119 rfl (pp_119_55 _) ?_
            refine mV_aload f10_pedal_75 rfl ?_
            refine mV_gI (z0 119 53) f10_pedal_76 (by decide) kk_119 rfl rfl ?_
            refine mV_iload f10_pedal_79 rfl ?_
            obtain ⟨z1, hz1, hr⟩ := mBind hr
            refine mV_stO f10_pedal_80 (by decide) kk_151 hz1 ?_
            refine mV_aload f10_pedal_81 rfl ?_
            refine mV_getP f10_pedal_82 (by decide) kk_119 rfl (pp_119_56 _) ?_
            refine mV_aload f10_pedal_85 rfl ?_
            refine mV_gI (z1 119 53) f10_pedal_86 (by decide) kk_119 rfl rfl ?_
            refine mV_iload f10_pedal_89 rfl ?_
            obtain ⟨z2, hz2, hr⟩ := mBind hr
            refine mV_stO f10_pedal_90 (by decide) kk_152 hz2 ?_
            refine mV_aload f10_pedal_91 rfl ?_
            refine mV_aload f10_pedal_92 rfl ?_
            refine mV_gI (z2 119 53) f10_pedal_93 (by decide) kk_119 rfl rfl ?_
            refine mV_push f10_pedal_96 ?_
            refine mV_iadd f10_pedal_97 ?_
            refine mV_putI f10_pedal_98 (by decide) kk_119 rfl rfl ?_
            refine mV_aload f10_pedal_101 rfl ?_
            refine mV_gI (z2 119 53 + 1) f10_pedal_102 (by decide) kk_119 rfl rfl ?_
            have hr := Option.some.inj hr; subst hr
            exact mV_iret rfl rfl f10_pedal_105 hQ
          · rw [if_pos h4] at hr
            refine mV_push f10_pedal_59 ?_
            have hr := Option.some.inj hr; subst hr
            exact mV_iret rfl rfl f10_pedal_60 hQ
  · rw [if_pos h0] at hr
    refine mV_aload f10_pedal_10 rfl ?_
    refine mV_push f10_pedal_11 ?_
    refine mV_putI f10_pedal_12 (by decide) kk_119 rfl rfl ?_
    refine mV_push f10_pedal_15 ?_
    have hr := Option.some.inj hr; subst hr
    exact mV_iret rfl rfl f10_pedal_16 hQ
theorem c10_pedal (X : Nat × (Nat → Int32)) (I : mI) (s : Nat) (x0 : Int32) (x1 : Int32) (x2 : Int32) {res : Int32 × mI} (hr : r10_pedal I x0 x1 x2 = some res) : mC X m10_pedal 1 0 0 [.ref 119, .int x0, .int x1, .int x2] NN KK I (PP s) (mRet (some (.int res.1)) NN KK res.2 (PP s)) :=
  mC_of (L0 := [.ref 119, .int x0, .int x1, .int x2]) rfl (Nat.le_of_ble_eq_true rfl) (w10_pedal X I s x0 x1 x2 _ hr (mRet_ok _ _ _ _ _))
def l10_soundsAt_4 (I : mI) (k1 : Int32) : Nat → Int32 → Int32 → Option (Int32)
  | 0, _, _ => none
  | f + 1, y2, y3 => if (I 119 53 : Int32) ≤ (y3 : Int32) then some y2 else (mLd I 150 9 y3).bind fun z0 => (mLd I 150 9 y3).bind fun z1 => (mLd I 151 9 y3).bind fun z2 => (if ((r10_isIn k1 z0 ((z1 + z2) - 1)) : Int32) = (0 : Int32) then some y2 else some (y2 + 1) : Option (Int32)).bind fun z3 => l10_soundsAt_4 I k1 f z3 (y3 + 1)
def r10_soundsAt (I : mI) (x0 : Int32) : Option (Int32) := (l10_soundsAt_4 I x0 FU 0 0).bind fun z0 => some z0
set_option maxHeartbeats 4000000 in
set_option maxRecDepth 100000 in
theorem t10_soundsAt_4 (X : Nat × (Nat → Int32)) (Q : mQ) (s : Nat) (I : mI) (k1 : Int32) : ∀ (f : Nat) (y2 : Int32) (y3 : Int32) (z : Int32), l10_soundsAt_4 I k1 f y2 y3 = some z → mV X m10_soundsAt 1 0 0 51 [.ref 119, .int k1, .int z, mX0] [] NN KK I (PP s) Q → mV X m10_soundsAt 1 0 0 4 [.ref 119, .int k1, .int y2, .int y3] [] NN KK I (PP s) Q := by
  intro f
  induction f with
  | zero => intro y2 y3 z hr hk; cases hr
  | succ f ih =>
    intro y2 y3 z hr hk
    unfold l10_soundsAt_4 at hr
    refine mV_iload f10_soundsAt_4 rfl ?_
    refine mV_aload f10_soundsAt_5 rfl ?_
    refine mV_gI (I 119 53) f10_soundsAt_6 (by decide) kk_119 rfl rfl ?_
    refine mV_icmp_ge f10_soundsAt_9 (fun h0 => ?_) (fun h0 => ?_)
    · rw [if_pos h0] at hr
      have hr := Option.some.inj hr; subst hr
      refine mV_drop (L' := [.ref 119, .int k1, .int y2, mX0]) (mSub_k (mSub_k (mSub_k (mSub_x mSub_n)))) ?_
      exact hk
    · rw [if_neg h0] at hr
      refine mV_aload f10_soundsAt_12 rfl ?_
      refine mV_iload f10_soundsAt_13 rfl ?_
      refine mV_aload f10_soundsAt_14 rfl ?_
      refine mV_getP f10_soundsAt_15 (by decide) kk_119 rfl (pp_119_54 _) ?_
      refine mV_iload f10_soundsAt_18 rfl ?_
      obtain ⟨z0, hz0, hr⟩ := mBind hr
      refine mV_ldO f10_soundsAt_19 (by decide) kk_150 hz0 ?_
      refine mV_aload f10_soundsAt_20 rfl ?_
      refine mV_getP f10_soundsAt_21 (by decide) kk_119 rfl (pp_119_54 _) ?_
      refine mV_iload f10_soundsAt_24 rfl ?_
      obtain ⟨z1, hz1, hr⟩ := mBind hr
      refine mV_ldO f10_soundsAt_25 (by decide) kk_150 hz1 ?_
      refine mV_aload f10_soundsAt_26 rfl ?_
      refine mV_getP f10_soundsAt_27 (by decide) kk_119 rfl (pp_119_55 _) ?_
      refine mV_iload f10_soundsAt_30 rfl ?_
      obtain ⟨z2, hz2, hr⟩ := mBind hr
      refine mV_ldO f10_soundsAt_31 (by decide) kk_151 hz2 ?_
      refine mV_iadd f10_soundsAt_32 ?_
      refine mV_push f10_soundsAt_33 ?_
      refine mV_isub f10_soundsAt_34 ?_
      refine mV_cV f10_soundsAt_35 tg_m10_isIn mCls10 (by decide) kk_119 (mC_deep (c10_isIn X I s k1 z0 ((z1 + z2) - 1) rfl) (by decide)) rfl rfl (Nat.le_of_ble_eq_true rfl) ?_
      obtain ⟨z3, hz3, hr⟩ := mBind hr
      have keyz3 : mV X m10_soundsAt 1 0 0 45 [.ref 119, .int k1, .int z3, .int y3] [] NN KK I (PP s) Q := by
        refine mV_iinc (y := (y3 + 1)) (L' := [.ref 119, .int k1, .int z3, .int (y3 + 1)]) f10_soundsAt_45 rfl rfl (by decide) rfl rfl ?_
        refine mV_goto f10_soundsAt_48 ?_
        exact ih z3 (y3 + 1) _ hr hk
      clear hr
      have hr := hz3
      clear hz3
      refine mV_if_eq f10_soundsAt_38 (fun h1 => ?_) (fun h1 => ?_)
      · rw [if_pos h1] at hr
        have hr := Option.some.inj hr; subst hr
        exact keyz3
      · rw [if_neg h1] at hr
        refine mV_iload f10_soundsAt_41 rfl ?_
        refine mV_push f10_soundsAt_42 ?_
        refine mV_iadd f10_soundsAt_43 ?_
        refine mV_istore (L' := [.ref 119, .int k1, .int (y2 + 1), .int y3]) f10_soundsAt_44 (by decide) rfl rfl ?_
        have hr := Option.some.inj hr; subst hr
        exact keyz3
set_option maxHeartbeats 4000000 in
set_option maxRecDepth 100000 in
theorem w10_soundsAt (X : Nat × (Nat → Int32)) (I : mI) (s : Nat) (x0 : Int32) (Q : mQ) {res : Int32} (hr : r10_soundsAt I x0 = some res) (hQ : Q (some (.int res)) NN KK I (PP s)) : mV X m10_soundsAt 1 0 0 0 [.ref 119, .int x0, mX0, mX0] [] NN KK I (PP s) Q := by
  unfold r10_soundsAt at hr
  refine mV_push f10_soundsAt_0 ?_
  refine mV_istore (L' := [.ref 119, .int x0, .int 0, mX0]) f10_soundsAt_1 (by decide) rfl rfl ?_
  refine mV_push f10_soundsAt_2 ?_
  refine mV_istore (L' := [.ref 119, .int x0, .int 0, .int 0]) f10_soundsAt_3 (by decide) rfl rfl ?_
  obtain ⟨z0, hz0, hr⟩ := mBind hr
  refine t10_soundsAt_4 X Q s I x0 FU 0 0 _ hz0 ?_
  refine mV_iload f10_soundsAt_51 rfl ?_
  have hr := Option.some.inj hr; subst hr
  exact mV_iret rfl rfl f10_soundsAt_52 hQ
theorem c10_soundsAt (X : Nat × (Nat → Int32)) (I : mI) (s : Nat) (x0 : Int32) {res : Int32} (hr : r10_soundsAt I x0 = some res) : mC X m10_soundsAt 1 0 0 [.ref 119, .int x0] NN KK I (PP s) (mRet (some (.int res)) NN KK I (PP s)) :=
  mC_of (L0 := [.ref 119, .int x0, mX0, mX0]) rfl (Nat.le_of_ble_eq_true rfl) (w10_soundsAt X I s x0 _ hr (mRet_ok _ _ _ _ _))
def r10_doClash (I : mI) (x0 : Int32) (x1 : Int32) : Option (Int32) := (mLd I 150 9 x0).bind fun z0 => (mLd I 150 9 x1).bind fun z1 => (mLd I 151 9 x1).bind fun z2 => if ((z1 + z2) : Int32) ≤ (z0 : Int32) then some 0 else (mLd I 150 9 x1).bind fun z3 => (mLd I 150 9 x0).bind fun z4 => (mLd I 151 9 x0).bind fun z5 => if (z3 : Int32) < ((z4 + z5) : Int32) then (mLd I 152 9 x0).bind fun z6 => (mLd I 152 9 x1).bind fun z7 => (if ((r10_isIn (mRm (r10_apart z6 z7) 12) 1 2) : Int32) = (0 : Int32) then if ((r10_isIn (mRm (r10_apart z6 z7) 12) 10 11) : Int32) = (0 : Int32) then some 0 else some 1 else some 1 : Option (Int32)).bind fun z8 => some (z8 &&& 1) else some 0
set_option maxHeartbeats 4000000 in
set_option maxRecDepth 100000 in
theorem w10_doClash (X : Nat × (Nat → Int32)) (I : mI) (s : Nat) (x0 : Int32) (x1 : Int32) (Q : mQ) {res : Int32} (hr : r10_doClash I x0 x1 = some res) (hQ : Q (some (.int res)) NN KK I (PP s)) : mV X m10_doClash 1 0 0 0 [.ref 119, .int x0, .int x1, mX0] [] NN KK I (PP s) Q := by
  unfold r10_doClash at hr
  refine mV_aload f10_doClash_0 rfl ?_
  refine mV_getP f10_doClash_1 (by decide) kk_119 rfl (pp_119_54 _) ?_
  refine mV_iload f10_doClash_4 rfl ?_
  obtain ⟨z0, hz0, hr⟩ := mBind hr
  refine mV_ldO f10_doClash_5 (by decide) kk_150 hz0 ?_
  refine mV_aload f10_doClash_6 rfl ?_
  refine mV_getP f10_doClash_7 (by decide) kk_119 rfl (pp_119_54 _) ?_
  refine mV_iload f10_doClash_10 rfl ?_
  obtain ⟨z1, hz1, hr⟩ := mBind hr
  refine mV_ldO f10_doClash_11 (by decide) kk_150 hz1 ?_
  refine mV_aload f10_doClash_12 rfl ?_
  refine mV_getP f10_doClash_13 (by decide) kk_119 rfl (pp_119_55 _) ?_
  refine mV_iload f10_doClash_16 rfl ?_
  obtain ⟨z2, hz2, hr⟩ := mBind hr
  refine mV_ldO f10_doClash_17 (by decide) kk_151 hz2 ?_
  refine mV_iadd f10_doClash_18 ?_
  refine mV_icmp_ge f10_doClash_19 (fun h0 => ?_) (fun h0 => ?_)
  · rw [if_pos h0] at hr
    refine mV_push f10_doClash_44 ?_
    have hr := Option.some.inj hr; subst hr
    exact mV_iret rfl rfl f10_doClash_45 hQ
  · rw [if_neg h0] at hr
    refine mV_aload f10_doClash_22 rfl ?_
    refine mV_getP f10_doClash_23 (by decide) kk_119 rfl (pp_119_54 _) ?_
    refine mV_iload f10_doClash_26 rfl ?_
    obtain ⟨z3, hz3, hr⟩ := mBind hr
    refine mV_ldO f10_doClash_27 (by decide) kk_150 hz3 ?_
    refine mV_aload f10_doClash_28 rfl ?_
    refine mV_getP f10_doClash_29 (by decide) kk_119 rfl (pp_119_54 _) ?_
    refine mV_iload f10_doClash_32 rfl ?_
    obtain ⟨z4, hz4, hr⟩ := mBind hr
    refine mV_ldO f10_doClash_33 (by decide) kk_150 hz4 ?_
    refine mV_aload f10_doClash_34 rfl ?_
    refine mV_getP f10_doClash_35 (by decide) kk_119 rfl (pp_119_55 _) ?_
    refine mV_iload f10_doClash_38 rfl ?_
    obtain ⟨z5, hz5, hr⟩ := mBind hr
    refine mV_ldO f10_doClash_39 (by decide) kk_151 hz5 ?_
    refine mV_iadd f10_doClash_40 ?_
    refine mV_icmp_lt f10_doClash_41 (fun h1 => ?_) (fun h1 => ?_)
    · rw [if_pos h1] at hr
      refine mV_aload f10_doClash_46 rfl ?_
      refine mV_aload f10_doClash_47 rfl ?_
      refine mV_getP f10_doClash_48 (by decide) kk_119 rfl (pp_119_56 _) ?_
      refine mV_iload f10_doClash_51 rfl ?_
      obtain ⟨z6, hz6, hr⟩ := mBind hr
      refine mV_ldO f10_doClash_52 (by decide) kk_152 hz6 ?_
      refine mV_aload f10_doClash_53 rfl ?_
      refine mV_getP f10_doClash_54 (by decide) kk_119 rfl (pp_119_56 _) ?_
      refine mV_iload f10_doClash_57 rfl ?_
      obtain ⟨z7, hz7, hr⟩ := mBind hr
      refine mV_ldO f10_doClash_58 (by decide) kk_152 hz7 ?_
      refine mV_cV f10_doClash_59 tg_m10_apart mCls10 (by decide) kk_119 (mC_deep (c10_apart X I s z6 z7 rfl) (by decide)) rfl rfl (Nat.le_of_ble_eq_true rfl) ?_
      refine mV_push f10_doClash_62 ?_
      refine mV_remC f10_doClash_64 (by decide) ?_
      refine mV_istore (L' := [.ref 119, .int x0, .int x1, .int (mRm (r10_apart z6 z7) 12)]) f10_doClash_65 (by decide) rfl rfl ?_
      refine mV_aload f10_doClash_66 rfl ?_
      refine mV_iload f10_doClash_67 rfl ?_
      refine mV_push f10_doClash_68 ?_
      refine mV_push f10_doClash_69 ?_
      refine mV_cV f10_doClash_70 tg_m10_isIn mCls10 (by decide) kk_119 (mC_deep (c10_isIn X I s (mRm (r10_apart z6 z7) 12) 1 2 rfl) (by decide)) rfl rfl (Nat.le_of_ble_eq_true rfl) ?_
      obtain ⟨z8, hz8, hr⟩ := mBind hr
      have keyz8 : mV X m10_doClash 1 0 0 93 [.ref 119, mX0, mX0, mX0] [.int z8] NN KK I (PP s) Q := by
        have hr := Option.some.inj hr; subst hr
        exact mV_zret rfl f10_doClash_93 hQ
      clear hr
      have hr := hz8
      clear hz8
      refine mV_if_ne f10_doClash_73 (fun h2 => ?_) (fun h2 => ?_)
      · rw [if_neg h2] at hr
        refine mV_push f10_doClash_88 ?_
        refine mV_goto f10_doClash_89 ?_
        have hr := Option.some.inj hr; subst hr
        refine mV_drop (L' := [.ref 119, mX0, mX0, mX0]) (mSub_k (mSub_x (mSub_x (mSub_x mSub_n)))) ?_
        exact keyz8
      · rw [if_pos h2] at hr
        refine mV_aload f10_doClash_76 rfl ?_
        refine mV_iload f10_doClash_77 rfl ?_
        refine mV_push f10_doClash_78 ?_
        refine mV_push f10_doClash_80 ?_
        refine mV_cV f10_doClash_82 tg_m10_isIn mCls10 (by decide) kk_119 (mC_deep (c10_isIn X I s (mRm (r10_apart z6 z7) 12) 10 11 rfl) (by decide)) rfl rfl (Nat.le_of_ble_eq_true rfl) ?_
        refine mV_if_eq f10_doClash_85 (fun h3 => ?_) (fun h3 => ?_)
        · rw [if_pos h3] at hr
          refine mV_push f10_doClash_92 ?_
          have hr := Option.some.inj hr; subst hr
          refine mV_drop (L' := [.ref 119, mX0, mX0, mX0]) (mSub_k (mSub_x (mSub_x (mSub_x mSub_n)))) ?_
          exact keyz8
        · rw [if_neg h3] at hr
          refine mV_push f10_doClash_88 ?_
          refine mV_goto f10_doClash_89 ?_
          have hr := Option.some.inj hr; subst hr
          refine mV_drop (L' := [.ref 119, mX0, mX0, mX0]) (mSub_k (mSub_x (mSub_x (mSub_x mSub_n)))) ?_
          exact keyz8
    · rw [if_neg h1] at hr
      refine mV_push f10_doClash_44 ?_
      have hr := Option.some.inj hr; subst hr
      exact mV_iret rfl rfl f10_doClash_45 hQ
theorem c10_doClash (X : Nat × (Nat → Int32)) (I : mI) (s : Nat) (x0 : Int32) (x1 : Int32) {res : Int32} (hr : r10_doClash I x0 x1 = some res) : mC X m10_doClash 1 0 0 [.ref 119, .int x0, .int x1] NN KK I (PP s) (mRet (some (.int res)) NN KK I (PP s)) :=
  mC_of (L0 := [.ref 119, .int x0, .int x1, mX0]) rfl (Nat.le_of_ble_eq_true rfl) (w10_doClash X I s x0 x1 _ hr (mRet_ok _ _ _ _ _))
def l10_mud_75 (I : mI) : Nat → Int32 → Int32 → Option (Int32)
  | 0, _, _ => none
  | f + 1, y2, y3 => if (89 : Int32) ≤ (y3 : Int32) then some y2 else (r10_soundsAt I y3).bind fun z0 => (r10_soundsAt I y2).bind fun z1 => (if (z0 : Int32) ≤ (z1 : Int32) then some y2 else some y3 : Option (Int32)).bind fun z2 => l10_mud_75 I f z2 (y3 + 1)
def l10_mud_37 (I : mI) (k3 : Int32) : Nat → Int32 → Int32 → Option (Int32)
  | 0, _, _ => none
  | f + 1, y2, y4 => if (k3 : Int32) ≤ (y4 : Int32) then some y2 else (r10_doClash I k3 y4).bind fun z0 => (if (z0 : Int32) = (0 : Int32) then some y2 else some (y2 + 1) : Option (Int32)).bind fun z1 => l10_mud_37 I k3 f z1 (y4 + 1)
def l10_mud_26 (I : mI) : Nat → Int32 → Int32 → Option (Int32)
  | 0, _, _ => none
  | f + 1, y2, y3 => if (I 119 53 : Int32) ≤ (y3 : Int32) then some y2 else (l10_mud_37 I y3 FU y2 0).bind fun z0 => l10_mud_26 I f z0 (y3 + 1)
def r10_mud (I : mI) (x0 : Int32) : Option (Int32 × mI) := if ((r10_isIn x0 0 2) : Int32) = (0 : Int32) then some ((-1), (mW I 119 0 0)) else if (x0 : Int32) = (2 : Int32) then (l10_mud_26 (mW I 119 0 0) FU 0 0).bind fun z3 => some (z3, (mW I 119 0 0)) else (l10_mud_75 (mW I 119 0 0) FU 0 1).bind fun z0 => (if (x0 : Int32) = (0 : Int32) then (r10_soundsAt (mW I 119 0 0) z0).bind fun z2 => some z2 else some z0 : Option (Int32)).bind fun z1 => some (z1, (mW I 119 0 0))
set_option maxHeartbeats 4000000 in
set_option maxRecDepth 100000 in
theorem t10_mud_75 (X : Nat × (Nat → Int32)) (Q : mQ) (s : Nat) (I : mI) (k1 : Int32) : ∀ (f : Nat) (y2 : Int32) (y3 : Int32) (z : Int32), l10_mud_75 I f y2 y3 = some z → mV X m10_mud 2 0 0 102 [.ref 119, .int k1, .int z, mX0, mX0] [] NN KK I (PP s) Q → mV X m10_mud 2 0 0 75 [.ref 119, .int k1, .int y2, .int y3, mX0] [] NN KK I (PP s) Q := by
  intro f
  induction f with
  | zero => intro y2 y3 z hr hk; cases hr
  | succ f ih =>
    intro y2 y3 z hr hk
    unfold l10_mud_75 at hr
    refine mV_iload f10_mud_75 rfl ?_
    refine mV_push f10_mud_76 ?_
    refine mV_icmp_ge f10_mud_78 (fun h0 => ?_) (fun h0 => ?_)
    · rw [if_pos h0] at hr
      have hr := Option.some.inj hr; subst hr
      refine mV_drop (L' := [.ref 119, .int k1, .int y2, mX0, mX0]) (mSub_k (mSub_k (mSub_k (mSub_x (mSub_x mSub_n))))) ?_
      exact hk
    · rw [if_neg h0] at hr
      refine mV_aload f10_mud_81 rfl ?_
      refine mV_iload f10_mud_82 rfl ?_
      obtain ⟨z0, hz0, hr⟩ := mBind hr
      refine mV_cV f10_mud_83 tg_m10_soundsAt mCls10 (by decide) kk_119 (mC_deep (c10_soundsAt X I s y3 hz0) (by decide)) rfl rfl (Nat.le_of_ble_eq_true rfl) ?_
      refine mV_aload f10_mud_86 rfl ?_
      refine mV_iload f10_mud_87 rfl ?_
      obtain ⟨z1, hz1, hr⟩ := mBind hr
      refine mV_cV f10_mud_88 tg_m10_soundsAt mCls10 (by decide) kk_119 (mC_deep (c10_soundsAt X I s y2 hz1) (by decide)) rfl rfl (Nat.le_of_ble_eq_true rfl) ?_
      obtain ⟨z2, hz2, hr⟩ := mBind hr
      have keyz2 : mV X m10_mud 2 0 0 96 [.ref 119, .int k1, .int z2, .int y3, mX0] [] NN KK I (PP s) Q := by
        refine mV_iinc (y := (y3 + 1)) (L' := [.ref 119, .int k1, .int z2, .int (y3 + 1), mX0]) f10_mud_96 rfl rfl (by decide) rfl rfl ?_
        refine mV_goto f10_mud_99 ?_
        exact ih z2 (y3 + 1) _ hr hk
      clear hr
      have hr := hz2
      clear hz2
      refine mV_icmp_le f10_mud_91 (fun h1 => ?_) (fun h1 => ?_)
      · rw [if_pos h1] at hr
        have hr := Option.some.inj hr; subst hr
        exact keyz2
      · rw [if_neg h1] at hr
        refine mV_iload f10_mud_94 rfl ?_
        refine mV_istore (L' := [.ref 119, .int k1, .int y3, .int y3, mX0]) f10_mud_95 (by decide) rfl rfl ?_
        have hr := Option.some.inj hr; subst hr
        exact keyz2
set_option maxHeartbeats 4000000 in
set_option maxRecDepth 100000 in
theorem t10_mud_37 (X : Nat × (Nat → Int32)) (Q : mQ) (s : Nat) (I : mI) (k3 : Int32) : ∀ (f : Nat) (y2 : Int32) (y4 : Int32) (z : Int32), l10_mud_37 I k3 f y2 y4 = some z → mV X m10_mud 2 0 0 63 [.ref 119, mX0, .int z, .int k3, mX0] [] NN KK I (PP s) Q → mV X m10_mud 2 0 0 37 [.ref 119, mX0, .int y2, .int k3, .int y4] [] NN KK I (PP s) Q := by
  intro f
  induction f with
  | zero => intro y2 y4 z hr hk; cases hr
  | succ f ih =>
    intro y2 y4 z hr hk
    unfold l10_mud_37 at hr
    refine mV_iload f10_mud_37 rfl ?_
    refine mV_iload f10_mud_39 rfl ?_
    refine mV_icmp_ge f10_mud_40 (fun h0 => ?_) (fun h0 => ?_)
    · rw [if_pos h0] at hr
      have hr := Option.some.inj hr; subst hr
      refine mV_drop (L' := [.ref 119, mX0, .int y2, .int k3, mX0]) (mSub_k (mSub_x (mSub_k (mSub_k (mSub_x mSub_n))))) ?_
      exact hk
    · rw [if_neg h0] at hr
      refine mV_aload f10_mud_43 rfl ?_
      refine mV_iload f10_mud_44 rfl ?_
      refine mV_iload f10_mud_45 rfl ?_
      obtain ⟨z0, hz0, hr⟩ := mBind hr
      refine mV_cV f10_mud_47 tg_m10_doClash mCls10 (by decide) kk_119 (mC_deep (c10_doClash X I s k3 y4 hz0) (by decide)) rfl rfl (Nat.le_of_ble_eq_true rfl) ?_
      obtain ⟨z1, hz1, hr⟩ := mBind hr
      have keyz1 : mV X m10_mud 2 0 0 57 [.ref 119, mX0, .int z1, .int k3, .int y4] [] NN KK I (PP s) Q := by
        refine mV_iinc (y := (y4 + 1)) (L' := [.ref 119, mX0, .int z1, .int k3, .int (y4 + 1)]) f10_mud_57 rfl rfl (by decide) rfl rfl ?_
        refine mV_goto f10_mud_60 ?_
        exact ih z1 (y4 + 1) _ hr hk
      clear hr
      have hr := hz1
      clear hz1
      refine mV_if_eq f10_mud_50 (fun h1 => ?_) (fun h1 => ?_)
      · rw [if_pos h1] at hr
        have hr := Option.some.inj hr; subst hr
        exact keyz1
      · rw [if_neg h1] at hr
        refine mV_iload f10_mud_53 rfl ?_
        refine mV_push f10_mud_54 ?_
        refine mV_iadd f10_mud_55 ?_
        refine mV_istore (L' := [.ref 119, mX0, .int (y2 + 1), .int k3, .int y4]) f10_mud_56 (by decide) rfl rfl ?_
        have hr := Option.some.inj hr; subst hr
        exact keyz1
set_option maxHeartbeats 4000000 in
set_option maxRecDepth 100000 in
theorem t10_mud_26 (X : Nat × (Nat → Int32)) (Q : mQ) (s : Nat) (I : mI) : ∀ (f : Nat) (y2 : Int32) (y3 : Int32) (z : Int32), l10_mud_26 I f y2 y3 = some z → mV X m10_mud 2 0 0 69 [.ref 119, mX0, .int z, mX0, mX0] [] NN KK I (PP s) Q → mV X m10_mud 2 0 0 26 [.ref 119, mX0, .int y2, .int y3, mX0] [] NN KK I (PP s) Q := by
  intro f
  induction f with
  | zero => intro y2 y3 z hr hk; cases hr
  | succ f ih =>
    intro y2 y3 z hr hk
    unfold l10_mud_26 at hr
    refine mV_iload f10_mud_26 rfl ?_
    refine mV_aload f10_mud_27 rfl ?_
    refine mV_gI (I 119 53) f10_mud_28 (by decide) kk_119 rfl rfl ?_
    refine mV_icmp_ge f10_mud_31 (fun h0 => ?_) (fun h0 => ?_)
    · rw [if_pos h0] at hr
      have hr := Option.some.inj hr; subst hr
      refine mV_drop (L' := [.ref 119, mX0, .int y2, mX0, mX0]) (mSub_k (mSub_x (mSub_k (mSub_x (mSub_x mSub_n))))) ?_
      exact hk
    · rw [if_neg h0] at hr
      refine mV_push f10_mud_34 ?_
      refine mV_istore (L' := [.ref 119, mX0, .int y2, .int y3, .int 0]) f10_mud_35 (by decide) rfl rfl ?_
      obtain ⟨z0, hz0, hr⟩ := mBind hr
      refine t10_mud_37 X Q s I y3 FU y2 0 _ hz0 ?_
      refine mV_iinc (y := (y3 + 1)) (L' := [.ref 119, mX0, .int z0, .int (y3 + 1), mX0]) f10_mud_63 rfl rfl (by decide) rfl rfl ?_
      refine mV_goto f10_mud_66 ?_
      exact ih z0 (y3 + 1) _ hr hk
set_option maxHeartbeats 4000000 in
set_option maxRecDepth 100000 in
theorem w10_mud (X : Nat × (Nat → Int32)) (I : mI) (s : Nat) (x0 : Int32) (Q : mQ) {res : Int32 × mI} (hr : r10_mud I x0 = some res) (hQ : Q (some (.int res.1)) NN KK res.2 (PP s)) : mV X m10_mud 2 0 0 0 [.ref 119, .int x0, mX0, mX0, mX0] [] NN KK I (PP s) Q := by
  unfold r10_mud at hr
  refine mV_aload f10_mud_0 rfl ?_
  refine mV_push f10_mud_1 ?_
  refine mV_putI f10_mud_2 (by decide) kk_119 rfl rfl ?_
  refine mV_aload f10_mud_5 rfl ?_
  refine mV_iload f10_mud_6 rfl ?_
  refine mV_push f10_mud_7 ?_
  refine mV_push f10_mud_8 ?_
  refine mV_cV f10_mud_9 tg_m10_isIn mCls10 (by decide) kk_119 (mC_deep (c10_isIn X (mW I 119 0 0) s x0 0 2 rfl) (by decide)) rfl rfl (Nat.le_of_ble_eq_true rfl) ?_
  refine mV_if_ne f10_mud_12 (fun h0 => ?_) (fun h0 => ?_)
  · rw [if_neg h0] at hr
    refine mV_iload f10_mud_17 rfl ?_
    refine mV_push f10_mud_18 ?_
    refine mV_icmp_ne f10_mud_19 (fun h1 => ?_) (fun h1 => ?_)
    · rw [if_neg h1] at hr
      refine mV_push f10_mud_71 ?_
      refine mV_istore (L' := [.ref 119, .int x0, .int 0, mX0, mX0]) f10_mud_72 (by decide) rfl rfl ?_
      refine mV_push f10_mud_73 ?_
      refine mV_istore (L' := [.ref 119, .int x0, .int 0, .int 1, mX0]) f10_mud_74 (by decide) rfl rfl ?_
      obtain ⟨z0, hz0, hr⟩ := mBind hr
      refine t10_mud_75 X Q s (mW I 119 0 0) x0 FU 0 1 _ hz0 ?_
      refine mV_iload f10_mud_102 rfl ?_
      obtain ⟨z1, hz1, hr⟩ := mBind hr
      have keyz1 : mV X m10_mud 2 0 0 115 [.ref 119, mX0, mX0, mX0, mX0] [.int z1] NN KK (mW I 119 0 0) (PP s) Q := by
        have hr := Option.some.inj hr; subst hr
        exact mV_iret rfl rfl f10_mud_115 hQ
      clear hr
      have hr := hz1
      clear hz1
      refine mV_if_ne f10_mud_103 (fun h2 => ?_) (fun h2 => ?_)
      · rw [if_neg h2] at hr
        refine mV_iload f10_mud_114 rfl ?_
        have hr := Option.some.inj hr; subst hr
        refine mV_drop (L' := [.ref 119, mX0, mX0, mX0, mX0]) (mSub_k (mSub_x (mSub_x (mSub_x (mSub_x mSub_n))))) ?_
        exact keyz1
      · rw [if_pos h2] at hr
        refine mV_aload f10_mud_106 rfl ?_
        refine mV_iload f10_mud_107 rfl ?_
        obtain ⟨z2, hz2, hr⟩ := mBind hr
        refine mV_cV f10_mud_108 tg_m10_soundsAt mCls10 (by decide) kk_119 (mC_deep (c10_soundsAt X (mW I 119 0 0) s z0 hz2) (by decide)) rfl rfl (Nat.le_of_ble_eq_true rfl) ?_
        refine mV_goto f10_mud_111 ?_
        have hr := Option.some.inj hr; subst hr
        refine mV_drop (L' := [.ref 119, mX0, mX0, mX0, mX0]) (mSub_k (mSub_x (mSub_x (mSub_x (mSub_x mSub_n))))) ?_
        exact keyz1
    · rw [if_pos h1] at hr
      refine mV_push f10_mud_22 ?_
      refine mV_istore (L' := [.ref 119, .int x0, .int 0, mX0, mX0]) f10_mud_23 (by decide) rfl rfl ?_
      refine mV_push f10_mud_24 ?_
      refine mV_istore (L' := [.ref 119, .int x0, .int 0, .int 0, mX0]) f10_mud_25 (by decide) rfl rfl ?_
      obtain ⟨z3, hz3, hr⟩ := mBind hr
      refine mV_drop (L' := [.ref 119, mX0, .int 0, .int 0, mX0]) (mSub_k (mSub_x (mSub_k (mSub_k (mSub_x mSub_n))))) ?_
      refine t10_mud_26 X Q s (mW I 119 0 0) FU 0 0 _ hz3 ?_
      refine mV_iload f10_mud_69 rfl ?_
      have hr := Option.some.inj hr; subst hr
      exact mV_iret rfl rfl f10_mud_70 hQ
  · rw [if_pos h0] at hr
    refine mV_push f10_mud_15 ?_
    have hr := Option.some.inj hr; subst hr
    exact mV_iret rfl rfl f10_mud_16 hQ
theorem c10_mud (X : Nat × (Nat → Int32)) (I : mI) (s : Nat) (x0 : Int32) {res : Int32 × mI} (hr : r10_mud I x0 = some res) : mC X m10_mud 2 0 0 [.ref 119, .int x0] NN KK I (PP s) (mRet (some (.int res.1)) NN KK res.2 (PP s)) :=
  mC_of (L0 := [.ref 119, .int x0, mX0, mX0, mX0]) rfl (Nat.le_of_ble_eq_true rfl) (w10_mud X I s x0 _ hr (mRet_ok _ _ _ _ _))
def l10_whose_57 (I : mI) (k6 : Int32) : Nat → Int32 → Int32 → Option (Int32)
  | 0, _, _ => none
  | f + 1, y7, y8 => if (I 119 6 : Int32) ≤ (y8 : Int32) then some y7 else (if ((r10_has k6 y8) : Int32) = (0 : Int32) then some y7 else (mLd I 120 47 (29 + y8)).bind fun z1 => some (y7 + z1) : Option (Int32)).bind fun z0 => l10_whose_57 I k6 f z0 (y8 + 1)
def l10_whose_40 (I : mI) (k1 : Int32) : Nat → Int32 → Int32 → Int32 → Int32 → Option (Int32 × Int32 × Int32)
  | 0, _, _, _, _ => none
  | f + 1, y3, y4, y5, y6 => if ((1 <<< (I 119 6 &&& 31)) : Int32) ≤ (y6 : Int32) then some (y3, y4, y5) else (l10_whose_57 I y6 FU 0 0).bind fun z0 => (if (z0 : Int32) = (k1 : Int32) then (if (y3 : Int32) = (0 : Int32) then some y6 else some y4 : Option (Int32)).bind fun z2 => (if (y3 : Int32) = (0 : Int32) then some y6 else some (y5 &&& y6) : Option (Int32)).bind fun z3 => some ((y3 + 1), z2, z3) else some (y3, y4, y5) : Option (Int32 × Int32 × Int32)).bind fun z1 => l10_whose_40 I k1 f z1.1 z1.2.1 z1.2.2 (y6 + 1)
def r10_whose (I : mI) (x0 : Int32) (x1 : Int32) : Option (Int32 × mI) := if ((r10_isIn x0 1 999) : Int32) = (0 : Int32) then some ((-1), (mW I 119 0 0)) else if ((r10_isIn x1 0 2) : Int32) = (0 : Int32) then some ((-1), (mW I 119 0 0)) else (l10_whose_40 (mW I 119 0 0) x0 FU 0 (-1) 0 0).bind fun z0 => (if (x1 : Int32) = (0 : Int32) then some z0.1 else if (x1 : Int32) = (1 : Int32) then some z0.2.1 else some z0.2.2 : Option (Int32)).bind fun z1 => some (z1, (mW I 119 0 0))
set_option maxHeartbeats 4000000 in
set_option maxRecDepth 100000 in
theorem t10_whose_57 (X : Nat × (Nat → Int32)) (Q : mQ) (s : Nat) (I : mI) (k1 : Int32) (k2 : Int32) (k3 : Int32) (k4 : Int32) (k5 : Int32) (k6 : Int32) : ∀ (f : Nat) (y7 : Int32) (y8 : Int32) (z : Int32), l10_whose_57 I k6 f y7 y8 = some z → mV X m10_whose 1 0 0 98 [.ref 119, .int k1, .int k2, .int k3, .int k4, .int k5, .int k6, .int z, mX0] [] NN KK I (PP s) Q → mV X m10_whose 1 0 0 57 [.ref 119, .int k1, .int k2, .int k3, .int k4, .int k5, .int k6, .int y7, .int y8] [] NN KK I (PP s) Q := by
  intro f
  induction f with
  | zero => intro y7 y8 z hr hk; cases hr
  | succ f ih =>
    intro y7 y8 z hr hk
    unfold l10_whose_57 at hr
    refine mV_iload f10_whose_57 rfl ?_
    refine mV_aload f10_whose_59 rfl ?_
    refine mV_gI (I 119 6) f10_whose_60 (by decide) kk_119 rfl rfl ?_
    refine mV_icmp_ge f10_whose_63 (fun h0 => ?_) (fun h0 => ?_)
    · rw [if_pos h0] at hr
      have hr := Option.some.inj hr; subst hr
      refine mV_drop (L' := [.ref 119, .int k1, .int k2, .int k3, .int k4, .int k5, .int k6, .int y7, mX0]) (mSub_k (mSub_k (mSub_k (mSub_k (mSub_k (mSub_k (mSub_k (mSub_k (mSub_x mSub_n))))))))) ?_
      exact hk
    · rw [if_neg h0] at hr
      refine mV_aload f10_whose_66 rfl ?_
      refine mV_iload f10_whose_67 rfl ?_
      refine mV_iload f10_whose_69 rfl ?_
      refine mV_cV f10_whose_71 tg_m10_has mCls10 (by decide) kk_119 (mC_deep (c10_has X I s k6 y8 rfl) (by decide)) rfl rfl (Nat.le_of_ble_eq_true rfl) ?_
      obtain ⟨z0, hz0, hr⟩ := mBind hr
      have keyz0 : mV X m10_whose 1 0 0 92 [.ref 119, .int k1, .int k2, .int k3, .int k4, .int k5, .int k6, .int z0, .int y8] [] NN KK I (PP s) Q := by
        refine mV_iinc (y := (y8 + 1)) (L' := [.ref 119, .int k1, .int k2, .int k3, .int k4, .int k5, .int k6, .int z0, .int (y8 + 1)]) f10_whose_92 rfl rfl (by decide) rfl rfl ?_
        refine mV_goto f10_whose_95 ?_
        exact ih z0 (y8 + 1) _ hr hk
      clear hr
      have hr := hz0
      clear hz0
      refine mV_if_eq f10_whose_74 (fun h1 => ?_) (fun h1 => ?_)
      · rw [if_pos h1] at hr
        have hr := Option.some.inj hr; subst hr
        exact keyz0
      · rw [if_neg h1] at hr
        refine mV_iload f10_whose_77 rfl ?_
        refine mV_aload f10_whose_79 rfl ?_
        refine mV_getP f10_whose_80 (by decide) kk_119 rfl (pp_119_1 _) ?_
        refine mV_push f10_whose_83 ?_
        refine mV_iload f10_whose_85 rfl ?_
        refine mV_iadd f10_whose_87 ?_
        obtain ⟨z1, hz1, hr⟩ := mBind hr
        refine mV_ldO f10_whose_88 (by decide) kk_120 hz1 ?_
        refine mV_iadd f10_whose_89 ?_
        refine mV_istore (L' := [.ref 119, .int k1, .int k2, .int k3, .int k4, .int k5, .int k6, .int (y7 + z1), .int y8]) f10_whose_90 (by decide) rfl rfl ?_
        have hr := Option.some.inj hr; subst hr
        exact keyz0
set_option maxHeartbeats 4000000 in
set_option maxRecDepth 100000 in
theorem t10_whose_40 (X : Nat × (Nat → Int32)) (Q : mQ) (s : Nat) (I : mI) (k1 : Int32) (k2 : Int32) : ∀ (f : Nat) (y3 : Int32) (y4 : Int32) (y5 : Int32) (y6 : Int32) (z : Int32 × Int32 × Int32), l10_whose_40 I k1 f y3 y4 y5 y6 = some z → mV X m10_whose 1 0 0 141 [.ref 119, .int k1, .int k2, .int z.1, .int z.2.1, .int z.2.2, mX0, mX0, mX0] [] NN KK I (PP s) Q → mV X m10_whose 1 0 0 40 [.ref 119, .int k1, .int k2, .int y3, .int y4, .int y5, .int y6, mX0, mX0] [] NN KK I (PP s) Q := by
  intro f
  induction f with
  | zero => intro y3 y4 y5 y6 z hr hk; cases hr
  | succ f ih =>
    intro y3 y4 y5 y6 z hr hk
    unfold l10_whose_40 at hr
    refine mV_iload f10_whose_40 rfl ?_
    refine mV_push f10_whose_42 ?_
    refine mV_aload f10_whose_43 rfl ?_
    refine mV_gI (I 119 6) f10_whose_44 (by decide) kk_119 rfl rfl ?_
    refine mV_ishl f10_whose_47 ?_
    refine mV_icmp_ge f10_whose_48 (fun h0 => ?_) (fun h0 => ?_)
    · rw [if_pos h0] at hr
      have hr := Option.some.inj hr; subst hr
      refine mV_drop (L' := [.ref 119, .int k1, .int k2, .int y3, .int y4, .int y5, mX0, mX0, mX0]) (mSub_k (mSub_k (mSub_k (mSub_k (mSub_k (mSub_k (mSub_x (mSub_x (mSub_x mSub_n))))))))) ?_
      exact hk
    · rw [if_neg h0] at hr
      refine mV_push f10_whose_51 ?_
      refine mV_istore (L' := [.ref 119, .int k1, .int k2, .int y3, .int y4, .int y5, .int y6, .int 0, mX0]) f10_whose_52 (by decide) rfl rfl ?_
      refine mV_push f10_whose_54 ?_
      refine mV_istore (L' := [.ref 119, .int k1, .int k2, .int y3, .int y4, .int y5, .int y6, .int 0, .int 0]) f10_whose_55 (by decide) rfl rfl ?_
      obtain ⟨z0, hz0, hr⟩ := mBind hr
      refine t10_whose_57 X Q s I k1 k2 y3 y4 y5 y6 FU 0 0 _ hz0 ?_
      refine mV_iload f10_whose_98 rfl ?_
      refine mV_iload f10_whose_100 rfl ?_
      obtain ⟨z1, hz1, hr⟩ := mBind hr
      have keyz1 : mV X m10_whose 1 0 0 135 [.ref 119, .int k1, .int k2, .int z1.1, .int z1.2.1, .int z1.2.2, .int y6, mX0, mX0] [] NN KK I (PP s) Q := by
        refine mV_iinc (y := (y6 + 1)) (L' := [.ref 119, .int k1, .int k2, .int z1.1, .int z1.2.1, .int z1.2.2, .int (y6 + 1), mX0, mX0]) f10_whose_135 rfl rfl (by decide) rfl rfl ?_
        refine mV_goto f10_whose_138 ?_
        exact ih z1.1 z1.2.1 z1.2.2 (y6 + 1) _ hr hk
      clear hr
      have hr := hz1
      clear hz1
      refine mV_icmp_eq f10_whose_101 (fun h1 => ?_) (fun h1 => ?_)
      · rw [if_pos h1] at hr
        refine mV_iload f10_whose_107 rfl ?_
        obtain ⟨z2, hz2, hr⟩ := mBind hr
        have keyz2 : mV X m10_whose 1 0 0 115 [.ref 119, .int k1, .int k2, .int y3, .int z2, .int y5, .int y6, mX0, mX0] [] NN KK I (PP s) Q := by
          refine mV_iload f10_whose_115 rfl ?_
          obtain ⟨z3, hz3, hr⟩ := mBind hr
          have keyz3 : mV X m10_whose 1 0 0 129 [.ref 119, .int k1, .int k2, .int y3, .int z2, mX0, .int y6, mX0, mX0] [.int z3] NN KK I (PP s) Q := by
            refine mV_istore (L' := [.ref 119, .int k1, .int k2, .int y3, .int z2, .int z3, .int y6, mX0, mX0]) f10_whose_129 (by decide) rfl rfl ?_
            refine mV_iload f10_whose_131 rfl ?_
            refine mV_push f10_whose_132 ?_
            refine mV_iadd f10_whose_133 ?_
            refine mV_istore (L' := [.ref 119, .int k1, .int k2, .int (y3 + 1), .int z2, .int z3, .int y6, mX0, mX0]) f10_whose_134 (by decide) rfl rfl ?_
            have hr := Option.some.inj hr; subst hr
            exact keyz1
          clear hr
          have hr := hz3
          clear hz3
          refine mV_if_ne f10_whose_116 (fun h3 => ?_) (fun h3 => ?_)
          · rw [if_neg h3] at hr
            refine mV_iload f10_whose_124 rfl ?_
            refine mV_iload f10_whose_126 rfl ?_
            refine mV_iand f10_whose_128 ?_
            have hr := Option.some.inj hr; subst hr
            refine mV_drop (L' := [.ref 119, .int k1, .int k2, .int y3, .int z2, mX0, .int y6, mX0, mX0]) (mSub_k (mSub_k (mSub_k (mSub_k (mSub_k (mSub_x (mSub_k (mSub_x (mSub_x mSub_n))))))))) ?_
            exact keyz3
          · rw [if_pos h3] at hr
            refine mV_iload f10_whose_119 rfl ?_
            refine mV_goto f10_whose_121 ?_
            have hr := Option.some.inj hr; subst hr
            refine mV_drop (L' := [.ref 119, .int k1, .int k2, .int y3, .int z2, mX0, .int y6, mX0, mX0]) (mSub_k (mSub_k (mSub_k (mSub_k (mSub_k (mSub_x (mSub_k (mSub_x (mSub_x mSub_n))))))))) ?_
            exact keyz3
        clear hr
        have hr := hz2
        clear hz2
        refine mV_if_ne f10_whose_108 (fun h2 => ?_) (fun h2 => ?_)
        · rw [if_neg h2] at hr
          have hr := Option.some.inj hr; subst hr
          refine mV_drop (L' := [.ref 119, .int k1, .int k2, .int y3, .int y4, .int y5, .int y6, mX0, mX0]) (mSub_k (mSub_k (mSub_k (mSub_k (mSub_k (mSub_k (mSub_k (mSub_x (mSub_x mSub_n))))))))) ?_
          exact keyz2
        · rw [if_pos h2] at hr
          refine mV_iload f10_whose_111 rfl ?_
          refine mV_istore (L' := [.ref 119, .int k1, .int k2, .int y3, .int y6, .int y5, .int y6, .int z0, mX0]) f10_whose_113 (by decide) rfl rfl ?_
          have hr := Option.some.inj hr; subst hr
          refine mV_drop (L' := [.ref 119, .int k1, .int k2, .int y3, .int y6, .int y5, .int y6, mX0, mX0]) (mSub_k (mSub_k (mSub_k (mSub_k (mSub_k (mSub_k (mSub_k (mSub_x (mSub_x mSub_n))))))))) ?_
          exact keyz2
      · rw [if_neg h1] at hr
        refine mV_goto f10_whose_104 ?_
        have hr := Option.some.inj hr; subst hr
        refine mV_drop (L' := [.ref 119, .int k1, .int k2, .int y3, .int y4, .int y5, .int y6, mX0, mX0]) (mSub_k (mSub_k (mSub_k (mSub_k (mSub_k (mSub_k (mSub_k (mSub_x (mSub_x mSub_n))))))))) ?_
        exact keyz1
set_option maxHeartbeats 4000000 in
set_option maxRecDepth 100000 in
theorem w10_whose (X : Nat × (Nat → Int32)) (I : mI) (s : Nat) (x0 : Int32) (x1 : Int32) (Q : mQ) {res : Int32 × mI} (hr : r10_whose I x0 x1 = some res) (hQ : Q (some (.int res.1)) NN KK res.2 (PP s)) : mV X m10_whose 1 0 0 0 [.ref 119, .int x0, .int x1, mX0, mX0, mX0, mX0, mX0, mX0] [] NN KK I (PP s) Q := by
  unfold r10_whose at hr
  refine mV_aload f10_whose_0 rfl ?_
  refine mV_push f10_whose_1 ?_
  refine mV_putI f10_whose_2 (by decide) kk_119 rfl rfl ?_
  refine mV_aload f10_whose_5 rfl ?_
  refine mV_iload f10_whose_6 rfl ?_
  refine mV_push f10_whose_7 ?_
  refine mV_push f10_whose_8 ?_
  refine mV_cV f10_whose_11 tg_m10_isIn mCls10 (by decide) kk_119 (mC_deep (c10_isIn X (mW I 119 0 0) s x0 1 999 rfl) (by decide)) rfl rfl (Nat.le_of_ble_eq_true rfl) ?_
  refine mV_if_eq f10_whose_14 (fun h0 => ?_) (fun h0 => ?_)
  · rw [if_pos h0] at hr
    refine mV_push f10_whose_27 ?_
    have hr := Option.some.inj hr; subst hr
    exact mV_iret rfl rfl f10_whose_28 hQ
  · rw [if_neg h0] at hr
    refine mV_aload f10_whose_17 rfl ?_
    refine mV_iload f10_whose_18 rfl ?_
    refine mV_push f10_whose_19 ?_
    refine mV_push f10_whose_20 ?_
    refine mV_cV f10_whose_21 tg_m10_isIn mCls10 (by decide) kk_119 (mC_deep (c10_isIn X (mW I 119 0 0) s x1 0 2 rfl) (by decide)) rfl rfl (Nat.le_of_ble_eq_true rfl) ?_
    refine mV_if_ne f10_whose_24 (fun h1 => ?_) (fun h1 => ?_)
    · rw [if_neg h1] at hr
      refine mV_push f10_whose_29 ?_
      refine mV_istore (L' := [.ref 119, .int x0, .int x1, .int 0, mX0, mX0, mX0, mX0, mX0]) f10_whose_30 (by decide) rfl rfl ?_
      refine mV_push f10_whose_31 ?_
      refine mV_istore (L' := [.ref 119, .int x0, .int x1, .int 0, .int (-1), mX0, mX0, mX0, mX0]) f10_whose_32 (by decide) rfl rfl ?_
      refine mV_push f10_whose_34 ?_
      refine mV_istore (L' := [.ref 119, .int x0, .int x1, .int 0, .int (-1), .int 0, mX0, mX0, mX0]) f10_whose_35 (by decide) rfl rfl ?_
      refine mV_push f10_whose_37 ?_
      refine mV_istore (L' := [.ref 119, .int x0, .int x1, .int 0, .int (-1), .int 0, .int 0, mX0, mX0]) f10_whose_38 (by decide) rfl rfl ?_
      obtain ⟨z0, hz0, hr⟩ := mBind hr
      refine t10_whose_40 X Q s (mW I 119 0 0) x0 x1 FU 0 (-1) 0 0 _ hz0 ?_
      refine mV_iload f10_whose_141 rfl ?_
      obtain ⟨z1, hz1, hr⟩ := mBind hr
      have keyz1 : mV X m10_whose 1 0 0 161 [.ref 119, mX0, mX0, mX0, mX0, mX0, mX0, mX0, mX0] [.int z1] NN KK (mW I 119 0 0) (PP s) Q := by
        have hr := Option.some.inj hr; subst hr
        exact mV_iret rfl rfl f10_whose_161 hQ
      clear hr
      have hr := hz1
      clear hz1
      refine mV_if_ne f10_whose_142 (fun h2 => ?_) (fun h2 => ?_)
      · rw [if_neg h2] at hr
        refine mV_iload f10_whose_149 rfl ?_
        refine mV_push f10_whose_150 ?_
        refine mV_icmp_ne f10_whose_151 (fun h3 => ?_) (fun h3 => ?_)
        · rw [if_neg h3] at hr
          refine mV_iload f10_whose_159 rfl ?_
          have hr := Option.some.inj hr; subst hr
          refine mV_drop (L' := [.ref 119, mX0, mX0, mX0, mX0, mX0, mX0, mX0, mX0]) (mSub_k (mSub_x (mSub_x (mSub_x (mSub_x (mSub_x (mSub_x (mSub_x (mSub_x mSub_n))))))))) ?_
          exact keyz1
        · rw [if_pos h3] at hr
          refine mV_iload f10_whose_154 rfl ?_
          refine mV_goto f10_whose_156 ?_
          have hr := Option.some.inj hr; subst hr
          refine mV_drop (L' := [.ref 119, mX0, mX0, mX0, mX0, mX0, mX0, mX0, mX0]) (mSub_k (mSub_x (mSub_x (mSub_x (mSub_x (mSub_x (mSub_x (mSub_x (mSub_x mSub_n))))))))) ?_
          exact keyz1
      · rw [if_pos h2] at hr
        refine mV_iload f10_whose_145 rfl ?_
        refine mV_goto f10_whose_146 ?_
        have hr := Option.some.inj hr; subst hr
        refine mV_drop (L' := [.ref 119, mX0, mX0, mX0, mX0, mX0, mX0, mX0, mX0]) (mSub_k (mSub_x (mSub_x (mSub_x (mSub_x (mSub_x (mSub_x (mSub_x (mSub_x mSub_n))))))))) ?_
        exact keyz1
    · rw [if_pos h1] at hr
      refine mV_push f10_whose_27 ?_
      have hr := Option.some.inj hr; subst hr
      exact mV_iret rfl rfl f10_whose_28 hQ
theorem c10_whose (X : Nat × (Nat → Int32)) (I : mI) (s : Nat) (x0 : Int32) (x1 : Int32) {res : Int32 × mI} (hr : r10_whose I x0 x1 = some res) : mC X m10_whose 1 0 0 [.ref 119, .int x0, .int x1] NN KK I (PP s) (mRet (some (.int res.1)) NN KK res.2 (PP s)) :=
  mC_of (L0 := [.ref 119, .int x0, .int x1, mX0, mX0, mX0, mX0, mX0, mX0]) rfl (Nat.le_of_ble_eq_true rfl) (w10_whose X I s x0 x1 _ hr (mRet_ok _ _ _ _ _))
def l10_roomFor_4 (I : mI) (k1 : Int32) : Nat → Int32 → Int32 → Option (Int32)
  | 0, _, _ => none
  | f + 1, y2, y3 => if (I 119 7 : Int32) ≤ (y3 : Int32) then some y2 else (mLd I 126 6 y3).bind fun z0 => (mLd I 125 12 k1).bind fun z1 => (if (z0 : Int32) < (z1 : Int32) then some y2 else (mLd I 153 6 y3).bind fun z3 => some (y2 + z3) : Option (Int32)).bind fun z2 => l10_roomFor_4 I k1 f z2 (y3 + 1)
def r10_roomFor (I : mI) (x0 : Int32) : Option (Int32) := (l10_roomFor_4 I x0 FU 0 0).bind fun z0 => some z0
set_option maxHeartbeats 4000000 in
set_option maxRecDepth 100000 in
theorem t10_roomFor_4 (X : Nat × (Nat → Int32)) (Q : mQ) (s : Nat) (I : mI) (k1 : Int32) : ∀ (f : Nat) (y2 : Int32) (y3 : Int32) (z : Int32), l10_roomFor_4 I k1 f y2 y3 = some z → mV X m10_roomFor 0 0 0 42 [.ref 119, .int k1, .int z, mX0] [] NN KK I (PP s) Q → mV X m10_roomFor 0 0 0 4 [.ref 119, .int k1, .int y2, .int y3] [] NN KK I (PP s) Q := by
  intro f
  induction f with
  | zero => intro y2 y3 z hr hk; cases hr
  | succ f ih =>
    intro y2 y3 z hr hk
    unfold l10_roomFor_4 at hr
    refine mV_iload f10_roomFor_4 rfl ?_
    refine mV_aload f10_roomFor_5 rfl ?_
    refine mV_gI (I 119 7) f10_roomFor_6 (by decide) kk_119 rfl rfl ?_
    refine mV_icmp_ge f10_roomFor_9 (fun h0 => ?_) (fun h0 => ?_)
    · rw [if_pos h0] at hr
      have hr := Option.some.inj hr; subst hr
      refine mV_drop (L' := [.ref 119, .int k1, .int y2, mX0]) (mSub_k (mSub_k (mSub_k (mSub_x mSub_n)))) ?_
      exact hk
    · rw [if_neg h0] at hr
      refine mV_aload f10_roomFor_12 rfl ?_
      refine mV_getP f10_roomFor_13 (by decide) kk_119 rfl (pp_119_11 _) ?_
      refine mV_iload f10_roomFor_16 rfl ?_
      obtain ⟨z0, hz0, hr⟩ := mBind hr
      refine mV_ldO f10_roomFor_17 (by decide) kk_126 hz0 ?_
      refine mV_aload f10_roomFor_18 rfl ?_
      refine mV_getP f10_roomFor_19 (by decide) kk_119 rfl (pp_119_10 _) ?_
      refine mV_iload f10_roomFor_22 rfl ?_
      obtain ⟨z1, hz1, hr⟩ := mBind hr
      refine mV_ldO f10_roomFor_23 (by decide) kk_125 hz1 ?_
      obtain ⟨z2, hz2, hr⟩ := mBind hr
      have keyz2 : mV X m10_roomFor 0 0 0 36 [.ref 119, .int k1, .int z2, .int y3] [] NN KK I (PP s) Q := by
        refine mV_iinc (y := (y3 + 1)) (L' := [.ref 119, .int k1, .int z2, .int (y3 + 1)]) f10_roomFor_36 rfl rfl (by decide) rfl rfl ?_
        refine mV_goto f10_roomFor_39 ?_
        exact ih z2 (y3 + 1) _ hr hk
      clear hr
      have hr := hz2
      clear hz2
      refine mV_icmp_lt f10_roomFor_24 (fun h1 => ?_) (fun h1 => ?_)
      · rw [if_pos h1] at hr
        have hr := Option.some.inj hr; subst hr
        exact keyz2
      · rw [if_neg h1] at hr
        refine mV_iload f10_roomFor_27 rfl ?_
        refine mV_aload f10_roomFor_28 rfl ?_
        refine mV_getP f10_roomFor_29 (by decide) kk_119 rfl (pp_119_57 _) ?_
        refine mV_iload f10_roomFor_32 rfl ?_
        obtain ⟨z3, hz3, hr⟩ := mBind hr
        refine mV_ldO f10_roomFor_33 (by decide) kk_153 hz3 ?_
        refine mV_iadd f10_roomFor_34 ?_
        refine mV_istore (L' := [.ref 119, .int k1, .int (y2 + z3), .int y3]) f10_roomFor_35 (by decide) rfl rfl ?_
        have hr := Option.some.inj hr; subst hr
        exact keyz2
set_option maxHeartbeats 4000000 in
set_option maxRecDepth 100000 in
theorem w10_roomFor (X : Nat × (Nat → Int32)) (I : mI) (s : Nat) (x0 : Int32) (Q : mQ) {res : Int32} (hr : r10_roomFor I x0 = some res) (hQ : Q (some (.int res)) NN KK I (PP s)) : mV X m10_roomFor 0 0 0 0 [.ref 119, .int x0, mX0, mX0] [] NN KK I (PP s) Q := by
  unfold r10_roomFor at hr
  refine mV_push f10_roomFor_0 ?_
  refine mV_istore (L' := [.ref 119, .int x0, .int 0, mX0]) f10_roomFor_1 (by decide) rfl rfl ?_
  refine mV_push f10_roomFor_2 ?_
  refine mV_istore (L' := [.ref 119, .int x0, .int 0, .int 0]) f10_roomFor_3 (by decide) rfl rfl ?_
  obtain ⟨z0, hz0, hr⟩ := mBind hr
  refine t10_roomFor_4 X Q s I x0 FU 0 0 _ hz0 ?_
  refine mV_iload f10_roomFor_42 rfl ?_
  have hr := Option.some.inj hr; subst hr
  exact mV_iret rfl rfl f10_roomFor_43 hQ
theorem c10_roomFor (X : Nat × (Nat → Int32)) (I : mI) (s : Nat) (x0 : Int32) {res : Int32} (hr : r10_roomFor I x0 = some res) : mC X m10_roomFor 0 0 0 [.ref 119, .int x0] NN KK I (PP s) (mRet (some (.int res)) NN KK I (PP s)) :=
  mC_of (L0 := [.ref 119, .int x0, mX0, mX0]) rfl (Nat.le_of_ble_eq_true rfl) (w10_roomFor X I s x0 _ hr (mRet_ok _ _ _ _ _))
def l10_mostHad_12 (I : mI) (k3 : Int32) : Nat → Int32 → Int32 → Option (Int32)
  | 0, _, _ => none
  | f + 1, y2, y4 => if (I 119 6 : Int32) ≤ (y4 : Int32) then some y2 else (mLd I 125 12 y4).bind fun z0 => (if (z0 : Int32) = (k3 : Int32) then (r10_roomFor I y4).bind fun z2 => if (z2 : Int32) ≤ (y2 : Int32) then some y2 else some (y2 + 1) else some y2 : Option (Int32)).bind fun z1 => l10_mostHad_12 I k3 f z1 (y4 + 1)
def l10_mostHad_5 (I : mI) (k1 : Int32) : Nat → Int32 → Int32 → Option (Int32)
  | 0, _, _ => none
  | f + 1, y2, y3 => if (y3 : Int32) < (0 : Int32) then some y2 else (l10_mostHad_12 I y3 FU y2 k1).bind fun z0 => l10_mostHad_5 I k1 f z0 (y3 + (-1))
def r10_mostHad (I : mI) (x0 : Int32) : Option (Int32) := (l10_mostHad_5 I x0 FU 0 9).bind fun z0 => some z0
set_option maxHeartbeats 4000000 in
set_option maxRecDepth 100000 in
theorem t10_mostHad_12 (X : Nat × (Nat → Int32)) (Q : mQ) (s : Nat) (I : mI) (k1 : Int32) (k3 : Int32) : ∀ (f : Nat) (y2 : Int32) (y4 : Int32) (z : Int32), l10_mostHad_12 I k3 f y2 y4 = some z → mV X m10_mostHad 1 0 0 52 [.ref 119, .int k1, .int z, .int k3, mX0] [] NN KK I (PP s) Q → mV X m10_mostHad 1 0 0 12 [.ref 119, .int k1, .int y2, .int k3, .int y4] [] NN KK I (PP s) Q := by
  intro f
  induction f with
  | zero => intro y2 y4 z hr hk; cases hr
  | succ f ih =>
    intro y2 y4 z hr hk
    unfold l10_mostHad_12 at hr
    refine mV_iload f10_mostHad_12 rfl ?_
    refine mV_aload f10_mostHad_14 rfl ?_
    refine mV_gI (I 119 6) f10_mostHad_15 (by decide) kk_119 rfl rfl ?_
    refine mV_icmp_ge f10_mostHad_18 (fun h0 => ?_) (fun h0 => ?_)
    · rw [if_pos h0] at hr
      have hr := Option.some.inj hr; subst hr
      refine mV_drop (L' := [.ref 119, .int k1, .int y2, .int k3, mX0]) (mSub_k (mSub_k (mSub_k (mSub_k (mSub_x mSub_n))))) ?_
      exact hk
    · rw [if_neg h0] at hr
      refine mV_aload f10_mostHad_21 rfl ?_
      refine mV_getP f10_mostHad_22 (by decide) kk_119 rfl (pp_119_10 _) ?_
      refine mV_iload f10_mostHad_25 rfl ?_
      obtain ⟨z0, hz0, hr⟩ := mBind hr
      refine mV_ldO f10_mostHad_27 (by decide) kk_125 hz0 ?_
      refine mV_iload f10_mostHad_28 rfl ?_
      obtain ⟨z1, hz1, hr⟩ := mBind hr
      have keyz1 : mV X m10_mostHad 1 0 0 46 [.ref 119, .int k1, .int z1, .int k3, .int y4] [] NN KK I (PP s) Q := by
        refine mV_iinc (y := (y4 + 1)) (L' := [.ref 119, .int k1, .int z1, .int k3, .int (y4 + 1)]) f10_mostHad_46 rfl rfl (by decide) rfl rfl ?_
        refine mV_goto f10_mostHad_49 ?_
        exact ih z1 (y4 + 1) _ hr hk
      clear hr
      have hr := hz1
      clear hz1
      refine mV_icmp_ne f10_mostHad_29 (fun h1 => ?_) (fun h1 => ?_)
      · rw [if_neg h1] at hr
        have hr := Option.some.inj hr; subst hr
        exact keyz1
      · rw [if_pos h1] at hr
        refine mV_iload f10_mostHad_32 rfl ?_
        refine mV_aload f10_mostHad_33 rfl ?_
        refine mV_iload f10_mostHad_34 rfl ?_
        obtain ⟨z2, hz2, hr⟩ := mBind hr
        refine mV_cV f10_mostHad_36 tg_m10_roomFor mCls10 (by decide) kk_119 (mC_deep (c10_roomFor X I s y4 hz2) (by decide)) rfl rfl (Nat.le_of_ble_eq_true rfl) ?_
        refine mV_icmp_ge f10_mostHad_39 (fun h2 => ?_) (fun h2 => ?_)
        · rw [if_pos h2] at hr
          have hr := Option.some.inj hr; subst hr
          exact keyz1
        · rw [if_neg h2] at hr
          refine mV_iload f10_mostHad_42 rfl ?_
          refine mV_push f10_mostHad_43 ?_
          refine mV_iadd f10_mostHad_44 ?_
          refine mV_istore (L' := [.ref 119, .int k1, .int (y2 + 1), .int k3, .int y4]) f10_mostHad_45 (by decide) rfl rfl ?_
          have hr := Option.some.inj hr; subst hr
          exact keyz1
set_option maxHeartbeats 4000000 in
set_option maxRecDepth 100000 in
theorem t10_mostHad_5 (X : Nat × (Nat → Int32)) (Q : mQ) (s : Nat) (I : mI) (k1 : Int32) : ∀ (f : Nat) (y2 : Int32) (y3 : Int32) (z : Int32), l10_mostHad_5 I k1 f y2 y3 = some z → mV X m10_mostHad 1 0 0 58 [.ref 119, .int k1, .int z, mX0, mX0] [] NN KK I (PP s) Q → mV X m10_mostHad 1 0 0 5 [.ref 119, .int k1, .int y2, .int y3, mX0] [] NN KK I (PP s) Q := by
  intro f
  induction f with
  | zero => intro y2 y3 z hr hk; cases hr
  | succ f ih =>
    intro y2 y3 z hr hk
    unfold l10_mostHad_5 at hr
    refine mV_iload f10_mostHad_5 rfl ?_
    refine mV_if_lt f10_mostHad_6 (fun h0 => ?_) (fun h0 => ?_)
    · rw [if_pos h0] at hr
      have hr := Option.some.inj hr; subst hr
      refine mV_drop (L' := [.ref 119, .int k1, .int y2, mX0, mX0]) (mSub_k (mSub_k (mSub_k (mSub_x (mSub_x mSub_n))))) ?_
      exact hk
    · rw [if_neg h0] at hr
      refine mV_iload f10_mostHad_9 rfl ?_
      refine mV_istore (L' := [.ref 119, .int k1, .int y2, .int y3, .int k1]) f10_mostHad_10 (by decide) rfl rfl ?_
      obtain ⟨z0, hz0, hr⟩ := mBind hr
      refine t10_mostHad_12 X Q s I k1 y3 FU y2 k1 _ hz0 ?_
      refine mV_iinc (y := (y3 + (-1))) (L' := [.ref 119, .int k1, .int z0, .int (y3 + (-1)), mX0]) f10_mostHad_52 rfl rfl (by decide) rfl rfl ?_
      refine mV_goto f10_mostHad_55 ?_
      exact ih z0 (y3 + (-1)) _ hr hk
set_option maxHeartbeats 4000000 in
set_option maxRecDepth 100000 in
theorem w10_mostHad (X : Nat × (Nat → Int32)) (I : mI) (s : Nat) (x0 : Int32) (Q : mQ) {res : Int32} (hr : r10_mostHad I x0 = some res) (hQ : Q (some (.int res)) NN KK I (PP s)) : mV X m10_mostHad 1 0 0 0 [.ref 119, .int x0, mX0, mX0, mX0] [] NN KK I (PP s) Q := by
  unfold r10_mostHad at hr
  refine mV_push f10_mostHad_0 ?_
  refine mV_istore (L' := [.ref 119, .int x0, .int 0, mX0, mX0]) f10_mostHad_1 (by decide) rfl rfl ?_
  refine mV_push f10_mostHad_2 ?_
  refine mV_istore (L' := [.ref 119, .int x0, .int 0, .int 9, mX0]) f10_mostHad_4 (by decide) rfl rfl ?_
  obtain ⟨z0, hz0, hr⟩ := mBind hr
  refine t10_mostHad_5 X Q s I x0 FU 0 9 _ hz0 ?_
  refine mV_iload f10_mostHad_58 rfl ?_
  have hr := Option.some.inj hr; subst hr
  exact mV_iret rfl rfl f10_mostHad_59 hQ
theorem c10_mostHad (X : Nat × (Nat → Int32)) (I : mI) (s : Nat) (x0 : Int32) {res : Int32} (hr : r10_mostHad I x0 = some res) : mC X m10_mostHad 1 0 0 [.ref 119, .int x0] NN KK I (PP s) (mRet (some (.int res)) NN KK I (PP s)) :=
  mC_of (L0 := [.ref 119, .int x0, mX0, mX0, mX0]) rfl (Nat.le_of_ble_eq_true rfl) (w10_mostHad X I s x0 _ hr (mRet_ok _ _ _ _ _))

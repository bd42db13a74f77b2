def l10_readLaw_2 : Nat → Int32 → mI → Option ((Int32 × mI) ⊕ (Int32 × mI))
  | 0, _, _ => none
  | f + 1, y1, I => if ((r10_isLineWord I) : Int32) = (0 : Int32) then some (.inr (y1, I)) else if (y1 : Int32) = (16 : Int32) then (r10_errs I 3).bind fun z13 => some (.inl (z13.1, z13.2)) else (mSto I 132 48 (32 + y1) (I 119 19)).bind fun z0 => (r10_reads z0).bind fun z1 => (mSto z1 133 48 (32 + y1) (z1 119 29)).bind fun z2 => (r10_readSum z2).bind fun z3 => if (z3.1 : Int32) = ((-1) : Int32) then some (.inl ((-1), z3.2)) else (mSto z3.2 134 48 (32 + y1) (z3.2 119 29)).bind fun z4 => if ((r10_isWord z4 3) : Int32) = (0 : Int32) then (mSto z4 135 48 (32 + y1) (z4 119 29)).bind fun z5 => if ((r10_isSign z5 59) : Int32) = (0 : Int32) then (r10_errs z5 1).bind fun z7 => some (.inl (z7.1, z7.2)) else (r10_reads z5).bind fun z6 => l10_readLaw_2 f (y1 + 1) z6 else (r10_reads z4).bind fun z8 => (r10_readAny z8).bind fun z9 => if (z9.1 : Int32) = ((-1) : Int32) then some (.inl ((-1), z9.2)) else (mSto z9.2 135 48 (32 + y1) (z9.2 119 29)).bind fun z10 => if ((r10_isSign z10 59) : Int32) = (0 : Int32) then (r10_errs z10 1).bind fun z12 => some (.inl (z12.1, z12.2)) else (r10_reads z10).bind fun z11 => l10_readLaw_2 f (y1 + 1) z11
def r10_readLaw (I : mI) : Option (Int32 × mI) := (l10_readLaw_2 FU 0 I).bind fun z0 => match z0 with | .inl rz0 => some rz0 | .inr wz0 => (if (wz0.2 119 18 : Int32) = (0 : Int32) then some (wz0.1, wz0.2) else (r10_errs wz0.2 1).bind fun z2 => some (z2.1, z2.2) : Option (Int32 × mI)).bind fun z1 => some (z1.1, z1.2)
set_option maxHeartbeats 4000000 in
set_option maxRecDepth 100000 in
theorem t10_readLaw_2 (X : Nat × (Nat → Int32)) (Q : mQ) (s : Nat) : ∀ (f : Nat) (y1 : Int32) (I : mI) (z : (Int32 × mI) ⊕ (Int32 × mI)), l10_readLaw_2 f y1 I = some z → (∀ res, z = .inl res → Q (some (.int res.1)) NN KK res.2 (PP s)) → (∀ w, z = .inr w → mV X m10_readLaw 8 0 0 128 [.ref 119, .int w.1, mX0] [] NN KK w.2 (PP s) Q) → mV X m10_readLaw 8 0 0 2 [.ref 119, .int y1, mX0] [] NN KK I (PP s) Q := by
  intro f
  induction f with
  | zero => intro y1 I z hr hret hk; cases hr
  | succ f ih =>
    intro y1 I z hr hret hk
    unfold l10_readLaw_2 at hr
    refine mV_aload f10_readLaw_2 rfl ?_
    refine mV_cV f10_readLaw_3 tg_m10_isLineWord mCls10 (by decide) kk_119 (mC_deep (c10_isLineWord X I s rfl) (by decide)) rfl rfl (Nat.le_of_ble_eq_true rfl) ?_
    refine mV_if_eq f10_readLaw_6 (fun h0 => ?_) (fun h0 => ?_)
    · rw [if_pos h0] at hr
      have hr := Option.some.inj hr; subst hr
      exact hk _ rfl
    · rw [if_neg h0] at hr
      refine mV_iload f10_readLaw_9 rfl ?_
      refine mV_push f10_readLaw_10 ?_
      refine mV_icmp_ne f10_readLaw_12 (fun h1 => ?_) (fun h1 => ?_)
      · rw [if_neg h1] at hr
        refine mV_push f10_readLaw_21 ?_
        refine mV_iload f10_readLaw_23 rfl ?_
        refine mV_iadd f10_readLaw_24 ?_
        refine mV_istore (L' := [.ref 119, .int y1, .int (32 + y1)]) f10_readLaw_25 (by decide) rfl rfl ?_
        refine mV_aload f10_readLaw_26 rfl ?_
        refine mV_getP f10_readLaw_27 (by decide) kk_119 rfl (pp_119_22 _) ?_
        refine mV_iload f10_readLaw_30 rfl ?_
        refine mV_aload f10_readLaw_31 rfl ?_
        refine mV_gI (I 119 19) f10_readLaw_32 (by decide) kk_119 rfl rfl ?_
        obtain ⟨z0, hz0, hr⟩ := mBind hr
        refine mV_stO f10_readLaw_35 (by decide) kk_132 hz0 ?_
        refine mV_aload f10_readLaw_36 rfl ?_
        obtain ⟨z1, hz1, hr⟩ := mBind hr
        refine mV_cV f10_readLaw_37 tg_m10_reads mCls10 (by decide) kk_119 (mC_deep (c10_reads X z0 s hz1) (by decide)) rfl rfl (Nat.le_of_ble_eq_true rfl) ?_
        refine mV_aload f10_readLaw_40 rfl ?_
        refine mV_getP f10_readLaw_41 (by decide) kk_119 rfl (pp_119_23 _) ?_
        refine mV_iload f10_readLaw_44 rfl ?_
        refine mV_aload f10_readLaw_45 rfl ?_
        refine mV_gI (z1 119 29) f10_readLaw_46 (by decide) kk_119 rfl rfl ?_
        obtain ⟨z2, hz2, hr⟩ := mBind hr
        refine mV_stO f10_readLaw_49 (by decide) kk_133 hz2 ?_
        refine mV_aload f10_readLaw_50 rfl ?_
        obtain ⟨z3, hz3, hr⟩ := mBind hr
        refine mV_cV f10_readLaw_51 tg_m10_readSum mCls10 (by decide) kk_119 (mC_deep (c10_readSum X z2 s hz3) (by decide)) rfl rfl (Nat.le_of_ble_eq_true rfl) ?_
        refine mV_push f10_readLaw_54 ?_
        refine mV_icmp_ne f10_readLaw_55 (fun h2 => ?_) (fun h2 => ?_)
        · rw [if_neg h2] at hr
          refine mV_aload f10_readLaw_60 rfl ?_
          refine mV_getP f10_readLaw_61 (by decide) kk_119 rfl (pp_119_24 _) ?_
          refine mV_iload f10_readLaw_64 rfl ?_
          refine mV_aload f10_readLaw_65 rfl ?_
          refine mV_gI (z3.2 119 29) f10_readLaw_66 (by decide) kk_119 rfl rfl ?_
          obtain ⟨z4, hz4, hr⟩ := mBind hr
          refine mV_stO f10_readLaw_69 (by decide) kk_134 hz4 ?_
          refine mV_aload f10_readLaw_70 rfl ?_
          refine mV_push f10_readLaw_71 ?_
          refine mV_cV f10_readLaw_72 tg_m10_isWord mCls10 (by decide) kk_119 (mC_deep (c10_isWord X z4 s 3 rfl) (by decide)) rfl rfl (Nat.le_of_ble_eq_true rfl) ?_
          refine mV_if_eq f10_readLaw_75 (fun h3 => ?_) (fun h3 => ?_)
          · rw [if_pos h3] at hr
            refine mV_aload f10_readLaw_92 rfl ?_
            refine mV_getP f10_readLaw_93 (by decide) kk_119 rfl (pp_119_25 _) ?_
            refine mV_iload f10_readLaw_96 rfl ?_
            refine mV_aload f10_readLaw_97 rfl ?_
            refine mV_gI (z4 119 29) f10_readLaw_98 (by decide) kk_119 rfl rfl ?_
            obtain ⟨z5, hz5, hr⟩ := mBind hr
            refine mV_stO f10_readLaw_101 (by decide) kk_135 hz5 ?_
            refine mV_aload f10_readLaw_102 rfl ?_
            refine mV_push f10_readLaw_103 ?_
            refine mV_cV f10_readLaw_105 tg_m10_isSign mCls10 (by decide) kk_119 (mC_deep (c10_isSign X z5 s 59 rfl) (by decide)) rfl rfl (Nat.le_of_ble_eq_true rfl) ?_
            refine mV_if_ne f10_readLaw_108 (fun h4 => ?_) (fun h4 => ?_)
            · rw [if_neg h4] at hr
              refine mV_aload f10_readLaw_117 rfl ?_
              obtain ⟨z6, hz6, hr⟩ := mBind hr
              refine mV_cV f10_readLaw_118 tg_m10_reads mCls10 (by decide) kk_119 (mC_deep (c10_reads X z5 s hz6) (by decide)) rfl rfl (Nat.le_of_ble_eq_true rfl) ?_
              refine mV_iload f10_readLaw_121 rfl ?_
              refine mV_push f10_readLaw_122 ?_
              refine mV_iadd f10_readLaw_123 ?_
              refine mV_istore (L' := [.ref 119, .int (y1 + 1), .int (32 + y1)]) f10_readLaw_124 (by decide) rfl rfl ?_
              refine mV_goto f10_readLaw_125 ?_
              refine mV_drop (L' := [.ref 119, .int (y1 + 1), mX0]) (mSub_k (mSub_k (mSub_x mSub_n))) ?_
              exact ih (y1 + 1) z6 _ hr hret hk
            · rw [if_pos h4] at hr
              refine mV_aload f10_readLaw_111 rfl ?_
              refine mV_push f10_readLaw_112 ?_
              obtain ⟨z7, hz7, hr⟩ := mBind hr
              refine mV_cV f10_readLaw_113 tg_m10_errs mCls10 (by decide) kk_119 (mC_deep (c10_errs X z5 s 1 hz7) (by decide)) rfl rfl (Nat.le_of_ble_eq_true rfl) ?_
              have hr := Option.some.inj hr; subst hr; have hQ := hret _ rfl
              exact mV_iret rfl rfl f10_readLaw_116 hQ
          · rw [if_neg h3] at hr
            refine mV_aload f10_readLaw_78 rfl ?_
            obtain ⟨z8, hz8, hr⟩ := mBind hr
            refine mV_cV f10_readLaw_79 tg_m10_reads mCls10 (by decide) kk_119 (mC_deep (c10_reads X z4 s hz8) (by decide)) rfl rfl (Nat.le_of_ble_eq_true rfl) ?_
            refine mV_aload f10_readLaw_82 rfl ?_
            obtain ⟨z9, hz9, hr⟩ := mBind hr
            refine mV_cV f10_readLaw_83 tg_m10_readAny mCls10 (by decide) kk_119 (mC_deep (c10_readAny X z8 s hz9) (by decide)) rfl rfl (Nat.le_of_ble_eq_true rfl) ?_
            refine mV_push f10_readLaw_86 ?_
            refine mV_icmp_ne f10_readLaw_87 (fun h5 => ?_) (fun h5 => ?_)
            · rw [if_neg h5] at hr
              refine mV_aload f10_readLaw_92 rfl ?_
              refine mV_getP f10_readLaw_93 (by decide) kk_119 rfl (pp_119_25 _) ?_
              refine mV_iload f10_readLaw_96 rfl ?_
              refine mV_aload f10_readLaw_97 rfl ?_
              refine mV_gI (z9.2 119 29) f10_readLaw_98 (by decide) kk_119 rfl rfl ?_
              obtain ⟨z10, hz10, hr⟩ := mBind hr
              refine mV_stO f10_readLaw_101 (by decide) kk_135 hz10 ?_
              refine mV_aload f10_readLaw_102 rfl ?_
              refine mV_push f10_readLaw_103 ?_
              refine mV_cV f10_readLaw_105 tg_m10_isSign mCls10 (by decide) kk_119 (mC_deep (c10_isSign X z10 s 59 rfl) (by decide)) rfl rfl (Nat.le_of_ble_eq_true rfl) ?_
              refine mV_if_ne f10_readLaw_108 (fun h6 => ?_) (fun h6 => ?_)
              · rw [if_neg h6] at hr
                refine mV_aload f10_readLaw_117 rfl ?_
                obtain ⟨z11, hz11, hr⟩ := mBind hr
                refine mV_cV f10_readLaw_118 tg_m10_reads mCls10 (by decide) kk_119 (mC_deep (c10_reads X z10 s hz11) (by decide)) rfl rfl (Nat.le_of_ble_eq_true rfl) ?_
                refine mV_iload f10_readLaw_121 rfl ?_
                refine mV_push f10_readLaw_122 ?_
                refine mV_iadd f10_readLaw_123 ?_
                refine mV_istore (L' := [.ref 119, .int (y1 + 1), .int (32 + y1)]) f10_readLaw_124 (by decide) rfl rfl ?_
                refine mV_goto f10_readLaw_125 ?_
                refine mV_drop (L' := [.ref 119, .int (y1 + 1), mX0]) (mSub_k (mSub_k (mSub_x mSub_n))) ?_
                exact ih (y1 + 1) z11 _ hr hret hk
              · rw [if_pos h6] at hr
                refine mV_aload f10_readLaw_111 rfl ?_
                refine mV_push f10_readLaw_112 ?_
                obtain ⟨z12, hz12, hr⟩ := mBind hr
                refine mV_cV f10_readLaw_113 tg_m10_errs mCls10 (by decide) kk_119 (mC_deep (c10_errs X z10 s 1 hz12) (by decide)) rfl rfl (Nat.le_of_ble_eq_true rfl) ?_
                have hr := Option.some.inj hr; subst hr; have hQ := hret _ rfl
                exact mV_iret rfl rfl f10_readLaw_116 hQ
            · rw [if_pos h5] at hr
              refine mV_push f10_readLaw_90 ?_
              have hr := Option.some.inj hr; subst hr; have hQ := hret _ rfl
              exact mV_iret rfl rfl f10_readLaw_91 hQ
        · rw [if_pos h2] at hr
          refine mV_push f10_readLaw_58 ?_
          have hr := Option.some.inj hr; subst hr; have hQ := hret _ rfl
          exact mV_iret rfl rfl f10_readLaw_59 hQ
      · rw [if_pos h1] at hr
        refine mV_aload f10_readLaw_15 rfl ?_
        refine mV_push f10_readLaw_16 ?_
        obtain ⟨z13, hz13, hr⟩ := mBind hr
        refine mV_cV f10_readLaw_17 tg_m10_errs mCls10 (by decide) kk_119 (mC_deep (c10_errs X I s 3 hz13) (by decide)) rfl rfl (Nat.le_of_ble_eq_true rfl) ?_
        have hr := Option.some.inj hr; subst hr; have hQ := hret _ rfl
        exact mV_iret rfl rfl f10_readLaw_20 hQ
set_option maxHeartbeats 4000000 in
set_option maxRecDepth 100000 in
theorem w10_readLaw (X : Nat × (Nat → Int32)) (I : mI) (s : Nat) (Q : mQ) {res : Int32 × mI} (hr : r10_readLaw I = some res) (hQ : Q (some (.int res.1)) NN KK res.2 (PP s)) : mV X m10_readLaw 8 0 0 0 [.ref 119, mX0, mX0] [] NN KK I (PP s) Q := by
  unfold r10_readLaw at hr
  refine mV_push f10_readLaw_0 ?_
  refine mV_istore (L' := [.ref 119, .int 0, mX0]) f10_readLaw_1 (by decide) rfl rfl ?_
  obtain ⟨z0, hz0, hr⟩ := mBind hr
  refine t10_readLaw_2 X Q s FU 0 I _ hz0 (fun res ez0 => ?_) (fun wz0 ez0 => ?_)
  · rw [ez0] at hr; have hr := Option.some.inj hr; subst hr; exact hQ
  rw [ez0] at hr
  dsimp only at hr
  refine mV_aload f10_readLaw_128 rfl ?_
  refine mV_gI (wz0.2 119 18) f10_readLaw_129 (by decide) kk_119 rfl rfl ?_
  obtain ⟨z1, hz1, hr⟩ := mBind hr
  have keyz1 : mV X m10_readLaw 8 0 0 144 [.ref 119, mX0, mX0] [.int z1.1] NN KK z1.2 (PP s) Q := by
    have hr := Option.some.inj hr; subst hr
    exact mV_iret rfl rfl f10_readLaw_144 hQ
  clear hr
  have hr := hz1
  clear hz1
  refine mV_if_ne f10_readLaw_132 (fun h0 => ?_) (fun h0 => ?_)
  · rw [if_neg h0] at hr
    refine mV_aload f10_readLaw_139 rfl ?_
    refine mV_push f10_readLaw_140 ?_
    obtain ⟨z2, hz2, hr⟩ := mBind hr
    refine mV_cV f10_readLaw_141 tg_m10_errs mCls10 (by decide) kk_119 (mC_deep (c10_errs X wz0.2 s 1 hz2) (by decide)) rfl rfl (Nat.le_of_ble_eq_true rfl) ?_
    have hr := Option.some.inj hr; subst hr
    refine mV_drop (L' := [.ref 119, mX0, mX0]) (mSub_k (mSub_x (mSub_x mSub_n))) ?_
    exact keyz1
  · rw [if_pos h0] at hr
    refine mV_iload f10_readLaw_135 rfl ?_
    refine mV_goto f10_readLaw_136 ?_
    have hr := Option.some.inj hr; subst hr
    refine mV_drop (L' := [.ref 119, mX0, mX0]) (mSub_k (mSub_x (mSub_x mSub_n))) ?_
    exact keyz1
theorem c10_readLaw (X : Nat × (Nat → Int32)) (I : mI) (s : Nat) {res : Int32 × mI} (hr : r10_readLaw I = some res) : mC X m10_readLaw 8 0 0 [.ref 119] NN KK I (PP s) (mRet (some (.int res.1)) NN KK res.2 (PP s)) :=
  mC_of (L0 := [.ref 119, mX0, mX0]) rfl (Nat.le_of_ble_eq_true rfl) (w10_readLaw X I s _ hr (mRet_ok _ _ _ _ _))
def l10_takesLaw_2 (k1 : Int32) : Nat → Int32 → mI → Option (mI)
  | 0, _, _ => none
  | f + 1, y2, I => if (k1 : Int32) ≤ (y2 : Int32) then some I else (mLd I 132 48 (32 + y2)).bind fun z0 => (mSto I 132 48 ((16 * I 119 28) + y2) z0).bind fun z1 => (mLd z1 133 48 (32 + y2)).bind fun z2 => (mSto z1 133 48 ((16 * z1 119 28) + y2) z2).bind fun z3 => (mLd z3 134 48 (32 + y2)).bind fun z4 => (mSto z3 134 48 ((16 * z3 119 28) + y2) z4).bind fun z5 => (mLd z5 135 48 (32 + y2)).bind fun z6 => (mSto z5 135 48 ((16 * z5 119 28) + y2) z6).bind fun z7 => l10_takesLaw_2 k1 f (y2 + 1) z7
def l10_takesLaw_107 : Nat → Int32 → mI → Option (mI)
  | 0, _, _ => none
  | f + 1, y2, I => if (I 119 29 : Int32) ≤ (y2 : Int32) then some I else (mLd I 136 1200 (800 + y2)).bind fun z0 => (mSto I 136 1200 ((400 * I 119 28) + y2) z0).bind fun z1 => (mLd z1 137 1200 (800 + y2)).bind fun z2 => (mSto z1 137 1200 ((400 * z1 119 28) + y2) z2).bind fun z3 => l10_takesLaw_107 f (y2 + 1) z3
def r10_takesLaw (I : mI) (x0 : Int32) : Option (mI) := (l10_takesLaw_2 x0 FU 0 I).bind fun z0 => (l10_takesLaw_107 FU 0 z0).bind fun z1 => (mSto z1 131 2 (z1 119 28) x0).bind fun z2 => some z2
set_option maxHeartbeats 4000000 in
set_option maxRecDepth 100000 in
theorem t10_takesLaw_2 (X : Nat × (Nat → Int32)) (Q : mQ) (s : Nat) (k1 : Int32) : ∀ (f : Nat) (y2 : Int32) (I : mI) (z : mI), l10_takesLaw_2 k1 f y2 I = some z → mV X m10_takesLaw 0 0 0 105 [.ref 119, .int k1, mX0] [] NN KK z (PP s) Q → mV X m10_takesLaw 0 0 0 2 [.ref 119, .int k1, .int y2] [] NN KK I (PP s) Q := by
  intro f
  induction f with
  | zero => intro y2 I z hr hk; cases hr
  | succ f ih =>
    intro y2 I z hr hk
    unfold l10_takesLaw_2 at hr
    refine mV_iload f10_takesLaw_2 rfl ?_
    refine mV_iload f10_takesLaw_3 rfl ?_
    refine mV_icmp_ge f10_takesLaw_4 (fun h0 => ?_) (fun h0 => ?_)
    · rw [if_pos h0] at hr
      have hr := Option.some.inj hr; subst hr
      refine mV_drop (L' := [.ref 119, .int k1, mX0]) (mSub_k (mSub_k (mSub_x mSub_n))) ?_
      exact hk
    · rw [if_neg h0] at hr
      refine mV_aload f10_takesLaw_7 rfl ?_
      refine mV_getP f10_takesLaw_8 (by decide) kk_119 rfl (pp_119_22 _) ?_
      refine mV_push f10_takesLaw_11 ?_
      refine mV_aload f10_takesLaw_13 rfl ?_
      refine mV_gI (I 119 28) f10_takesLaw_14 (by decide) kk_119 rfl rfl ?_
      refine mV_imul f10_takesLaw_17 ?_
      refine mV_iload f10_takesLaw_18 rfl ?_
      refine mV_iadd f10_takesLaw_19 ?_
      refine mV_aload f10_takesLaw_20 rfl ?_
      refine mV_getP f10_takesLaw_21 (by decide) kk_119 rfl (pp_119_22 _) ?_
      refine mV_push f10_takesLaw_24 ?_
      refine mV_iload f10_takesLaw_26 rfl ?_
      refine mV_iadd f10_takesLaw_27 ?_
      obtain ⟨z0, hz0, hr⟩ := mBind hr
      refine mV_ldO f10_takesLaw_28 (by decide) kk_132 hz0 ?_
      obtain ⟨z1, hz1, hr⟩ := mBind hr
      refine mV_stO f10_takesLaw_29 (by decide) kk_132 hz1 ?_
      refine mV_aload f10_takesLaw_30 rfl ?_
      refine mV_getP f10_takesLaw_31 (by decide) kk_119 rfl (pp_119_23 _) ?_
      refine mV_push f10_takesLaw_34 ?_
      refine mV_aload f10_takesLaw_36 rfl ?_
      refine mV_gI (z1 119 28) f10_takesLaw_37 (by decide) kk_119 rfl rfl ?_
      refine mV_imul f10_takesLaw_40 ?_
      refine mV_iload f10_takesLaw_41 rfl ?_
      refine mV_iadd f10_takesLaw_42 ?_
      refine mV_aload f10_takesLaw_43 rfl ?_
      refine mV_getP f10_takesLaw_44 (by decide) kk_119 rfl (pp_119_23 _) ?_
      refine mV_push f10_takesLaw_47 ?_
      refine mV_iload f10_takesLaw_49 rfl ?_
      refine mV_iadd f10_takesLaw_50 ?_
      obtain ⟨z2, hz2, hr⟩ := mBind hr
      refine mV_ldO f10_takesLaw_51 (by decide) kk_133 hz2 ?_
      obtain ⟨z3, hz3, hr⟩ := mBind hr
      refine mV_stO f10_takesLaw_52 (by decide) kk_133 hz3 ?_
      refine mV_aload f10_takesLaw_53 rfl ?_
      refine mV_getP f10_takesLaw_54 (by decide) kk_119 rfl (pp_119_24 _) ?_
      refine mV_push f10_takesLaw_57 ?_
      refine mV_aload f10_takesLaw_59 rfl ?_
      refine mV_gI (z3 119 28) f10_takesLaw_60 (by decide) kk_119 rfl rfl ?_
      refine mV_imul f10_takesLaw_63 ?_
      refine mV_iload f10_takesLaw_64 rfl ?_
      refine mV_iadd f10_takesLaw_65 ?_
      refine mV_aload f10_takesLaw_66 rfl ?_
      refine mV_getP f10_takesLaw_67 (by decide) kk_119 rfl (pp_119_24 _) ?_
      refine mV_push f10_takesLaw_70 ?_
      refine mV_iload f10_takesLaw_72 rfl ?_
      refine mV_iadd f10_takesLaw_73 ?_
      obtain ⟨z4, hz4, hr⟩ := mBind hr
      refine mV_ldO f10_takesLaw_74 (by decide) kk_134 hz4 ?_
      obtain ⟨z5, hz5, hr⟩ := mBind hr
      refine mV_stO f10_takesLaw_75 (by decide) kk_134 hz5 ?_
      refine mV_aload f10_takesLaw_76 rfl ?_
      refine mV_getP f10_takesLaw_77 (by decide) kk_119 rfl (pp_119_25 _) ?_
      refine mV_push f10_takesLaw_80 ?_
      refine mV_aload f10_takesLaw_82 rfl ?_
      refine mV_gI (z5 119 28) f10_takesLaw_83 (by decide) kk_119 rfl rfl ?_
      refine mV_imul f10_takesLaw_86 ?_
      refine mV_iload f10_takesLaw_87 rfl ?_
      refine mV_iadd f10_takesLaw_88 ?_
      refine mV_aload f10_takesLaw_89 rfl ?_
      refine mV_getP f10_takesLaw_90 (by decide) kk_119 rfl (pp_119_25 _) ?_
      refine mV_push f10_takesLaw_93 ?_
      refine mV_iload f10_takesLaw_95 rfl ?_
      refine mV_iadd f10_takesLaw_96 ?_
      obtain ⟨z6, hz6, hr⟩ := mBind hr
      refine mV_ldO f10_takesLaw_97 (by decide) kk_135 hz6 ?_
      obtain ⟨z7, hz7, hr⟩ := mBind hr
      refine mV_stO f10_takesLaw_98 (by decide) kk_135 hz7 ?_
      refine mV_iinc (y := (y2 + 1)) (L' := [.ref 119, .int k1, .int (y2 + 1)]) f10_takesLaw_99 rfl rfl (by decide) rfl rfl ?_
      refine mV_goto f10_takesLaw_102 ?_
      exact ih (y2 + 1) z7 _ hr hk
set_option maxHeartbeats 4000000 in
set_option maxRecDepth 100000 in
theorem t10_takesLaw_107 (X : Nat × (Nat → Int32)) (Q : mQ) (s : Nat) (k1 : Int32) : ∀ (f : Nat) (y2 : Int32) (I : mI) (z : mI), l10_takesLaw_107 f y2 I = some z → mV X m10_takesLaw 0 0 0 171 [.ref 119, .int k1, mX0] [] NN KK z (PP s) Q → mV X m10_takesLaw 0 0 0 107 [.ref 119, .int k1, .int y2] [] NN KK I (PP s) Q := by
  intro f
  induction f with
  | zero => intro y2 I z hr hk; cases hr
  | succ f ih =>
    intro y2 I z hr hk
    unfold l10_takesLaw_107 at hr
    refine mV_iload f10_takesLaw_107 rfl ?_
    refine mV_aload f10_takesLaw_108 rfl ?_
    refine mV_gI (I 119 29) f10_takesLaw_109 (by decide) kk_119 rfl rfl ?_
    refine mV_icmp_ge f10_takesLaw_112 (fun h0 => ?_) (fun h0 => ?_)
    · rw [if_pos h0] at hr
      have hr := Option.some.inj hr; subst hr
      refine mV_drop (L' := [.ref 119, .int k1, mX0]) (mSub_k (mSub_k (mSub_x mSub_n))) ?_
      exact hk
    · rw [if_neg h0] at hr
      refine mV_aload f10_takesLaw_115 rfl ?_
      refine mV_getP f10_takesLaw_116 (by decide) kk_119 rfl (pp_119_26 _) ?_
      refine mV_push f10_takesLaw_119 ?_
      refine mV_aload f10_takesLaw_122 rfl ?_
      refine mV_gI (I 119 28) f10_takesLaw_123 (by decide) kk_119 rfl rfl ?_
      refine mV_imul f10_takesLaw_126 ?_
      refine mV_iload f10_takesLaw_127 rfl ?_
      refine mV_iadd f10_takesLaw_128 ?_
      refine mV_aload f10_takesLaw_129 rfl ?_
      refine mV_getP f10_takesLaw_130 (by decide) kk_119 rfl (pp_119_26 _) ?_
      refine mV_push f10_takesLaw_133 ?_
      refine mV_iload f10_takesLaw_136 rfl ?_
      refine mV_iadd f10_takesLaw_137 ?_
      obtain ⟨z0, hz0, hr⟩ := mBind hr
      refine mV_ldO f10_takesLaw_138 (by decide) kk_136 hz0 ?_
      obtain ⟨z1, hz1, hr⟩ := mBind hr
      refine mV_stO f10_takesLaw_139 (by decide) kk_136 hz1 ?_
      refine mV_aload f10_takesLaw_140 rfl ?_
      refine mV_getP f10_takesLaw_141 (by decide) kk_119 rfl (pp_119_27 _) ?_
      refine mV_push f10_takesLaw_144 ?_
      refine mV_aload f10_takesLaw_147 rfl ?_
      refine mV_gI (z1 119 28) f10_takesLaw_148 (by decide) kk_119 rfl rfl ?_
      refine mV_imul f10_takesLaw_151 ?_
      refine mV_iload f10_takesLaw_152 rfl ?_
      refine mV_iadd f10_takesLaw_153 ?_
      refine mV_aload f10_takesLaw_154 rfl ?_
      refine mV_getP f10_takesLaw_155 (by decide) kk_119 rfl (pp_119_27 _) ?_
      refine mV_push f10_takesLaw_158 ?_
      refine mV_iload f10_takesLaw_161 rfl ?_
      refine mV_iadd f10_takesLaw_162 ?_
      obtain ⟨z2, hz2, hr⟩ := mBind hr
      refine mV_ldO f10_takesLaw_163 (by decide) kk_137 hz2 ?_
      obtain ⟨z3, hz3, hr⟩ := mBind hr
      refine mV_stO f10_takesLaw_164 (by decide) kk_137 hz3 ?_
      refine mV_iinc (y := (y2 + 1)) (L' := [.ref 119, .int k1, .int (y2 + 1)]) f10_takesLaw_165 rfl rfl (by decide) rfl rfl ?_
      refine mV_goto f10_takesLaw_168 ?_
      exact ih (y2 + 1) z3 _ hr hk
set_option maxHeartbeats 4000000 in
set_option maxRecDepth 100000 in
theorem w10_takesLaw (X : Nat × (Nat → Int32)) (I : mI) (s : Nat) (x0 : Int32) (Q : mQ) {res : mI} (hr : r10_takesLaw I x0 = some res) (hQ : Q none NN KK res (PP s)) : mV X m10_takesLaw 0 0 0 0 [.ref 119, .int x0, mX0] [] NN KK I (PP s) Q := by
  unfold r10_takesLaw at hr
  refine mV_push f10_takesLaw_0 ?_
  refine mV_istore (L' := [.ref 119, .int x0, .int 0]) f10_takesLaw_1 (by decide) rfl rfl ?_
  obtain ⟨z0, hz0, hr⟩ := mBind hr
  refine t10_takesLaw_2 X Q s x0 FU 0 I _ hz0 ?_
  refine mV_push f10_takesLaw_105 ?_
  refine mV_istore (L' := [.ref 119, .int x0, .int 0]) f10_takesLaw_106 (by decide) rfl rfl ?_
  obtain ⟨z1, hz1, hr⟩ := mBind hr
  refine t10_takesLaw_107 X Q s x0 FU 0 z0 _ hz1 ?_
  refine mV_aload f10_takesLaw_171 rfl ?_
  refine mV_getP f10_takesLaw_172 (by decide) kk_119 rfl (pp_119_21 _) ?_
  refine mV_aload f10_takesLaw_175 rfl ?_
  refine mV_gI (z1 119 28) f10_takesLaw_176 (by decide) kk_119 rfl rfl ?_
  refine mV_iload f10_takesLaw_179 rfl ?_
  obtain ⟨z2, hz2, hr⟩ := mBind hr
  refine mV_stO f10_takesLaw_180 (by decide) kk_131 hz2 ?_
  have hr := Option.some.inj hr; subst hr
  exact mV_vret rfl f10_takesLaw_181 hQ
theorem c10_takesLaw (X : Nat × (Nat → Int32)) (I : mI) (s : Nat) (x0 : Int32) {res : mI} (hr : r10_takesLaw I x0 = some res) : mC X m10_takesLaw 0 0 0 [.ref 119, .int x0] NN KK I (PP s) (mRet none NN KK res (PP s)) :=
  mC_of (L0 := [.ref 119, .int x0, mX0]) rfl (Nat.le_of_ble_eq_true rfl) (w10_takesLaw X I s x0 _ hr (mRet_ok _ _ _ _ _))
def r10_readNumber (I : mI) (x0 : Int32) (x1 : Int32) : Option (Int32 × mI) := if (I 119 18 : Int32) = (3 : Int32) then if ((r10_isIn (I 119 19) x0 x1) : Int32) = (0 : Int32) then (r10_errs I 2).bind fun z1 => some (z1.1, z1.2) else (r10_reads I).bind fun z0 => some (I 119 19, z0) else (r10_errs I 1).bind fun z2 => some (z2.1, z2.2)
set_option maxHeartbeats 4000000 in
set_option maxRecDepth 100000 in
theorem w10_readNumber (X : Nat × (Nat → Int32)) (I : mI) (s : Nat) (x0 : Int32) (x1 : Int32) (Q : mQ) {res : Int32 × mI} (hr : r10_readNumber I x0 x1 = some res) (hQ : Q (some (.int res.1)) NN KK res.2 (PP s)) : mV X m10_readNumber 3 0 0 0 [.ref 119, .int x0, .int x1, mX0] [] NN KK I (PP s) Q := by
  unfold r10_readNumber at hr
  refine mV_aload f10_readNumber_0 rfl ?_
  refine mV_gI (I 119 18) f10_readNumber_1 (by decide) kk_119 rfl rfl ?_
  refine mV_push f10_readNumber_4 ?_
  refine mV_icmp_eq f10_readNumber_5 (fun h0 => ?_) (fun h0 => ?_)
  · rw [if_pos h0] at hr
    refine mV_aload f10_readNumber_14 rfl ?_
    refine mV_aload f10_readNumber_15 rfl ?_
    refine mV_gI (I 119 19) f10_readNumber_16 (by decide) kk_119 rfl rfl ?_
    refine mV_iload f10_readNumber_19 rfl ?_
    refine mV_iload f10_readNumber_20 rfl ?_
    refine mV_cV f10_readNumber_21 tg_m10_isIn mCls10 (by decide) kk_119 (mC_deep (c10_isIn X I s (I 119 19) x0 x1 rfl) (by decide)) rfl rfl (Nat.le_of_ble_eq_true rfl) ?_
    refine mV_if_ne f10_readNumber_24 (fun h1 => ?_) (fun h1 => ?_)
    · rw [if_neg h1] at hr
      refine mV_aload f10_readNumber_33 rfl ?_
      refine mV_gI (I 119 19) f10_readNumber_34 (by decide) kk_119 rfl rfl ?_
      refine mV_istore (L' := [.ref 119, .int x0, .int x1, .int (I 119 19)]) f10_readNumber_37 (by decide) rfl rfl ?_
      refine mV_aload f10_readNumber_38 rfl ?_
      obtain ⟨z0, hz0, hr⟩ := mBind hr
      refine mV_cV f10_readNumber_39 tg_m10_reads mCls10 (by decide) kk_119 (mC_deep (c10_reads X I s hz0) (by decide)) rfl rfl (Nat.le_of_ble_eq_true rfl) ?_
      refine mV_iload f10_readNumber_42 rfl ?_
      have hr := Option.some.inj hr; subst hr
      exact mV_iret rfl rfl f10_readNumber_43 hQ
    · rw [if_pos h1] at hr
      refine mV_aload f10_readNumber_27 rfl ?_
      refine mV_push f10_readNumber_28 ?_
      obtain ⟨z1, hz1, hr⟩ := mBind hr
      refine mV_cV f10_readNumber_29 tg_m10_errs mCls10 (by decide) kk_119 (mC_deep (c10_errs X I s 2 hz1) (by decide)) rfl rfl (Nat.le_of_ble_eq_true rfl) ?_
      have hr := Option.some.inj hr; subst hr
      exact mV_iret rfl rfl f10_readNumber_32 hQ
  · rw [if_neg h0] at hr
    refine mV_aload f10_readNumber_8 rfl ?_
    refine mV_push f10_readNumber_9 ?_
    obtain ⟨z2, hz2, hr⟩ := mBind hr
    refine mV_cV f10_readNumber_10 tg_m10_errs mCls10 (by decide) kk_119 (mC_deep (c10_errs X I s 1 hz2) (by decide)) rfl rfl (Nat.le_of_ble_eq_true rfl) ?_
    have hr := Option.some.inj hr; subst hr
    exact mV_iret rfl rfl f10_readNumber_13 hQ
theorem c10_readNumber (X : Nat × (Nat → Int32)) (I : mI) (s : Nat) (x0 : Int32) (x1 : Int32) {res : Int32 × mI} (hr : r10_readNumber I x0 x1 = some res) : mC X m10_readNumber 3 0 0 [.ref 119, .int x0, .int x1] NN KK I (PP s) (mRet (some (.int res.1)) NN KK res.2 (PP s)) :=
  mC_of (L0 := [.ref 119, .int x0, .int x1, mX0]) rfl (Nat.le_of_ble_eq_true rfl) (w10_readNumber X I s x0 x1 _ hr (mRet_ok _ _ _ _ _))
def r10_readMark (I : mI) (x0 : Int32) : Option (Int32 × mI) := if ((r10_isSign I x0) : Int32) = (0 : Int32) then (r10_errs I 1).bind fun z1 => some (z1.1, z1.2) else (r10_reads I).bind fun z0 => some (0, z0)
set_option maxHeartbeats 4000000 in
set_option maxRecDepth 100000 in
theorem w10_readMark (X : Nat × (Nat → Int32)) (I : mI) (s : Nat) (x0 : Int32) (Q : mQ) {res : Int32 × mI} (hr : r10_readMark I x0 = some res) (hQ : Q (some (.int res.1)) NN KK res.2 (PP s)) : mV X m10_readMark 3 0 0 0 [.ref 119, .int x0] [] NN KK I (PP s) Q := by
  unfold r10_readMark at hr
  refine mV_aload f10_readMark_0 rfl ?_
  refine mV_iload f10_readMark_1 rfl ?_
  refine mV_cV f10_readMark_2 tg_m10_isSign mCls10 (by decide) kk_119 (mC_deep (c10_isSign X I s x0 rfl) (by decide)) rfl rfl (Nat.le_of_ble_eq_true rfl) ?_
  refine mV_if_ne f10_readMark_5 (fun h0 => ?_) (fun h0 => ?_)
  · rw [if_neg h0] at hr
    refine mV_aload f10_readMark_14 rfl ?_
    obtain ⟨z0, hz0, hr⟩ := mBind hr
    refine mV_cV f10_readMark_15 tg_m10_reads mCls10 (by decide) kk_119 (mC_deep (c10_reads X I s hz0) (by decide)) rfl rfl (Nat.le_of_ble_eq_true rfl) ?_
    refine mV_push f10_readMark_18 ?_
    have hr := Option.some.inj hr; subst hr
    exact mV_iret rfl rfl f10_readMark_19 hQ
  · rw [if_pos h0] at hr
    refine mV_aload f10_readMark_8 rfl ?_
    refine mV_push f10_readMark_9 ?_
    obtain ⟨z1, hz1, hr⟩ := mBind hr
    refine mV_cV f10_readMark_10 tg_m10_errs mCls10 (by decide) kk_119 (mC_deep (c10_errs X I s 1 hz1) (by decide)) rfl rfl (Nat.le_of_ble_eq_true rfl) ?_
    have hr := Option.some.inj hr; subst hr
    exact mV_iret rfl rfl f10_readMark_13 hQ
theorem c10_readMark (X : Nat × (Nat → Int32)) (I : mI) (s : Nat) (x0 : Int32) {res : Int32 × mI} (hr : r10_readMark I x0 = some res) : mC X m10_readMark 3 0 0 [.ref 119, .int x0] NN KK I (PP s) (mRet (some (.int res.1)) NN KK res.2 (PP s)) :=
  mC_of (L0 := [.ref 119, .int x0]) rfl (Nat.le_of_ble_eq_true rfl) (w10_readMark X I s x0 _ hr (mRet_ok _ _ _ _ _))
def r10_readTold (I : mI) (x0 : Int32) (x1 : Int32) (x2 : Int32) : Option (Int32 × mI) := if ((r10_isWord I x0) : Int32) = (0 : Int32) then (r10_errs I 1).bind fun z2 => some (z2.1, z2.2) else (r10_reads I).bind fun z0 => (r10_readNumber z0 x1 x2).bind fun z1 => some (z1.1, z1.2)
set_option maxHeartbeats 4000000 in
set_option maxRecDepth 100000 in
theorem w10_readTold (X : Nat × (Nat → Int32)) (I : mI) (s : Nat) (x0 : Int32) (x1 : Int32) (x2 : Int32) (Q : mQ) {res : Int32 × mI} (hr : r10_readTold I x0 x1 x2 = some res) (hQ : Q (some (.int res.1)) NN KK res.2 (PP s)) : mV X m10_readTold 4 0 0 0 [.ref 119, .int x0, .int x1, .int x2] [] NN KK I (PP s) Q := by
  unfold r10_readTold at hr
  refine mV_aload f10_readTold_0 rfl ?_
  refine mV_iload f10_readTold_1 rfl ?_
  refine mV_cV f10_readTold_2 tg_m10_isWord mCls10 (by decide) kk_119 (mC_deep (c10_isWord X I s x0 rfl) (by decide)) rfl rfl (Nat.le_of_ble_eq_true rfl) ?_
  refine mV_if_ne f10_readTold_5 (fun h0 => ?_) (fun h0 => ?_)
  · rw [if_neg h0] at hr
    refine mV_aload f10_readTold_14 rfl ?_
    obtain ⟨z0, hz0, hr⟩ := mBind hr
    refine mV_cV f10_readTold_15 tg_m10_reads mCls10 (by decide) kk_119 (mC_deep (c10_reads X I s hz0) (by decide)) rfl rfl (Nat.le_of_ble_eq_true rfl) ?_
    refine mV_aload f10_readTold_18 rfl ?_
    refine mV_iload f10_readTold_19 rfl ?_
    refine mV_iload f10_readTold_20 rfl ?_
    obtain ⟨z1, hz1, hr⟩ := mBind hr
    refine mV_cV f10_readTold_21 tg_m10_readNumber mCls10 (by decide) kk_119 (mC_deep (c10_readNumber X z0 s x1 x2 hz1) (by decide)) rfl rfl (Nat.le_of_ble_eq_true rfl) ?_
    have hr := Option.some.inj hr; subst hr
    exact mV_iret rfl rfl f10_readTold_24 hQ
  · rw [if_pos h0] at hr
    refine mV_aload f10_readTold_8 rfl ?_
    refine mV_push f10_readTold_9 ?_
    obtain ⟨z2, hz2, hr⟩ := mBind hr
    refine mV_cV f10_readTold_10 tg_m10_errs mCls10 (by decide) kk_119 (mC_deep (c10_errs X I s 1 hz2) (by decide)) rfl rfl (Nat.le_of_ble_eq_true rfl) ?_
    have hr := Option.some.inj hr; subst hr
    exact mV_iret rfl rfl f10_readTold_13 hQ
theorem c10_readTold (X : Nat × (Nat → Int32)) (I : mI) (s : Nat) (x0 : Int32) (x1 : Int32) (x2 : Int32) {res : Int32 × mI} (hr : r10_readTold I x0 x1 x2 = some res) : mC X m10_readTold 4 0 0 [.ref 119, .int x0, .int x1, .int x2] NN KK I (PP s) (mRet (some (.int res.1)) NN KK res.2 (PP s)) :=
  mC_of (L0 := [.ref 119, .int x0, .int x1, .int x2]) rfl (Nat.le_of_ble_eq_true rfl) (w10_readTold X I s x0 x1 x2 _ hr (mRet_ok _ _ _ _ _))
def l10_readPieces_21 (k1 : Int32) : Nat → Int32 → mI → Option ((Int32 × mI) ⊕ (Int32 × mI))
  | 0, _, _ => none
  | f + 1, y2, I => if (y2 : Int32) = (0 : Int32) then if (y2 : Int32) = (6 : Int32) then if ((r10_isIn (I 119 19) 0 (I 119 6 - 1)) : Int32) = (0 : Int32) then (r10_readNumber I 0 (I 119 6 - 1)).bind fun z2 => if (z2.1 : Int32) = ((-1) : Int32) then some (.inl ((-1), z2.2)) else (mSto z2.2 139 288 ((k1 + 3) + y2) z2.1).bind fun z3 => l10_readPieces_21 k1 f (y2 + 1) z3 else (r10_errs I 3).bind fun z4 => some (.inl (z4.1, z4.2)) else (r10_readNumber I 0 (I 119 6 - 1)).bind fun z0 => if (z0.1 : Int32) = ((-1) : Int32) then some (.inl ((-1), z0.2)) else (mSto z0.2 139 288 ((k1 + 3) + y2) z0.1).bind fun z1 => l10_readPieces_21 k1 f (y2 + 1) z1 else if (I 119 18 : Int32) = (3 : Int32) then if (y2 : Int32) = (6 : Int32) then if ((r10_isIn (I 119 19) 0 (I 119 6 - 1)) : Int32) = (0 : Int32) then (r10_readNumber I 0 (I 119 6 - 1)).bind fun z7 => if (z7.1 : Int32) = ((-1) : Int32) then some (.inl ((-1), z7.2)) else (mSto z7.2 139 288 ((k1 + 3) + y2) z7.1).bind fun z8 => l10_readPieces_21 k1 f (y2 + 1) z8 else (r10_errs I 3).bind fun z9 => some (.inl (z9.1, z9.2)) else (r10_readNumber I 0 (I 119 6 - 1)).bind fun z5 => if (z5.1 : Int32) = ((-1) : Int32) then some (.inl ((-1), z5.2)) else (mSto z5.2 139 288 ((k1 + 3) + y2) z5.1).bind fun z6 => l10_readPieces_21 k1 f (y2 + 1) z6 else some (.inr (y2, I))
def r10_readPieces (I : mI) (x0 : Int32) : Option (Int32 × mI) := if ((r10_isWord I 21) : Int32) = (0 : Int32) then (r10_errs I 1).bind fun z3 => some (z3.1, z3.2) else (r10_reads I).bind fun z0 => (l10_readPieces_21 x0 FU 0 z0).bind fun z1 => match z1 with | .inl rz1 => some rz1 | .inr wz1 => (mSto wz1.2 139 288 (x0 + 2) wz1.1).bind fun z2 => some (wz1.1, z2)
set_option maxHeartbeats 4000000 in
set_option maxRecDepth 100000 in
theorem t10_readPieces_21 (X : Nat × (Nat → Int32)) (Q : mQ) (s : Nat) (k1 : Int32) : ∀ (f : Nat) (y2 : Int32) (I : mI) (z : (Int32 × mI) ⊕ (Int32 × mI)), l10_readPieces_21 k1 f y2 I = some z → (∀ res, z = .inl res → Q (some (.int res.1)) NN KK res.2 (PP s)) → (∀ w, z = .inr w → mV X m10_readPieces 4 0 0 100 [.ref 119, .int k1, .int w.1, mX0] [] NN KK w.2 (PP s) Q) → mV X m10_readPieces 4 0 0 21 [.ref 119, .int k1, .int y2, mX0] [] NN KK I (PP s) Q := by
  intro f
  induction f with
  | zero => intro y2 I z hr hret hk; cases hr
  | succ f ih =>
    intro y2 I z hr hret hk
    unfold l10_readPieces_21 at hr
    refine mV_iload f10_readPieces_21 rfl ?_
    refine mV_if_eq f10_readPieces_22 (fun h0 => ?_) (fun h0 => ?_)
    · rw [if_pos h0] at hr
      refine mV_iload f10_readPieces_33 rfl ?_
      refine mV_push f10_readPieces_34 ?_
      refine mV_icmp_ne f10_readPieces_36 (fun h1 => ?_) (fun h1 => ?_)
      · rw [if_neg h1] at hr
        refine mV_aload f10_readPieces_63 rfl ?_
        refine mV_push f10_readPieces_64 ?_
        refine mV_aload f10_readPieces_65 rfl ?_
        refine mV_gI (I 119 6) f10_readPieces_66 (by decide) kk_119 rfl rfl ?_
        refine mV_push f10_readPieces_69 ?_
        refine mV_isub f10_readPieces_70 ?_
        obtain ⟨z0, hz0, hr⟩ := mBind hr
        refine mV_cV f10_readPieces_71 tg_m10_readNumber mCls10 (by decide) kk_119 (mC_deep (c10_readNumber X I s 0 (I 119 6 - 1) hz0) (by decide)) rfl rfl (Nat.le_of_ble_eq_true rfl) ?_
        refine mV_istore (L' := [.ref 119, .int k1, .int y2, .int z0.1]) f10_readPieces_74 (by decide) rfl rfl ?_
        refine mV_iload f10_readPieces_75 rfl ?_
        refine mV_push f10_readPieces_76 ?_
        refine mV_icmp_ne f10_readPieces_77 (fun h2 => ?_) (fun h2 => ?_)
        · rw [if_neg h2] at hr
          refine mV_aload f10_readPieces_82 rfl ?_
          refine mV_getP f10_readPieces_83 (by decide) kk_119 rfl (pp_119_38 _) ?_
          refine mV_iload f10_readPieces_86 rfl ?_
          refine mV_push f10_readPieces_87 ?_
          refine mV_iadd f10_readPieces_88 ?_
          refine mV_iload f10_readPieces_89 rfl ?_
          refine mV_iadd f10_readPieces_90 ?_
          refine mV_iload f10_readPieces_91 rfl ?_
          obtain ⟨z1, hz1, hr⟩ := mBind hr
          refine mV_stO f10_readPieces_92 (by decide) kk_139 hz1 ?_
          refine mV_iload f10_readPieces_93 rfl ?_
          refine mV_push f10_readPieces_94 ?_
          refine mV_iadd f10_readPieces_95 ?_
          refine mV_istore (L' := [.ref 119, .int k1, .int (y2 + 1), .int z0.1]) f10_readPieces_96 (by decide) rfl rfl ?_
          refine mV_goto f10_readPieces_97 ?_
          refine mV_drop (L' := [.ref 119, .int k1, .int (y2 + 1), mX0]) (mSub_k (mSub_k (mSub_k (mSub_x mSub_n)))) ?_
          exact ih (y2 + 1) z1 _ hr hret hk
        · rw [if_pos h2] at hr
          refine mV_push f10_readPieces_80 ?_
          have hr := Option.some.inj hr; subst hr; have hQ := hret _ rfl
          exact mV_iret rfl rfl f10_readPieces_81 hQ
      · rw [if_pos h1] at hr
        refine mV_aload f10_readPieces_39 rfl ?_
        refine mV_aload f10_readPieces_40 rfl ?_
        refine mV_gI (I 119 19) f10_readPieces_41 (by decide) kk_119 rfl rfl ?_
        refine mV_push f10_readPieces_44 ?_
        refine mV_aload f10_readPieces_45 rfl ?_
        refine mV_gI (I 119 6) f10_readPieces_46 (by decide) kk_119 rfl rfl ?_
        refine mV_push f10_readPieces_49 ?_
        refine mV_isub f10_readPieces_50 ?_
        refine mV_cV f10_readPieces_51 tg_m10_isIn mCls10 (by decide) kk_119 (mC_deep (c10_isIn X I s (I 119 19) 0 (I 119 6 - 1) rfl) (by decide)) rfl rfl (Nat.le_of_ble_eq_true rfl) ?_
        refine mV_if_eq f10_readPieces_54 (fun h3 => ?_) (fun h3 => ?_)
        · rw [if_pos h3] at hr
          refine mV_aload f10_readPieces_63 rfl ?_
          refine mV_push f10_readPieces_64 ?_
          refine mV_aload f10_readPieces_65 rfl ?_
          refine mV_gI (I 119 6) f10_readPieces_66 (by decide) kk_119 rfl rfl ?_
          refine mV_push f10_readPieces_69 ?_
          refine mV_isub f10_readPieces_70 ?_
          obtain ⟨z2, hz2, hr⟩ := mBind hr
          refine mV_cV f10_readPieces_71 tg_m10_readNumber mCls10 (by decide) kk_119 (mC_deep (c10_readNumber X I s 0 (I 119 6 - 1) hz2) (by decide)) rfl rfl (Nat.le_of_ble_eq_true rfl) ?_
          refine mV_istore (L' := [.ref 119, .int k1, .int y2, .int z2.1]) f10_readPieces_74 (by decide) rfl rfl ?_
          refine mV_iload f10_readPieces_75 rfl ?_
          refine mV_push f10_readPieces_76 ?_
          refine mV_icmp_ne f10_readPieces_77 (fun h4 => ?_) (fun h4 => ?_)
          · rw [if_neg h4] at hr
            refine mV_aload f10_readPieces_82 rfl ?_
            refine mV_getP f10_readPieces_83 (by decide) kk_119 rfl (pp_119_38 _) ?_
            refine mV_iload f10_readPieces_86 rfl ?_
            refine mV_push f10_readPieces_87 ?_
            refine mV_iadd f10_readPieces_88 ?_
            refine mV_iload f10_readPieces_89 rfl ?_
            refine mV_iadd f10_readPieces_90 ?_
            refine mV_iload f10_readPieces_91 rfl ?_
            obtain ⟨z3, hz3, hr⟩ := mBind hr
            refine mV_stO f10_readPieces_92 (by decide) kk_139 hz3 ?_
            refine mV_iload f10_readPieces_93 rfl ?_
            refine mV_push f10_readPieces_94 ?_
            refine mV_iadd f10_readPieces_95 ?_
            refine mV_istore (L' := [.ref 119, .int k1, .int (y2 + 1), .int z2.1]) f10_readPieces_96 (by decide) rfl rfl ?_
            refine mV_goto f10_readPieces_97 ?_
            refine mV_drop (L' := [.ref 119, .int k1, .int (y2 + 1), mX0]) (mSub_k (mSub_k (mSub_k (mSub_x mSub_n)))) ?_
            exact ih (y2 + 1) z3 _ hr hret hk
          · rw [if_pos h4] at hr
            refine mV_push f10_readPieces_80 ?_
            have hr := Option.some.inj hr; subst hr; have hQ := hret _ rfl
            exact mV_iret rfl rfl f10_readPieces_81 hQ
        · rw [if_neg h3] at hr
          refine mV_aload f10_readPieces_57 rfl ?_
          refine mV_push f10_readPieces_58 ?_
          obtain ⟨z4, hz4, hr⟩ := mBind hr
          refine mV_cV f10_readPieces_59 tg_m10_errs mCls10 (by decide) kk_119 (mC_deep (c10_errs X I s 3 hz4) (by decide)) rfl rfl (Nat.le_of_ble_eq_true rfl) ?_
          have hr := Option.some.inj hr; subst hr; have hQ := hret _ rfl
          exact mV_iret rfl rfl f10_readPieces_62 hQ
    · rw [if_neg h0] at hr
      refine mV_aload f10_readPieces_25 rfl ?_
      refine mV_gI (I 119 18) f10_readPieces_26 (by decide) kk_119 rfl rfl ?_
      refine mV_push f10_readPieces_29 ?_
      refine mV_icmp_ne f10_readPieces_30 (fun h5 => ?_) (fun h5 => ?_)
      · rw [if_neg h5] at hr
        have hr := Option.some.inj hr; subst hr
        exact hk _ rfl
      · rw [if_pos h5] at hr
        refine mV_iload f10_readPieces_33 rfl ?_
        refine mV_push f10_readPieces_34 ?_
        refine mV_icmp_ne f10_readPieces_36 (fun h6 => ?_) (fun h6 => ?_)
        · rw [if_neg h6] at hr
          refine mV_aload f10_readPieces_63 rfl ?_
          refine mV_push f10_readPieces_64 ?_
          refine mV_aload f10_readPieces_65 rfl ?_
          refine mV_gI (I 119 6) f10_readPieces_66 (by decide) kk_119 rfl rfl ?_
          refine mV_push f10_readPieces_69 ?_
          refine mV_isub f10_readPieces_70 ?_
          obtain ⟨z5, hz5, hr⟩ := mBind hr
          refine mV_cV f10_readPieces_71 tg_m10_readNumber mCls10 (by decide) kk_119 (mC_deep (c10_readNumber X I s 0 (I 119 6 - 1) hz5) (by decide)) rfl rfl (Nat.le_of_ble_eq_true rfl) ?_
          refine mV_istore (L' := [.ref 119, .int k1, .int y2, .int z5.1]) f10_readPieces_74 (by decide) rfl rfl ?_
          refine mV_iload f10_readPieces_75 rfl ?_
          refine mV_push f10_readPieces_76 ?_
          refine mV_icmp_ne f10_readPieces_77 (fun h7 => ?_) (fun h7 => ?_)
          · rw [if_neg h7] at hr
            refine mV_aload f10_readPieces_82 rfl ?_
            refine mV_getP f10_readPieces_83 (by decide) kk_119 rfl (pp_119_38 _) ?_
            refine mV_iload f10_readPieces_86 rfl ?_
            refine mV_push f10_readPieces_87 ?_
            refine mV_iadd f10_readPieces_88 ?_
            refine mV_iload f10_readPieces_89 rfl ?_
            refine mV_iadd f10_readPieces_90 ?_
            refine mV_iload f10_readPieces_91 rfl ?_
            obtain ⟨z6, hz6, hr⟩ := mBind hr
            refine mV_stO f10_readPieces_92 (by decide) kk_139 hz6 ?_
            refine mV_iload f10_readPieces_93 rfl ?_
            refine mV_push f10_readPieces_94 ?_
            refine mV_iadd f10_readPieces_95 ?_
            refine mV_istore (L' := [.ref 119, .int k1, .int (y2 + 1), .int z5.1]) f10_readPieces_96 (by decide) rfl rfl ?_
            refine mV_goto f10_readPieces_97 ?_
            refine mV_drop (L' := [.ref 119, .int k1, .int (y2 + 1), mX0]) (mSub_k (mSub_k (mSub_k (mSub_x mSub_n)))) ?_
            exact ih (y2 + 1) z6 _ hr hret hk
          · rw [if_pos h7] at hr
            refine mV_push f10_readPieces_80 ?_
            have hr := Option.some.inj hr; subst hr; have hQ := hret _ rfl
            exact mV_iret rfl rfl f10_readPieces_81 hQ
        · rw [if_pos h6] at hr
          refine mV_aload f10_readPieces_39 rfl ?_
          refine mV_aload f10_readPieces_40 rfl ?_
          refine mV_gI (I 119 19) f10_readPieces_41 (by decide) kk_119 rfl rfl ?_
          refine mV_push f10_readPieces_44 ?_
          refine mV_aload f10_readPieces_45 rfl ?_
          refine mV_gI (I 119 6) f10_readPieces_46 (by decide) kk_119 rfl rfl ?_
          refine mV_push f10_readPieces_49 ?_
          refine mV_isub f10_readPieces_50 ?_
          refine mV_cV f10_readPieces_51 tg_m10_isIn mCls10 (by decide) kk_119 (mC_deep (c10_isIn X I s (I 119 19) 0 (I 119 6 - 1) rfl) (by decide)) rfl rfl (Nat.le_of_ble_eq_true rfl) ?_
          refine mV_if_eq f10_readPieces_54 (fun h8 => ?_) (fun h8 => ?_)
          · rw [if_pos h8] at hr
            refine mV_aload f10_readPieces_63 rfl ?_
            refine mV_push f10_readPieces_64 ?_
            refine mV_aload f10_readPieces_65 rfl ?_
            refine mV_gI (I 119 6) f10_readPieces_66 (by decide) kk_119 rfl rfl ?_
            refine mV_push f10_readPieces_69 ?_
            refine mV_isub f10_readPieces_70 ?_
            obtain ⟨z7, hz7, hr⟩ := mBind hr
            refine mV_cV f10_readPieces_71 tg_m10_readNumber mCls10 (by decide) kk_119 (mC_deep (c10_readNumber X I s 0 (I 119 6 - 1) hz7) (by decide)) rfl rfl (Nat.le_of_ble_eq_true rfl) ?_
            refine mV_istore (L' := [.ref 119, .int k1, .int y2, .int z7.1]) f10_readPieces_74 (by decide) rfl rfl ?_
            refine mV_iload f10_readPieces_75 rfl ?_
            refine mV_push f10_readPieces_76 ?_
            refine mV_icmp_ne f10_readPieces_77 (fun h9 => ?_) (fun h9 => ?_)
            · rw [if_neg h9] at hr
              refine mV_aload f10_readPieces_82 rfl ?_
              refine mV_getP f10_readPieces_83 (by decide) kk_119 rfl (pp_119_38 _) ?_
              refine mV_iload f10_readPieces_86 rfl ?_
              refine mV_push f10_readPieces_87 ?_
              refine mV_iadd f10_readPieces_88 ?_
              refine mV_iload f10_readPieces_89 rfl ?_
              refine mV_iadd f10_readPieces_90 ?_
              refine mV_iload f10_readPieces_91 rfl ?_
              obtain ⟨z8, hz8, hr⟩ := mBind hr
              refine mV_stO f10_readPieces_92 (by decide) kk_139 hz8 ?_
              refine mV_iload f10_readPieces_93 rfl ?_
              refine mV_push f10_readPieces_94 ?_
              refine mV_iadd f10_readPieces_95 ?_
              refine mV_istore (L' := [.ref 119, .int k1, .int (y2 + 1), .int z7.1]) f10_readPieces_96 (by decide) rfl rfl ?_
              refine mV_goto f10_readPieces_97 ?_
              refine mV_drop (L' := [.ref 119, .int k1, .int (y2 + 1), mX0]) (mSub_k (mSub_k (mSub_k (mSub_x mSub_n)))) ?_
              exact ih (y2 + 1) z8 _ hr hret hk
            · rw [if_pos h9] at hr
              refine mV_push f10_readPieces_80 ?_
              have hr := Option.some.inj hr; subst hr; have hQ := hret _ rfl
              exact mV_iret rfl rfl f10_readPieces_81 hQ
          · rw [if_neg h8] at hr
            refine mV_aload f10_readPieces_57 rfl ?_
            refine mV_push f10_readPieces_58 ?_
            obtain ⟨z9, hz9, hr⟩ := mBind hr
            refine mV_cV f10_readPieces_59 tg_m10_errs mCls10 (by decide) kk_119 (mC_deep (c10_errs X I s 3 hz9) (by decide)) rfl rfl (Nat.le_of_ble_eq_true rfl) ?_
            have hr := Option.some.inj hr; subst hr; have hQ := hret _ rfl
            exact mV_iret rfl rfl f10_readPieces_62 hQ
set_option maxHeartbeats 4000000 in
set_option maxRecDepth 100000 in
theorem w10_readPieces (X : Nat × (Nat → Int32)) (I : mI) (s : Nat) (x0 : Int32) (Q : mQ) {res : Int32 × mI} (hr : r10_readPieces I x0 = some res) (hQ : Q (some (.int res.1)) NN KK res.2 (PP s)) : mV X m10_readPieces 4 0 0 0 [.ref 119, .int x0, mX0, mX0] [] NN KK I (PP s) Q := by
  unfold r10_readPieces at hr
  refine mV_aload f10_readPieces_0 rfl ?_
  refine mV_push f10_readPieces_1 ?_
  refine mV_cV f10_readPieces_3 tg_m10_isWord mCls10 (by decide) kk_119 (mC_deep (c10_isWord X I s 21 rfl) (by decide)) rfl rfl (Nat.le_of_ble_eq_true rfl) ?_
  refine mV_if_ne f10_readPieces_6 (fun h0 => ?_) (fun h0 => ?_)
  · rw [if_neg h0] at hr
    refine mV_aload f10_readPieces_15 rfl ?_
    obtain ⟨z0, hz0, hr⟩ := mBind hr
    refine mV_cV f10_readPieces_16 tg_m10_reads mCls10 (by decide) kk_119 (mC_deep (c10_reads X I s hz0) (by decide)) rfl rfl (Nat.le_of_ble_eq_true rfl) ?_
    refine mV_push f10_readPieces_19 ?_
    refine mV_istore (L' := [.ref 119, .int x0, .int 0, mX0]) f10_readPieces_20 (by decide) rfl rfl ?_
    obtain ⟨z1, hz1, hr⟩ := mBind hr
    refine t10_readPieces_21 X Q s x0 FU 0 z0 _ hz1 (fun res ez1 => ?_) (fun wz1 ez1 => ?_)
    · rw [ez1] at hr; have hr := Option.some.inj hr; subst hr; exact hQ
    rw [ez1] at hr
    dsimp only at hr
    refine mV_aload f10_readPieces_100 rfl ?_
    refine mV_getP f10_readPieces_101 (by decide) kk_119 rfl (pp_119_38 _) ?_
    refine mV_iload f10_readPieces_104 rfl ?_
    refine mV_push f10_readPieces_105 ?_
    refine mV_iadd f10_readPieces_106 ?_
    refine mV_iload f10_readPieces_107 rfl ?_
    obtain ⟨z2, hz2, hr⟩ := mBind hr
    refine mV_stO f10_readPieces_108 (by decide) kk_139 hz2 ?_
    refine mV_iload f10_readPieces_109 rfl ?_
    have hr := Option.some.inj hr; subst hr
    exact mV_iret rfl rfl f10_readPieces_110 hQ
  · rw [if_pos h0] at hr
    refine mV_aload f10_readPieces_9 rfl ?_
    refine mV_push f10_readPieces_10 ?_
    obtain ⟨z3, hz3, hr⟩ := mBind hr
    refine mV_cV f10_readPieces_11 tg_m10_errs mCls10 (by decide) kk_119 (mC_deep (c10_errs X I s 1 hz3) (by decide)) rfl rfl (Nat.le_of_ble_eq_true rfl) ?_
    have hr := Option.some.inj hr; subst hr
    exact mV_iret rfl rfl f10_readPieces_14 hQ
theorem c10_readPieces (X : Nat × (Nat → Int32)) (I : mI) (s : Nat) (x0 : Int32) {res : Int32 × mI} (hr : r10_readPieces I x0 = some res) : mC X m10_readPieces 4 0 0 [.ref 119, .int x0] NN KK I (PP s) (mRet (some (.int res.1)) NN KK res.2 (PP s)) :=
  mC_of (L0 := [.ref 119, .int x0, mX0, mX0]) rfl (Nat.le_of_ble_eq_true rfl) (w10_readPieces X I s x0 _ hr (mRet_ok _ _ _ _ _))
def r10_readEvening (I : mI) (x0 : Int32) : Option (Int32 × mI) := (r10_readTold I 19 0 999).bind fun z0 => (mSto z0.2 139 288 x0 z0.1).bind fun z1 => (mLd z1 139 288 x0).bind fun z2 => if (z2 : Int32) = ((-1) : Int32) then some ((-1), z1) else (r10_readTold z1 20 0 (z1 119 7 - 1)).bind fun z3 => (mSto z3.2 139 288 (x0 + 1) z3.1).bind fun z4 => (mLd z4 139 288 (x0 + 1)).bind fun z5 => if (z5 : Int32) = ((-1) : Int32) then some ((-1), z4) else (r10_readPieces z4 x0).bind fun z6 => if (z6.1 : Int32) = ((-1) : Int32) then some ((-1), z6.2) else (r10_readMark z6.2 59).bind fun z7 => some (z7.1, z7.2)
set_option maxHeartbeats 4000000 in
set_option maxRecDepth 100000 in
theorem w10_readEvening (X : Nat × (Nat → Int32)) (I : mI) (s : Nat) (x0 : Int32) (Q : mQ) {res : Int32 × mI} (hr : r10_readEvening I x0 = some res) (hQ : Q (some (.int res.1)) NN KK res.2 (PP s)) : mV X m10_readEvening 5 0 0 0 [.ref 119, .int x0] [] NN KK I (PP s) Q := by
  unfold r10_readEvening at hr
  refine mV_aload f10_readEvening_0 rfl ?_
  refine mV_getP f10_readEvening_1 (by decide) kk_119 rfl (pp_119_38 _) ?_
  refine mV_iload f10_readEvening_4 rfl ?_
  refine mV_aload f10_readEvening_5 rfl ?_
  refine mV_push f10_readEvening_6 ?_
  refine mV_push f10_readEvening_8 ?_
  refine mV_push f10_readEvening_9 ?_
  obtain ⟨z0, hz0, hr⟩ := mBind hr
  refine mV_cV f10_readEvening_12 tg_m10_readTold mCls10 (by decide) kk_119 (mC_deep (c10_readTold X I s 19 0 999 hz0) (by decide)) rfl rfl (Nat.le_of_ble_eq_true rfl) ?_
  obtain ⟨z1, hz1, hr⟩ := mBind hr
  refine mV_stO f10_readEvening_15 (by decide) kk_139 hz1 ?_
  refine mV_aload f10_readEvening_16 rfl ?_
  refine mV_getP f10_readEvening_17 (by decide) kk_119 rfl (pp_119_38 _) ?_
  refine mV_iload f10_readEvening_20 rfl ?_
  obtain ⟨z2, hz2, hr⟩ := mBind hr
  refine mV_ldO f10_readEvening_21 (by decide) kk_139 hz2 ?_
  refine mV_push f10_readEvening_22 ?_
  refine mV_icmp_ne f10_readEvening_23 (fun h0 => ?_) (fun h0 => ?_)
  · rw [if_neg h0] at hr
    refine mV_aload f10_readEvening_28 rfl ?_
    refine mV_getP f10_readEvening_29 (by decide) kk_119 rfl (pp_119_38 _) ?_
    refine mV_iload f10_readEvening_32 rfl ?_
    refine mV_push f10_readEvening_33 ?_
    refine mV_iadd f10_readEvening_34 ?_
    refine mV_aload f10_readEvening_35 rfl ?_
    refine mV_push f10_readEvening_36 ?_
    refine mV_push f10_readEvening_38 ?_
    refine mV_aload f10_readEvening_39 rfl ?_
    refine mV_gI (z1 119 7) f10_readEvening_40 (by decide) kk_119 rfl rfl ?_
    refine mV_push f10_readEvening_43 ?_
    refine mV_isub f10_readEvening_44 ?_
    obtain ⟨z3, hz3, hr⟩ := mBind hr
    refine mV_cV f10_readEvening_45 tg_m10_readTold mCls10 (by decide) kk_119 (mC_deep (c10_readTold X z1 s 20 0 (z1 119 7 - 1) hz3) (by decide)) rfl rfl (Nat.le_of_ble_eq_true rfl) ?_
    obtain ⟨z4, hz4, hr⟩ := mBind hr
    refine mV_stO f10_readEvening_48 (by decide) kk_139 hz4 ?_
    refine mV_aload f10_readEvening_49 rfl ?_
    refine mV_getP f10_readEvening_50 (by decide) kk_119 rfl (pp_119_38 _) ?_
    refine mV_iload f10_readEvening_53 rfl ?_
    refine mV_push f10_readEvening_54 ?_
    refine mV_iadd f10_readEvening_55 ?_
    obtain ⟨z5, hz5, hr⟩ := mBind hr
    refine mV_ldO f10_readEvening_56 (by decide) kk_139 hz5 ?_
    refine mV_push f10_readEvening_57 ?_
    refine mV_icmp_eq f10_readEvening_58 (fun h1 => ?_) (fun h1 => ?_)
    · rw [if_pos h1] at hr
      refine mV_push f10_readEvening_70 ?_
      have hr := Option.some.inj hr; subst hr
      exact mV_iret rfl rfl f10_readEvening_71 hQ
    · rw [if_neg h1] at hr
      refine mV_aload f10_readEvening_61 rfl ?_
      refine mV_iload f10_readEvening_62 rfl ?_
      obtain ⟨z6, hz6, hr⟩ := mBind hr
      refine mV_cV f10_readEvening_63 tg_m10_readPieces mCls10 (by decide) kk_119 (mC_deep (c10_readPieces X z4 s x0 hz6) (by decide)) rfl rfl (Nat.le_of_ble_eq_true rfl) ?_
      refine mV_push f10_readEvening_66 ?_
      refine mV_icmp_ne f10_readEvening_67 (fun h2 => ?_) (fun h2 => ?_)
      · rw [if_neg h2] at hr
        refine mV_aload f10_readEvening_72 rfl ?_
        refine mV_push f10_readEvening_73 ?_
        obtain ⟨z7, hz7, hr⟩ := mBind hr
        refine mV_cV f10_readEvening_75 tg_m10_readMark mCls10 (by decide) kk_119 (mC_deep (c10_readMark X z6.2 s 59 hz7) (by decide)) rfl rfl (Nat.le_of_ble_eq_true rfl) ?_
        have hr := Option.some.inj hr; subst hr
        exact mV_iret rfl rfl f10_readEvening_78 hQ
      · rw [if_pos h2] at hr
        refine mV_push f10_readEvening_70 ?_
        have hr := Option.some.inj hr; subst hr
        exact mV_iret rfl rfl f10_readEvening_71 hQ
  · rw [if_pos h0] at hr
    refine mV_push f10_readEvening_26 ?_
    have hr := Option.some.inj hr; subst hr
    exact mV_iret rfl rfl f10_readEvening_27 hQ
theorem c10_readEvening (X : Nat × (Nat → Int32)) (I : mI) (s : Nat) (x0 : Int32) {res : Int32 × mI} (hr : r10_readEvening I x0 = some res) : mC X m10_readEvening 5 0 0 [.ref 119, .int x0] NN KK I (PP s) (mRet (some (.int res.1)) NN KK res.2 (PP s)) :=
  mC_of (L0 := [.ref 119, .int x0]) rfl (Nat.le_of_ble_eq_true rfl) (w10_readEvening X I s x0 _ hr (mRet_ok _ _ _ _ _))
def l10_readProgramme_2 : Nat → Int32 → mI → Option ((Int32 × mI) ⊕ (Int32 × mI))
  | 0, _, _ => none
  | f + 1, y1, I => if ((r10_isWord I 19) : Int32) = (0 : Int32) then some (.inr (y1, I)) else if (y1 : Int32) = (16 : Int32) then (r10_errs I 3).bind fun z1 => some (.inl (z1.1, z1.2)) else (r10_readEvening I (144 + (9 * y1))).bind fun z0 => if (z0.1 : Int32) = ((-1) : Int32) then some (.inl ((-1), z0.2)) else l10_readProgramme_2 f (y1 + 1) z0.2
def r10_readProgramme (I : mI) : Option (Int32 × mI) := (l10_readProgramme_2 FU 0 I).bind fun z0 => match z0 with | .inl rz0 => some rz0 | .inr wz0 => (if (wz0.2 119 18 : Int32) = (0 : Int32) then some (wz0.1, wz0.2) else (r10_errs wz0.2 1).bind fun z2 => some (z2.1, z2.2) : Option (Int32 × mI)).bind fun z1 => some (z1.1, z1.2)
set_option maxHeartbeats 4000000 in
set_option maxRecDepth 100000 in
theorem t10_readProgramme_2 (X : Nat × (Nat → Int32)) (Q : mQ) (s : Nat) : ∀ (f : Nat) (y1 : Int32) (I : mI) (z : (Int32 × mI) ⊕ (Int32 × mI)), l10_readProgramme_2 f y1 I = some z → (∀ res, z = .inl res → Q (some (.int res.1)) NN KK res.2 (PP s)) → (∀ w, z = .inr w → mV X m10_readProgramme 6 0 0 48 [.ref 119, .int w.1] [] NN KK w.2 (PP s) Q) → mV X m10_readProgramme 6 0 0 2 [.ref 119, .int y1] [] NN KK I (PP s) Q := by
  intro f
  induction f with
  | zero => intro y1 I z hr hret hk; cases hr
  | succ f ih =>
    intro y1 I z hr hret hk
    unfold l10_readProgramme_2 at hr
    refine mV_aload f10_readProgramme_2 rfl ?_
    refine mV_push f10_readProgramme_3 ?_
    refine mV_cV f10_readProgramme_5 tg_m10_isWord mCls10 (by decide) kk_119 (mC_deep (c10_isWord X I s 19 rfl) (by decide)) rfl rfl (Nat.le_of_ble_eq_true rfl) ?_
    refine mV_if_eq f10_readProgramme_8 (fun h0 => ?_) (fun h0 => ?_)
    · rw [if_pos h0] at hr
      have hr := Option.some.inj hr; subst hr
      exact hk _ rfl
    · rw [if_neg h0] at hr
      refine mV_iload f10_readProgramme_11 rfl ?_
      refine mV_push f10_readProgramme_12 ?_
      refine mV_icmp_ne f10_readProgramme_14 (fun h1 => ?_) (fun h1 => ?_)
      · rw [if_neg h1] at hr
        refine mV_aload f10_readProgramme_23 rfl ?_
        refine mV_push f10_readProgramme_24 ?_
        refine mV_push f10_readProgramme_27 ?_
        refine mV_iload f10_readProgramme_29 rfl ?_
        refine mV_imul f10_readProgramme_30 ?_
        refine mV_iadd f10_readProgramme_31 ?_
        obtain ⟨z0, hz0, hr⟩ := mBind hr
        refine mV_cV f10_readProgramme_32 tg_m10_readEvening mCls10 (by decide) kk_119 (mC_deep (c10_readEvening X I s (144 + (9 * y1)) hz0) (by decide)) rfl rfl (Nat.le_of_ble_eq_true rfl) ?_
        refine mV_push f10_readProgramme_35 ?_
        refine mV_icmp_ne f10_readProgramme_36 (fun h2 => ?_) (fun h2 => ?_)
        · rw [if_neg h2] at hr
          refine mV_iload f10_readProgramme_41 rfl ?_
          refine mV_push f10_readProgramme_42 ?_
          refine mV_iadd f10_readProgramme_43 ?_
          refine mV_istore (L' := [.ref 119, .int (y1 + 1)]) f10_readProgramme_44 (by decide) rfl rfl ?_
          refine mV_goto f10_readProgramme_45 ?_
          exact ih (y1 + 1) z0.2 _ hr hret hk
        · rw [if_pos h2] at hr
          refine mV_push f10_readProgramme_39 ?_
          have hr := Option.some.inj hr; subst hr; have hQ := hret _ rfl
          exact mV_iret rfl rfl f10_readProgramme_40 hQ
      · rw [if_pos h1] at hr
        refine mV_aload f10_readProgramme_17 rfl ?_
        refine mV_push f10_readProgramme_18 ?_
        obtain ⟨z1, hz1, hr⟩ := mBind hr
        refine mV_cV f10_readProgramme_19 tg_m10_errs mCls10 (by decide) kk_119 (mC_deep (c10_errs X I s 3 hz1) (by decide)) rfl rfl (Nat.le_of_ble_eq_true rfl) ?_
        have hr := Option.some.inj hr; subst hr; have hQ := hret _ rfl
        exact mV_iret rfl rfl f10_readProgramme_22 hQ
set_option maxHeartbeats 4000000 in
set_option maxRecDepth 100000 in
theorem w10_readProgramme (X : Nat × (Nat → Int32)) (I : mI) (s : Nat) (Q : mQ) {res : Int32 × mI} (hr : r10_readProgramme I = some res) (hQ : Q (some (.int res.1)) NN KK res.2 (PP s)) : mV X m10_readProgramme 6 0 0 0 [.ref 119, mX0] [] NN KK I (PP s) Q := by
  unfold r10_readProgramme at hr
  refine mV_push f10_readProgramme_0 ?_
  refine mV_istore (L' := [.ref 119, .int 0]) f10_readProgramme_1 (by decide) rfl rfl ?_
  obtain ⟨z0, hz0, hr⟩ := mBind hr
  refine t10_readProgramme_2 X Q s FU 0 I _ hz0 (fun res ez0 => ?_) (fun wz0 ez0 => ?_)
  · rw [ez0] at hr; have hr := Option.some.inj hr; subst hr; exact hQ
  rw [ez0] at hr
  dsimp only at hr
  refine mV_aload f10_readProgramme_48 rfl ?_
  refine mV_gI (wz0.2 119 18) f10_readProgramme_49 (by decide) kk_119 rfl rfl ?_
  obtain ⟨z1, hz1, hr⟩ := mBind hr
  have keyz1 : mV X m10_readProgramme 6 0 0 64 [.ref 119, mX0] [.int z1.1] NN KK z1.2 (PP s) Q := by
    have hr := Option.some.inj hr; subst hr
    exact mV_iret rfl rfl f10_readProgramme_64 hQ
  clear hr
  have hr := hz1
  clear hz1
  refine mV_if_ne f10_readProgramme_52 (fun h0 => ?_) (fun h0 => ?_)
  · rw [if_neg h0] at hr
    refine mV_aload f10_readProgramme_59 rfl ?_
    refine mV_push f10_readProgramme_60 ?_
    obtain ⟨z2, hz2, hr⟩ := mBind hr
    refine mV_cV f10_readProgramme_61 tg_m10_errs mCls10 (by decide) kk_119 (mC_deep (c10_errs X wz0.2 s 1 hz2) (by decide)) rfl rfl (Nat.le_of_ble_eq_true rfl) ?_
    have hr := Option.some.inj hr; subst hr
    refine mV_drop (L' := [.ref 119, mX0]) (mSub_k (mSub_x mSub_n)) ?_
    exact keyz1
  · rw [if_pos h0] at hr
    refine mV_iload f10_readProgramme_55 rfl ?_
    refine mV_goto f10_readProgramme_56 ?_
    have hr := Option.some.inj hr; subst hr
    refine mV_drop (L' := [.ref 119, mX0]) (mSub_k (mSub_x mSub_n)) ?_
    exact keyz1
theorem c10_readProgramme (X : Nat × (Nat → Int32)) (I : mI) (s : Nat) {res : Int32 × mI} (hr : r10_readProgramme I = some res) : mC X m10_readProgramme 6 0 0 [.ref 119] NN KK I (PP s) (mRet (some (.int res.1)) NN KK res.2 (PP s)) :=
  mC_of (L0 := [.ref 119, mX0]) rfl (Nat.le_of_ble_eq_true rfl) (w10_readProgramme X I s _ hr (mRet_ok _ _ _ _ _))
def r10_kindOfDeed (I : mI) : Int32 := if ((r10_isWord I 15) : Int32) = (0 : Int32) then if ((r10_isWord I 25) : Int32) = (0 : Int32) then if (I 119 18 : Int32) = (2 : Int32) then if ((r10_isIn (I 119 19) 22 24) : Int32) = (0 : Int32) then (-1) else (I 119 19 - 22) else (-1) else 4 else 3
set_option maxHeartbeats 4000000 in
set_option maxRecDepth 100000 in
theorem w10_kindOfDeed (X : Nat × (Nat → Int32)) (I : mI) (s : Nat) (Q : mQ) {res : Int32} (hr : r10_kindOfDeed I = res) (hQ : Q (some (.int res)) NN KK I (PP s)) : mV X m10_kindOfDeed 1 0 0 0 [.ref 119] [] NN KK I (PP s) Q := by
  unfold r10_kindOfDeed at hr
  refine mV_aload f10_kindOfDeed_0 rfl ?_
  refine mV_push f10_kindOfDeed_1 ?_
  refine mV_cV f10_kindOfDeed_3 tg_m10_isWord mCls10 (by decide) kk_119 (mC_deep (c10_isWord X I s 15 rfl) (by decide)) rfl rfl (Nat.le_of_ble_eq_true rfl) ?_
  refine mV_if_eq f10_kindOfDeed_6 (fun h0 => ?_) (fun h0 => ?_)
  · rw [if_pos h0] at hr
    refine mV_aload f10_kindOfDeed_11 rfl ?_
    refine mV_push f10_kindOfDeed_12 ?_
    refine mV_cV f10_kindOfDeed_14 tg_m10_isWord mCls10 (by decide) kk_119 (mC_deep (c10_isWord X I s 25 rfl) (by decide)) rfl rfl (Nat.le_of_ble_eq_true rfl) ?_
    refine mV_if_eq f10_kindOfDeed_17 (fun h1 => ?_) (fun h1 => ?_)
    · rw [if_pos h1] at hr
      refine mV_aload f10_kindOfDeed_22 rfl ?_
      refine mV_gI (I 119 18) f10_kindOfDeed_23 (by decide) kk_119 rfl rfl ?_
      refine mV_push f10_kindOfDeed_26 ?_
      refine mV_icmp_ne f10_kindOfDeed_27 (fun h2 => ?_) (fun h2 => ?_)
      · rw [if_neg h2] at hr
        refine mV_push f10_kindOfDeed_55 ?_
        subst hr
        exact mV_iret rfl rfl f10_kindOfDeed_56 hQ
      · rw [if_pos h2] at hr
        refine mV_aload f10_kindOfDeed_30 rfl ?_
        refine mV_aload f10_kindOfDeed_31 rfl ?_
        refine mV_gI (I 119 19) f10_kindOfDeed_32 (by decide) kk_119 rfl rfl ?_
        refine mV_push f10_kindOfDeed_35 ?_
        refine mV_push f10_kindOfDeed_37 ?_
        refine mV_cV f10_kindOfDeed_39 tg_m10_isIn mCls10 (by decide) kk_119 (mC_deep (c10_isIn X I s (I 119 19) 22 24 rfl) (by decide)) rfl rfl (Nat.le_of_ble_eq_true rfl) ?_
        refine mV_if_eq f10_kindOfDeed_42 (fun h3 => ?_) (fun h3 => ?_)
        · rw [if_pos h3] at hr
          refine mV_push f10_kindOfDeed_55 ?_
          subst hr
          exact mV_iret rfl rfl f10_kindOfDeed_56 hQ
        · rw [if_neg h3] at hr
          refine mV_aload f10_kindOfDeed_45 rfl ?_
          refine mV_gI (I 119 19) f10_kindOfDeed_46 (by decide) kk_119 rfl rfl ?_
          refine mV_push f10_kindOfDeed_49 ?_
          refine mV_isub f10_kindOfDeed_51 ?_
          refine mV_goto f10_kindOfDeed_52 ?_
          subst hr
          exact mV_iret rfl rfl f10_kindOfDeed_56 hQ
    · rw [if_neg h1] at hr
      refine mV_push f10_kindOfDeed_20 ?_
      subst hr
      exact mV_iret rfl rfl f10_kindOfDeed_21 hQ
  · rw [if_neg h0] at hr
    refine mV_push f10_kindOfDeed_9 ?_
    subst hr
    exact mV_iret rfl rfl f10_kindOfDeed_10 hQ
theorem c10_kindOfDeed (X : Nat × (Nat → Int32)) (I : mI) (s : Nat) {res : Int32} (hr : r10_kindOfDeed I = res) : mC X m10_kindOfDeed 1 0 0 [.ref 119] NN KK I (PP s) (mRet (some (.int res)) NN KK I (PP s)) :=
  mC_of (L0 := [.ref 119]) rfl (Nat.le_of_ble_eq_true rfl) (w10_kindOfDeed X I s _ hr (mRet_ok _ _ _ _ _))
def r10_readDeedMore (I : mI) (x0 : Int32) : Option (Int32 × mI) := if (x0 : Int32) = (1 : Int32) then some (0, I) else (if (x0 : Int32) = (2 : Int32) then some 1 else some 0 : Option (Int32)).bind fun z0 => (if (x0 : Int32) = (0 : Int32) then some 7 else if (x0 : Int32) = (3 : Int32) then some 9 else some 99 : Option (Int32)).bind fun z1 => (r10_readNumber I z0 z1).bind fun z2 => some (z2.1, z2.2)
set_option maxHeartbeats 4000000 in
set_option maxRecDepth 100000 in
theorem w10_readDeedMore (X : Nat × (Nat → Int32)) (I : mI) (s : Nat) (x0 : Int32) (Q : mQ) {res : Int32 × mI} (hr : r10_readDeedMore I x0 = some res) (hQ : Q (some (.int res.1)) NN KK res.2 (PP s)) : mV X m10_readDeedMore 4 0 0 0 [.ref 119, .int x0] [] NN KK I (PP s) Q := by
  unfold r10_readDeedMore at hr
  refine mV_iload f10_readDeedMore_0 rfl ?_
  refine mV_push f10_readDeedMore_1 ?_
  refine mV_icmp_ne f10_readDeedMore_2 (fun h0 => ?_) (fun h0 => ?_)
  · rw [if_neg h0] at hr
    refine mV_aload f10_readDeedMore_7 rfl ?_
    refine mV_iload f10_readDeedMore_8 rfl ?_
    refine mV_push f10_readDeedMore_9 ?_
    obtain ⟨z0, hz0, hr⟩ := mBind hr
    have keyz0 : mV X m10_readDeedMore 4 0 0 18 [.ref 119, .int x0] [.int z0, .ref 119] NN KK I (PP s) Q := by
      refine mV_iload f10_readDeedMore_18 rfl ?_
      obtain ⟨z1, hz1, hr⟩ := mBind hr
      have keyz1 : mV X m10_readDeedMore 4 0 0 39 [.ref 119, mX0] [.int z1, .int z0, .ref 119] NN KK I (PP s) Q := by
        obtain ⟨z2, hz2, hr⟩ := mBind hr
        refine mV_cV f10_readDeedMore_39 tg_m10_readNumber mCls10 (by decide) kk_119 (mC_deep (c10_readNumber X I s z0 z1 hz2) (by decide)) rfl rfl (Nat.le_of_ble_eq_true rfl) ?_
        have hr := Option.some.inj hr; subst hr
        exact mV_iret rfl rfl f10_readDeedMore_42 hQ
      clear hr
      have hr := hz1
      clear hz1
      refine mV_if_ne f10_readDeedMore_19 (fun h2 => ?_) (fun h2 => ?_)
      · rw [if_neg h2] at hr
        refine mV_iload f10_readDeedMore_27 rfl ?_
        refine mV_push f10_readDeedMore_28 ?_
        refine mV_icmp_ne f10_readDeedMore_29 (fun h3 => ?_) (fun h3 => ?_)
        · rw [if_neg h3] at hr
          refine mV_push f10_readDeedMore_37 ?_
          have hr := Option.some.inj hr; subst hr
          refine mV_drop (L' := [.ref 119, mX0]) (mSub_k (mSub_x mSub_n)) ?_
          exact keyz1
        · rw [if_pos h3] at hr
          refine mV_push f10_readDeedMore_32 ?_
          refine mV_goto f10_readDeedMore_34 ?_
          have hr := Option.some.inj hr; subst hr
          refine mV_drop (L' := [.ref 119, mX0]) (mSub_k (mSub_x mSub_n)) ?_
          exact keyz1
      · rw [if_pos h2] at hr
        refine mV_push f10_readDeedMore_22 ?_
        refine mV_goto f10_readDeedMore_24 ?_
        have hr := Option.some.inj hr; subst hr
        refine mV_drop (L' := [.ref 119, mX0]) (mSub_k (mSub_x mSub_n)) ?_
        exact keyz1
    clear hr
    have hr := hz0
    clear hz0
    refine mV_icmp_ne f10_readDeedMore_10 (fun h1 => ?_) (fun h1 => ?_)
    · rw [if_neg h1] at hr
      refine mV_push f10_readDeedMore_17 ?_
      have hr := Option.some.inj hr; subst hr
      exact keyz0
    · rw [if_pos h1] at hr
      refine mV_push f10_readDeedMore_13 ?_
      refine mV_goto f10_readDeedMore_14 ?_
      have hr := Option.some.inj hr; subst hr
      exact keyz0
  · rw [if_pos h0] at hr
    refine mV_push f10_readDeedMore_5 ?_
    have hr := Option.some.inj hr; subst hr
    exact mV_iret rfl rfl f10_readDeedMore_6 hQ
theorem c10_readDeedMore (X : Nat × (Nat → Int32)) (I : mI) (s : Nat) (x0 : Int32) {res : Int32 × mI} (hr : r10_readDeedMore I x0 = some res) : mC X m10_readDeedMore 4 0 0 [.ref 119, .int x0] NN KK I (PP s) (mRet (some (.int res.1)) NN KK res.2 (PP s)) :=
  mC_of (L0 := [.ref 119, .int x0]) rfl (Nat.le_of_ble_eq_true rfl) (w10_readDeedMore X I s x0 _ hr (mRet_ok _ _ _ _ _))
def r10_readDeed (I : mI) (x0 : Int32) : Option (Int32 × mI) := (r10_readTold I 19 0 999).bind fun z0 => (mSto z0.2 140 96 x0 z0.1).bind fun z1 => (mLd z1 140 96 x0).bind fun z2 => if (z2 : Int32) = ((-1) : Int32) then some ((-1), z1) else if ((r10_kindOfDeed z1) : Int32) = ((-1) : Int32) then (r10_errs z1 1).bind fun z10 => some (z10.1, z10.2) else (r10_reads z1).bind fun z3 => (mSto z3 140 96 (x0 + 1) (r10_kindOfDeed z1)).bind fun z4 => (r10_readDeedMore z4 (r10_kindOfDeed z1)).bind fun z5 => (mSto z5.2 140 96 (x0 + 2) z5.1).bind fun z6 => (mLd z6 140 96 (x0 + 2)).bind fun z7 => (if (z7 : Int32) = ((-1) : Int32) then some ((-1), z6) else (r10_readMark z6 59).bind fun z9 => some (z9.1, z9.2) : Option (Int32 × mI)).bind fun z8 => some (z8.1, z8.2)
set_option maxHeartbeats 4000000 in
set_option maxRecDepth 100000 in
theorem w10_readDeed (X : Nat × (Nat → Int32)) (I : mI) (s : Nat) (x0 : Int32) (Q : mQ) {res : Int32 × mI} (hr : r10_readDeed I x0 = some res) (hQ : Q (some (.int res.1)) NN KK res.2 (PP s)) : mV X m10_readDeed 5 0 0 0 [.ref 119, .int x0, mX0] [] NN KK I (PP s) Q := by
  unfold r10_readDeed at hr
  refine mV_aload f10_readDeed_0 rfl ?_
  refine mV_getP f10_readDeed_1 (by decide) kk_119 rfl (pp_119_40 _) ?_
  refine mV_iload f10_readDeed_4 rfl ?_
  refine mV_aload f10_readDeed_5 rfl ?_
  refine mV_push f10_readDeed_6 ?_
  refine mV_push f10_readDeed_8 ?_
  refine mV_push f10_readDeed_9 ?_
  obtain ⟨z0, hz0, hr⟩ := mBind hr
  refine mV_cV f10_readDeed_12 tg_m10_readTold mCls10 (by decide) kk_119 (mC_deep (c10_readTold X I s 19 0 999 hz0) (by decide)) rfl rfl (Nat.le_of_ble_eq_true rfl) ?_
  obtain ⟨z1, hz1, hr⟩ := mBind hr
  refine mV_stO f10_readDeed_15 (by decide) kk_140 hz1 ?_
  refine mV_aload f10_readDeed_16 rfl ?_
  refine mV_getP f10_readDeed_17 (by decide) kk_119 rfl (pp_119_40 _) ?_
  refine mV_iload f10_readDeed_20 rfl ?_
  obtain ⟨z2, hz2, hr⟩ := mBind hr
  refine mV_ldO f10_readDeed_21 (by decide) kk_140 hz2 ?_
  refine mV_push f10_readDeed_22 ?_
  refine mV_icmp_ne f10_readDeed_23 (fun h0 => ?_) (fun h0 => ?_)
  · rw [if_neg h0] at hr
    refine mV_aload f10_readDeed_28 rfl ?_
    refine mV_cV f10_readDeed_29 tg_m10_kindOfDeed mCls10 (by decide) kk_119 (mC_deep (c10_kindOfDeed X z1 s rfl) (by decide)) rfl rfl (Nat.le_of_ble_eq_true rfl) ?_
    refine mV_istore (L' := [.ref 119, .int x0, .int (r10_kindOfDeed z1)]) f10_readDeed_32 (by decide) rfl rfl ?_
    refine mV_iload f10_readDeed_33 rfl ?_
    refine mV_push f10_readDeed_34 ?_
    refine mV_icmp_ne f10_readDeed_35 (fun h1 => ?_) (fun h1 => ?_)
    · rw [if_neg h1] at hr
      refine mV_aload f10_readDeed_44 rfl ?_
      obtain ⟨z3, hz3, hr⟩ := mBind hr
      refine mV_cV f10_readDeed_45 tg_m10_reads mCls10 (by decide) kk_119 (mC_deep (c10_reads X z1 s hz3) (by decide)) rfl rfl (Nat.le_of_ble_eq_true rfl) ?_
      refine mV_aload f10_readDeed_48 rfl ?_
      refine mV_getP f10_readDeed_49 (by decide) kk_119 rfl (pp_119_40 _) ?_
      refine mV_iload f10_readDeed_52 rfl ?_
      refine mV_push f10_readDeed_53 ?_
      refine mV_iadd f10_readDeed_54 ?_
      refine mV_iload f10_readDeed_55 rfl ?_
      obtain ⟨z4, hz4, hr⟩ := mBind hr
      refine mV_stO f10_readDeed_56 (by decide) kk_140 hz4 ?_
      refine mV_aload f10_readDeed_57 rfl ?_
      refine mV_getP f10_readDeed_58 (by decide) kk_119 rfl (pp_119_40 _) ?_
      refine mV_iload f10_readDeed_61 rfl ?_
      refine mV_push f10_readDeed_62 ?_
      refine mV_iadd f10_readDeed_63 ?_
      refine mV_aload f10_readDeed_64 rfl ?_
      refine mV_iload f10_readDeed_65 rfl ?_
      obtain ⟨z5, hz5, hr⟩ := mBind hr
      refine mV_cV f10_readDeed_66 tg_m10_readDeedMore mCls10 (by decide) kk_119 (mC_deep (c10_readDeedMore X z4 s (r10_kindOfDeed z1) hz5) (by decide)) rfl rfl (Nat.le_of_ble_eq_true rfl) ?_
      obtain ⟨z6, hz6, hr⟩ := mBind hr
      refine mV_stO f10_readDeed_69 (by decide) kk_140 hz6 ?_
      refine mV_aload f10_readDeed_70 rfl ?_
      refine mV_getP f10_readDeed_71 (by decide) kk_119 rfl (pp_119_40 _) ?_
      refine mV_iload f10_readDeed_74 rfl ?_
      refine mV_push f10_readDeed_75 ?_
      refine mV_iadd f10_readDeed_76 ?_
      obtain ⟨z7, hz7, hr⟩ := mBind hr
      refine mV_ldO f10_readDeed_77 (by decide) kk_140 hz7 ?_
      refine mV_push f10_readDeed_78 ?_
      obtain ⟨z8, hz8, hr⟩ := mBind hr
      have keyz8 : mV X m10_readDeed 5 0 0 92 [.ref 119, mX0, mX0] [.int z8.1] NN KK z8.2 (PP s) Q := by
        have hr := Option.some.inj hr; subst hr
        exact mV_iret rfl rfl f10_readDeed_92 hQ
      clear hr
      have hr := hz8
      clear hz8
      refine mV_icmp_ne f10_readDeed_79 (fun h2 => ?_) (fun h2 => ?_)
      · rw [if_neg h2] at hr
        refine mV_aload f10_readDeed_86 rfl ?_
        refine mV_push f10_readDeed_87 ?_
        obtain ⟨z9, hz9, hr⟩ := mBind hr
        refine mV_cV f10_readDeed_89 tg_m10_readMark mCls10 (by decide) kk_119 (mC_deep (c10_readMark X z6 s 59 hz9) (by decide)) rfl rfl (Nat.le_of_ble_eq_true rfl) ?_
        have hr := Option.some.inj hr; subst hr
        refine mV_drop (L' := [.ref 119, mX0, mX0]) (mSub_k (mSub_x (mSub_x mSub_n))) ?_
        exact keyz8
      · rw [if_pos h2] at hr
        refine mV_push f10_readDeed_82 ?_
        refine mV_goto f10_readDeed_83 ?_
        have hr := Option.some.inj hr; subst hr
        refine mV_drop (L' := [.ref 119, mX0, mX0]) (mSub_k (mSub_x (mSub_x mSub_n))) ?_
        exact keyz8
    · rw [if_pos h1] at hr
      refine mV_aload f10_readDeed_38 rfl ?_
      refine mV_push f10_readDeed_39 ?_
      obtain ⟨z10, hz10, hr⟩ := mBind hr
      refine mV_cV f10_readDeed_40 tg_m10_errs mCls10 (by decide) kk_119 (mC_deep (c10_errs X z1 s 1 hz10) (by decide)) rfl rfl (Nat.le_of_ble_eq_true rfl) ?_
      have hr := Option.some.inj hr; subst hr
      exact mV_iret rfl rfl f10_readDeed_43 hQ
  · rw [if_pos h0] at hr
    refine mV_push f10_readDeed_26 ?_
    have hr := Option.some.inj hr; subst hr
    exact mV_iret rfl rfl f10_readDeed_27 hQ
theorem c10_readDeed (X : Nat × (Nat → Int32)) (I : mI) (s : Nat) (x0 : Int32) {res : Int32 × mI} (hr : r10_readDeed I x0 = some res) : mC X m10_readDeed 5 0 0 [.ref 119, .int x0] NN KK I (PP s) (mRet (some (.int res.1)) NN KK res.2 (PP s)) :=
  mC_of (L0 := [.ref 119, .int x0, mX0]) rfl (Nat.le_of_ble_eq_true rfl) (w10_readDeed X I s x0 _ hr (mRet_ok _ _ _ _ _))
def l10_readCare_2 : Nat → Int32 → mI → Option ((Int32 × mI) ⊕ (Int32 × mI))
  | 0, _, _ => none
  | f + 1, y1, I => if ((r10_isWord I 19) : Int32) = (0 : Int32) then some (.inr (y1, I)) else if (y1 : Int32) = (16 : Int32) then (r10_errs I 3).bind fun z1 => some (.inl (z1.1, z1.2)) else (r10_readDeed I (48 + (3 * y1))).bind fun z0 => if (z0.1 : Int32) = ((-1) : Int32) then some (.inl ((-1), z0.2)) else l10_readCare_2 f (y1 + 1) z0.2
def r10_readCare (I : mI) : Option (Int32 × mI) := (l10_readCare_2 FU 0 I).bind fun z0 => match z0 with | .inl rz0 => some rz0 | .inr wz0 => (if (wz0.2 119 18 : Int32) = (0 : Int32) then some (wz0.1, wz0.2) else (r10_errs wz0.2 1).bind fun z2 => some (z2.1, z2.2) : Option (Int32 × mI)).bind fun z1 => some (z1.1, z1.2)
set_option maxHeartbeats 4000000 in
set_option maxRecDepth 100000 in
theorem t10_readCare_2 (X : Nat × (Nat → Int32)) (Q : mQ) (s : Nat) : ∀ (f : Nat) (y1 : Int32) (I : mI) (z : (Int32 × mI) ⊕ (Int32 × mI)), l10_readCare_2 f y1 I = some z → (∀ res, z = .inl res → Q (some (.int res.1)) NN KK res.2 (PP s)) → (∀ w, z = .inr w → mV X m10_readCare 6 0 0 46 [.ref 119, .int w.1] [] NN KK w.2 (PP s) Q) → mV X m10_readCare 6 0 0 2 [.ref 119, .int y1] [] NN KK I (PP s) Q := by
  intro f
  induction f with
  | zero => intro y1 I z hr hret hk; cases hr
  | succ f ih =>
    intro y1 I z hr hret hk
    unfold l10_readCare_2 at hr
    refine mV_aload f10_readCare_2 rfl ?_
    refine mV_push f10_readCare_3 ?_
    refine mV_cV f10_readCare_5 tg_m10_isWord mCls10 (by decide) kk_119 (mC_deep (c10_isWord X I s 19 rfl) (by decide)) rfl rfl (Nat.le_of_ble_eq_true rfl) ?_
    refine mV_if_eq f10_readCare_8 (fun h0 => ?_) (fun h0 => ?_)
    · rw [if_pos h0] at hr
      have hr := Option.some.inj hr; subst hr
      exact hk _ rfl
    · rw [if_neg h0] at hr
      refine mV_iload f10_readCare_11 rfl ?_
      refine mV_push f10_readCare_12 ?_
      refine mV_icmp_ne f10_readCare_14 (fun h1 => ?_) (fun h1 => ?_)
      · rw [if_neg h1] at hr
        refine mV_aload f10_readCare_23 rfl ?_
        refine mV_push f10_readCare_24 ?_
        refine mV_push f10_readCare_26 ?_
        refine mV_iload f10_readCare_27 rfl ?_
        refine mV_imul f10_readCare_28 ?_
        refine mV_iadd f10_readCare_29 ?_
        obtain ⟨z0, hz0, hr⟩ := mBind hr
        refine mV_cV f10_readCare_30 tg_m10_readDeed mCls10 (by decide) kk_119 (mC_deep (c10_readDeed X I s (48 + (3 * y1)) hz0) (by decide)) rfl rfl (Nat.le_of_ble_eq_true rfl) ?_
        refine mV_push f10_readCare_33 ?_
        refine mV_icmp_ne f10_readCare_34 (fun h2 => ?_) (fun h2 => ?_)
        · rw [if_neg h2] at hr
          refine mV_iload f10_readCare_39 rfl ?_
          refine mV_push f10_readCare_40 ?_
          refine mV_iadd f10_readCare_41 ?_
          refine mV_istore (L' := [.ref 119, .int (y1 + 1)]) f10_readCare_42 (by decide) rfl rfl ?_
          refine mV_goto f10_readCare_43 ?_
          exact ih (y1 + 1) z0.2 _ hr hret hk
        · rw [if_pos h2] at hr
          refine mV_push f10_readCare_37 ?_
          have hr := Option.some.inj hr; subst hr; have hQ := hret _ rfl
          exact mV_iret rfl rfl f10_readCare_38 hQ
      · rw [if_pos h1] at hr
        refine mV_aload f10_readCare_17 rfl ?_
        refine mV_push f10_readCare_18 ?_
        obtain ⟨z1, hz1, hr⟩ := mBind hr
        refine mV_cV f10_readCare_19 tg_m10_errs mCls10 (by decide) kk_119 (mC_deep (c10_errs X I s 3 hz1) (by decide)) rfl rfl (Nat.le_of_ble_eq_true rfl) ?_
        have hr := Option.some.inj hr; subst hr; have hQ := hret _ rfl
        exact mV_iret rfl rfl f10_readCare_22 hQ
set_option maxHeartbeats 4000000 in
set_option maxRecDepth 100000 in
theorem w10_readCare (X : Nat × (Nat → Int32)) (I : mI) (s : Nat) (Q : mQ) {res : Int32 × mI} (hr : r10_readCare I = some res) (hQ : Q (some (.int res.1)) NN KK res.2 (PP s)) : mV X m10_readCare 6 0 0 0 [.ref 119, mX0] [] NN KK I (PP s) Q := by
  unfold r10_readCare at hr
  refine mV_push f10_readCare_0 ?_
  refine mV_istore (L' := [.ref 119, .int 0]) f10_readCare_1 (by decide) rfl rfl ?_
  obtain ⟨z0, hz0, hr⟩ := mBind hr
  refine t10_readCare_2 X Q s FU 0 I _ hz0 (fun res ez0 => ?_) (fun wz0 ez0 => ?_)
  · rw [ez0] at hr; have hr := Option.some.inj hr; subst hr; exact hQ
  rw [ez0] at hr
  dsimp only at hr
  refine mV_aload f10_readCare_46 rfl ?_
  refine mV_gI (wz0.2 119 18) f10_readCare_47 (by decide) kk_119 rfl rfl ?_
  obtain ⟨z1, hz1, hr⟩ := mBind hr
  have keyz1 : mV X m10_readCare 6 0 0 62 [.ref 119, mX0] [.int z1.1] NN KK z1.2 (PP s) Q := by
    have hr := Option.some.inj hr; subst hr
    exact mV_iret rfl rfl f10_readCare_62 hQ
  clear hr
  have hr := hz1
  clear hz1
  refine mV_if_ne f10_readCare_50 (fun h0 => ?_) (fun h0 => ?_)
  · rw [if_neg h0] at hr
    refine mV_aload f10_readCare_57 rfl ?_
    refine mV_push f10_readCare_58 ?_
    obtain ⟨z2, hz2, hr⟩ := mBind hr
    refine mV_cV f10_readCare_59 tg_m10_errs mCls10 (by decide) kk_119 (mC_deep (c10_errs X wz0.2 s 1 hz2) (by decide)) rfl rfl (Nat.le_of_ble_eq_true rfl) ?_
    have hr := Option.some.inj hr; subst hr
    refine mV_drop (L' := [.ref 119, mX0]) (mSub_k (mSub_x mSub_n)) ?_
    exact keyz1
  · rw [if_pos h0] at hr
    refine mV_iload f10_readCare_53 rfl ?_
    refine mV_goto f10_readCare_54 ?_
    have hr := Option.some.inj hr; subst hr
    refine mV_drop (L' := [.ref 119, mX0]) (mSub_k (mSub_x mSub_n)) ?_
    exact keyz1
theorem c10_readCare (X : Nat × (Nat → Int32)) (I : mI) (s : Nat) {res : Int32 × mI} (hr : r10_readCare I = some res) : mC X m10_readCare 6 0 0 [.ref 119] NN KK I (PP s) (mRet (some (.int res.1)) NN KK res.2 (PP s)) :=
  mC_of (L0 := [.ref 119, mX0]) rfl (Nat.le_of_ble_eq_true rfl) (w10_readCare X I s _ hr (mRet_ok _ _ _ _ _))
def r10_readLike (I : mI) : Option (Int32 × mI) := (r10_readTold I 21 0 (I 119 6 - 1)).bind fun z0 => if (z0.1 : Int32) = ((-1) : Int32) then some ((-1), z0.2) else if ((r10_isWord z0.2 26) : Int32) = (0 : Int32) then (r10_errs z0.2 1).bind fun z15 => some (z15.1, z15.2) else (r10_reads z0.2).bind fun z1 => if (z1 119 18 : Int32) = (3 : Int32) then if (z1 119 19 : Int32) = (z0.1 : Int32) then (r10_errs z1 2).bind fun z14 => some (z14.1, z14.2) else (r10_readNumber z1 0 (z1 119 6 - 1)).bind fun z8 => if (z8.1 : Int32) = ((-1) : Int32) then some ((-1), z8.2) else (mLd z8.2 141 24 (12 + z0.1)).bind fun z9 => (mSto z8.2 141 24 (12 + z0.1) (z9 ||| ((1 : Int32) <<< (z8.1 &&& 31)))).bind fun z10 => (mLd z10 141 24 (12 + z8.1)).bind fun z11 => (mSto z10 141 24 (12 + z8.1) (z11 ||| ((1 : Int32) <<< (z0.1 &&& 31)))).bind fun z12 => (r10_readMark z12 59).bind fun z13 => some (z13.1, z13.2) else (r10_readNumber z1 0 (z1 119 6 - 1)).bind fun z2 => if (z2.1 : Int32) = ((-1) : Int32) then some ((-1), z2.2) else (mLd z2.2 141 24 (12 + z0.1)).bind fun z3 => (mSto z2.2 141 24 (12 + z0.1) (z3 ||| ((1 : Int32) <<< (z2.1 &&& 31)))).bind fun z4 => (mLd z4 141 24 (12 + z2.1)).bind fun z5 => (mSto z4 141 24 (12 + z2.1) (z5 ||| ((1 : Int32) <<< (z0.1 &&& 31)))).bind fun z6 => (r10_readMark z6 59).bind fun z7 => some (z7.1, z7.2)
set_option maxHeartbeats 4000000 in
set_option maxRecDepth 100000 in
theorem w10_readLike (X : Nat × (Nat → Int32)) (I : mI) (s : Nat) (Q : mQ) {res : Int32 × mI} (hr : r10_readLike I = some res) (hQ : Q (some (.int res.1)) NN KK res.2 (PP s)) : mV X m10_readLike 5 0 0 0 [.ref 119, mX0, mX0] [] NN KK I (PP s) Q := by
  unfold r10_readLike at hr
  refine mV_aload f10_readLike_0 rfl ?_
  refine mV_push f10_readLike_1 ?_
  refine mV_push f10_readLike_3 ?_
  refine mV_aload f10_readLike_4 rfl ?_
  refine mV_gI (I 119 6) f10_readLike_5 (by decide) kk_119 rfl rfl ?_
  refine mV_push f10_readLike_8 ?_
  refine mV_isub f10_readLike_9 ?_
  obtain ⟨z0, hz0, hr⟩ := mBind hr
  refine mV_cV f10_readLike_10 tg_m10_readTold mCls10 (by decide) kk_119 (mC_deep (c10_readTold X I s 21 0 (I 119 6 - 1) hz0) (by decide)) rfl rfl (Nat.le_of_ble_eq_true rfl) ?_
  refine mV_istore (L' := [.ref 119, .int z0.1, mX0]) f10_readLike_13 (by decide) rfl rfl ?_
  refine mV_iload f10_readLike_14 rfl ?_
  refine mV_push f10_readLike_15 ?_
  refine mV_icmp_ne f10_readLike_16 (fun h0 => ?_) (fun h0 => ?_)
  · rw [if_neg h0] at hr
    refine mV_aload f10_readLike_21 rfl ?_
    refine mV_push f10_readLike_22 ?_
    refine mV_cV f10_readLike_24 tg_m10_isWord mCls10 (by decide) kk_119 (mC_deep (c10_isWord X z0.2 s 26 rfl) (by decide)) rfl rfl (Nat.le_of_ble_eq_true rfl) ?_
    refine mV_if_ne f10_readLike_27 (fun h1 => ?_) (fun h1 => ?_)
    · rw [if_neg h1] at hr
      refine mV_aload f10_readLike_36 rfl ?_
      obtain ⟨z1, hz1, hr⟩ := mBind hr
      refine mV_cV f10_readLike_37 tg_m10_reads mCls10 (by decide) kk_119 (mC_deep (c10_reads X z0.2 s hz1) (by decide)) rfl rfl (Nat.le_of_ble_eq_true rfl) ?_
      refine mV_aload f10_readLike_40 rfl ?_
      refine mV_gI (z1 119 18) f10_readLike_41 (by decide) kk_119 rfl rfl ?_
      refine mV_push f10_readLike_44 ?_
      refine mV_icmp_ne f10_readLike_45 (fun h2 => ?_) (fun h2 => ?_)
      · rw [if_neg h2] at hr
        refine mV_aload f10_readLike_62 rfl ?_
        refine mV_push f10_readLike_63 ?_
        refine mV_aload f10_readLike_64 rfl ?_
        refine mV_gI (z1 119 6) f10_readLike_65 (by decide) kk_119 rfl rfl ?_
        refine mV_push f10_readLike_68 ?_
        refine mV_isub f10_readLike_69 ?_
        obtain ⟨z2, hz2, hr⟩ := mBind hr
        refine mV_cV f10_readLike_70 tg_m10_readNumber mCls10 (by decide) kk_119 (mC_deep (c10_readNumber X z1 s 0 (z1 119 6 - 1) hz2) (by decide)) rfl rfl (Nat.le_of_ble_eq_true rfl) ?_
        refine mV_istore (L' := [.ref 119, .int z0.1, .int z2.1]) f10_readLike_73 (by decide) rfl rfl ?_
        refine mV_iload f10_readLike_74 rfl ?_
        refine mV_push f10_readLike_75 ?_
        refine mV_icmp_ne f10_readLike_76 (fun h3 => ?_) (fun h3 => ?_)
        · rw [if_neg h3] at hr
          refine mV_aload f10_readLike_81 rfl ?_
          refine mV_getP f10_readLike_82 (by decide) kk_119 rfl (pp_119_42 _) ?_
          refine mV_push f10_readLike_85 ?_
          refine mV_iload f10_readLike_87 rfl ?_
          refine mV_iadd f10_readLike_88 ?_
          refine mV_aload f10_readLike_89 rfl ?_
          refine mV_getP f10_readLike_90 (by decide) kk_119 rfl (pp_119_42 _) ?_
          refine mV_push f10_readLike_93 ?_
          refine mV_iload f10_readLike_95 rfl ?_
          refine mV_iadd f10_readLike_96 ?_
          obtain ⟨z3, hz3, hr⟩ := mBind hr
          refine mV_ldO f10_readLike_97 (by decide) kk_141 hz3 ?_
          refine mV_push f10_readLike_98 ?_
          refine mV_iload f10_readLike_99 rfl ?_
          refine mV_ishl f10_readLike_100 ?_
          refine mV_ior f10_readLike_101 ?_
          obtain ⟨z4, hz4, hr⟩ := mBind hr
          refine mV_stO f10_readLike_102 (by decide) kk_141 hz4 ?_
          refine mV_aload f10_readLike_103 rfl ?_
          refine mV_getP f10_readLike_104 (by decide) kk_119 rfl (pp_119_42 _) ?_
          refine mV_push f10_readLike_107 ?_
          refine mV_iload f10_readLike_109 rfl ?_
          refine mV_iadd f10_readLike_110 ?_
          refine mV_aload f10_readLike_111 rfl ?_
          refine mV_getP f10_readLike_112 (by decide) kk_119 rfl (pp_119_42 _) ?_
          refine mV_push f10_readLike_115 ?_
          refine mV_iload f10_readLike_117 rfl ?_
          refine mV_iadd f10_readLike_118 ?_
          obtain ⟨z5, hz5, hr⟩ := mBind hr
          refine mV_ldO f10_readLike_119 (by decide) kk_141 hz5 ?_
          refine mV_push f10_readLike_120 ?_
          refine mV_iload f10_readLike_121 rfl ?_
          refine mV_ishl f10_readLike_122 ?_
          refine mV_ior f10_readLike_123 ?_
          obtain ⟨z6, hz6, hr⟩ := mBind hr
          refine mV_stO f10_readLike_124 (by decide) kk_141 hz6 ?_
          refine mV_aload f10_readLike_125 rfl ?_
          refine mV_push f10_readLike_126 ?_
          obtain ⟨z7, hz7, hr⟩ := mBind hr
          refine mV_cV f10_readLike_128 tg_m10_readMark mCls10 (by decide) kk_119 (mC_deep (c10_readMark X z6 s 59 hz7) (by decide)) rfl rfl (Nat.le_of_ble_eq_true rfl) ?_
          have hr := Option.some.inj hr; subst hr
          exact mV_iret rfl rfl f10_readLike_131 hQ
        · rw [if_pos h3] at hr
          refine mV_push f10_readLike_79 ?_
          have hr := Option.some.inj hr; subst hr
          exact mV_iret rfl rfl f10_readLike_80 hQ
      · rw [if_pos h2] at hr
        refine mV_aload f10_readLike_48 rfl ?_
        refine mV_gI (z1 119 19) f10_readLike_49 (by decide) kk_119 rfl rfl ?_
        refine mV_iload f10_readLike_52 rfl ?_
        refine mV_icmp_ne f10_readLike_53 (fun h4 => ?_) (fun h4 => ?_)
        · rw [if_neg h4] at hr
          refine mV_aload f10_readLike_62 rfl ?_
          refine mV_push f10_readLike_63 ?_
          refine mV_aload f10_readLike_64 rfl ?_
          refine mV_gI (z1 119 6) f10_readLike_65 (by decide) kk_119 rfl rfl ?_
          refine mV_push f10_readLike_68 ?_
          refine mV_isub f10_readLike_69 ?_
          obtain ⟨z8, hz8, hr⟩ := mBind hr
          refine mV_cV f10_readLike_70 tg_m10_readNumber mCls10 (by decide) kk_119 (mC_deep (c10_readNumber X z1 s 0 (z1 119 6 - 1) hz8) (by decide)) rfl rfl (Nat.le_of_ble_eq_true rfl) ?_
          refine mV_istore (L' := [.ref 119, .int z0.1, .int z8.1]) f10_readLike_73 (by decide) rfl rfl ?_
          refine mV_iload f10_readLike_74 rfl ?_
          refine mV_push f10_readLike_75 ?_
          refine mV_icmp_ne f10_readLike_76 (fun h5 => ?_) (fun h5 => ?_)
          · rw [if_neg h5] at hr
            refine mV_aload f10_readLike_81 rfl ?_
            refine mV_getP f10_readLike_82 (by decide) kk_119 rfl (pp_119_42 _) ?_
            refine mV_push f10_readLike_85 ?_
            refine mV_iload f10_readLike_87 rfl ?_
            refine mV_iadd f10_readLike_88 ?_
            refine mV_aload f10_readLike_89 rfl ?_
            refine mV_getP f10_readLike_90 (by decide) kk_119 rfl (pp_119_42 _) ?_
            refine mV_push f10_readLike_93 ?_
            refine mV_iload f10_readLike_95 rfl ?_
            refine mV_iadd f10_readLike_96 ?_
            obtain ⟨z9, hz9, hr⟩ := mBind hr
            refine mV_ldO f10_readLike_97 (by decide) kk_141 hz9 ?_
            refine mV_push f10_readLike_98 ?_
            refine mV_iload f10_readLike_99 rfl ?_
            refine mV_ishl f10_readLike_100 ?_
            refine mV_ior f10_readLike_101 ?_
            obtain ⟨z10, hz10, hr⟩ := mBind hr
            refine mV_stO f10_readLike_102 (by decide) kk_141 hz10 ?_
            refine mV_aload f10_readLike_103 rfl ?_
            refine mV_getP f10_readLike_104 (by decide) kk_119 rfl (pp_119_42 _) ?_
            refine mV_push f10_readLike_107 ?_
            refine mV_iload f10_readLike_109 rfl ?_
            refine mV_iadd f10_readLike_110 ?_
            refine mV_aload f10_readLike_111 rfl ?_
            refine mV_getP f10_readLike_112 (by decide) kk_119 rfl (pp_119_42 _) ?_
            refine mV_push f10_readLike_115 ?_
            refine mV_iload f10_readLike_117 rfl ?_
            refine mV_iadd f10_readLike_118 ?_
            obtain ⟨z11, hz11, hr⟩ := mBind hr
            refine mV_ldO f10_readLike_119 (by decide) kk_141 hz11 ?_
            refine mV_push f10_readLike_120 ?_
            refine mV_iload f10_readLike_121 rfl ?_
            refine mV_ishl f10_readLike_122 ?_
            refine mV_ior f10_readLike_123 ?_
            obtain ⟨z12, hz12, hr⟩ := mBind hr
            refine mV_stO f10_readLike_124 (by decide) kk_141 hz12 ?_
            refine mV_aload f10_readLike_125 rfl ?_
            refine mV_push f10_readLike_126 ?_
            obtain ⟨z13, hz13, hr⟩ := mBind hr
            refine mV_cV f10_readLike_128 tg_m10_readMark mCls10 (by decide) kk_119 (mC_deep (c10_readMark X z12 s 59 hz13) (by decide)) rfl rfl (Nat.le_of_ble_eq_true rfl) ?_
            have hr := Option.some.inj hr; subst hr
            exact mV_iret rfl rfl f10_readLike_131 hQ
          · rw [if_pos h5] at hr
            refine mV_push f10_readLike_79 ?_
            have hr := Option.some.inj hr; subst hr
            exact mV_iret rfl rfl f10_readLike_80 hQ
        · rw [if_pos h4] at hr
          refine mV_aload f10_readLike_56 rfl ?_
          refine mV_push f10_readLike_57 ?_
          obtain ⟨z14, hz14, hr⟩ := mBind hr
          refine mV_cV f10_readLike_58 tg_m10_errs mCls10 (by decide) kk_119 (mC_deep (c10_errs X z1 s 2 hz14) (by decide)) rfl rfl (Nat.le_of_ble_eq_true rfl) ?_
          have hr := Option.some.inj hr; subst hr
          exact mV_iret rfl rfl f10_readLike_61 hQ
    · rw [if_pos h1] at hr
      refine mV_aload f10_readLike_30 rfl ?_
      refine mV_push f10_readLike_31 ?_
      obtain ⟨z15, hz15, hr⟩ := mBind hr
      refine mV_cV f10_readLike_32 tg_m10_errs mCls10 (by decide) kk_119 (mC_deep (c10_errs X z0.2 s 1 hz15) (by decide)) rfl rfl (Nat.le_of_ble_eq_true rfl) ?_
      have hr := Option.some.inj hr; subst hr
      exact mV_iret rfl rfl f10_readLike_35 hQ
  · rw [if_pos h0] at hr
    refine mV_push f10_readLike_19 ?_
    have hr := Option.some.inj hr; subst hr
    exact mV_iret rfl rfl f10_readLike_20 hQ
theorem c10_readLike (X : Nat × (Nat → Int32)) (I : mI) (s : Nat) {res : Int32 × mI} (hr : r10_readLike I = some res) : mC X m10_readLike 5 0 0 [.ref 119] NN KK I (PP s) (mRet (some (.int res.1)) NN KK res.2 (PP s)) :=
  mC_of (L0 := [.ref 119, mX0, mX0]) rfl (Nat.le_of_ble_eq_true rfl) (w10_readLike X I s _ hr (mRet_ok _ _ _ _ _))
def l10_readLikeness_2 : Nat → Int32 → mI → Option (mI)
  | 0, _, _ => none
  | f + 1, y1, I => if (12 : Int32) ≤ (y1 : Int32) then some I else (mSto I 141 24 (12 + y1) 0).bind fun z0 => l10_readLikeness_2 f (y1 + 1) z0
def l10_readLikeness_26 : Nat → Int32 → mI → Option ((Int32 × mI) ⊕ (Int32 × mI))
  | 0, _, _ => none
  | f + 1, y1, I => if ((r10_isWord I 21) : Int32) = (0 : Int32) then some (.inr (y1, I)) else if (y1 : Int32) = (16 : Int32) then (r10_errs I 3).bind fun z1 => some (.inl (z1.1, z1.2)) else (r10_readLike I).bind fun z0 => if (z0.1 : Int32) = ((-1) : Int32) then some (.inl ((-1), z0.2)) else l10_readLikeness_26 f (y1 + 1) z0.2
def r10_readLikeness (I : mI) : Option (Int32 × mI) := (l10_readLikeness_2 FU 0 I).bind fun z0 => (l10_readLikeness_26 FU 0 z0).bind fun z1 => match z1 with | .inl rz1 => some rz1 | .inr wz1 => (if (wz1.2 119 18 : Int32) = (0 : Int32) then some (wz1.1, wz1.2) else (r10_errs wz1.2 1).bind fun z3 => some (z3.1, z3.2) : Option (Int32 × mI)).bind fun z2 => some (z2.1, z2.2)
set_option maxHeartbeats 4000000 in
set_option maxRecDepth 100000 in
theorem t10_readLikeness_2 (X : Nat × (Nat → Int32)) (Q : mQ) (s : Nat) : ∀ (f : Nat) (y1 : Int32) (I : mI) (z : mI), l10_readLikeness_2 f y1 I = some z → mV X m10_readLikeness 6 0 0 24 [.ref 119, mX0] [] NN KK z (PP s) Q → mV X m10_readLikeness 6 0 0 2 [.ref 119, .int y1] [] NN KK I (PP s) Q := by
  intro f
  induction f with
  | zero => intro y1 I z hr hk; cases hr
  | succ f ih =>
    intro y1 I z hr hk
    unfold l10_readLikeness_2 at hr
    refine mV_iload f10_readLikeness_2 rfl ?_
    refine mV_push f10_readLikeness_3 ?_
    refine mV_icmp_ge f10_readLikeness_5 (fun h0 => ?_) (fun h0 => ?_)
    · rw [if_pos h0] at hr
      have hr := Option.some.inj hr; subst hr
      refine mV_drop (L' := [.ref 119, mX0]) (mSub_k (mSub_x mSub_n)) ?_
      exact hk
    · rw [if_neg h0] at hr
      refine mV_aload f10_readLikeness_8 rfl ?_
      refine mV_getP f10_readLikeness_9 (by decide) kk_119 rfl (pp_119_42 _) ?_
      refine mV_push f10_readLikeness_12 ?_
      refine mV_iload f10_readLikeness_14 rfl ?_
      refine mV_iadd f10_readLikeness_15 ?_
      refine mV_push f10_readLikeness_16 ?_
      obtain ⟨z0, hz0, hr⟩ := mBind hr
      refine mV_stO f10_readLikeness_17 (by decide) kk_141 hz0 ?_
      refine mV_iinc (y := (y1 + 1)) (L' := [.ref 119, .int (y1 + 1)]) f10_readLikeness_18 rfl rfl (by decide) rfl rfl ?_
      refine mV_goto f10_readLikeness_21 ?_
      exact ih (y1 + 1) z0 _ hr hk
set_option maxHeartbeats 4000000 in
set_option maxRecDepth 100000 in
theorem t10_readLikeness_26 (X : Nat × (Nat → Int32)) (Q : mQ) (s : Nat) : ∀ (f : Nat) (y1 : Int32) (I : mI) (z : (Int32 × mI) ⊕ (Int32 × mI)), l10_readLikeness_26 f y1 I = some z → (∀ res, z = .inl res → Q (some (.int res.1)) NN KK res.2 (PP s)) → (∀ w, z = .inr w → mV X m10_readLikeness 6 0 0 64 [.ref 119, .int w.1] [] NN KK w.2 (PP s) Q) → mV X m10_readLikeness 6 0 0 26 [.ref 119, .int y1] [] NN KK I (PP s) Q := by
  intro f
  induction f with
  | zero => intro y1 I z hr hret hk; cases hr
  | succ f ih =>
    intro y1 I z hr hret hk
    unfold l10_readLikeness_26 at hr
    refine mV_aload f10_readLikeness_26 rfl ?_
    refine mV_push f10_readLikeness_27 ?_
    refine mV_cV f10_readLikeness_29 tg_m10_isWord mCls10 (by decide) kk_119 (mC_deep (c10_isWord X I s 21 rfl) (by decide)) rfl rfl (Nat.le_of_ble_eq_true rfl) ?_
    refine mV_if_eq f10_readLikeness_32 (fun h0 => ?_) (fun h0 => ?_)
    · rw [if_pos h0] at hr
      have hr := Option.some.inj hr; subst hr
      exact hk _ rfl
    · rw [if_neg h0] at hr
      refine mV_iload f10_readLikeness_35 rfl ?_
      refine mV_push f10_readLikeness_36 ?_
      refine mV_icmp_ne f10_readLikeness_38 (fun h1 => ?_) (fun h1 => ?_)
      · rw [if_neg h1] at hr
        refine mV_aload f10_readLikeness_47 rfl ?_
        obtain ⟨z0, hz0, hr⟩ := mBind hr
        refine mV_cV f10_readLikeness_48 tg_m10_readLike mCls10 (by decide) kk_119 (mC_deep (c10_readLike X I s hz0) (by decide)) rfl rfl (Nat.le_of_ble_eq_true rfl) ?_
        refine mV_push f10_readLikeness_51 ?_
        refine mV_icmp_ne f10_readLikeness_52 (fun h2 => ?_) (fun h2 => ?_)
        · rw [if_neg h2] at hr
          refine mV_iload f10_readLikeness_57 rfl ?_
          refine mV_push f10_readLikeness_58 ?_
          refine mV_iadd f10_readLikeness_59 ?_
          refine mV_istore (L' := [.ref 119, .int (y1 + 1)]) f10_readLikeness_60 (by decide) rfl rfl ?_
          refine mV_goto f10_readLikeness_61 ?_
          exact ih (y1 + 1) z0.2 _ hr hret hk
        · rw [if_pos h2] at hr
          refine mV_push f10_readLikeness_55 ?_
          have hr := Option.some.inj hr; subst hr; have hQ := hret _ rfl
          exact mV_iret rfl rfl f10_readLikeness_56 hQ
      · rw [if_pos h1] at hr
        refine mV_aload f10_readLikeness_41 rfl ?_
        refine mV_push f10_readLikeness_42 ?_
        obtain ⟨z1, hz1, hr⟩ := mBind hr
        refine mV_cV f10_readLikeness_43 tg_m10_errs mCls10 (by decide) kk_119 (mC_deep (c10_errs X I s 3 hz1) (by decide)) rfl rfl (Nat.le_of_ble_eq_true rfl) ?_
        have hr := Option.some.inj hr; subst hr; have hQ := hret _ rfl
        exact mV_iret rfl rfl f10_readLikeness_46 hQ
set_option maxHeartbeats 4000000 in
set_option maxRecDepth 100000 in
theorem w10_readLikeness (X : Nat × (Nat → Int32)) (I : mI) (s : Nat) (Q : mQ) {res : Int32 × mI} (hr : r10_readLikeness I = some res) (hQ : Q (some (.int res.1)) NN KK res.2 (PP s)) : mV X m10_readLikeness 6 0 0 0 [.ref 119, mX0] [] NN KK I (PP s) Q := by
  unfold r10_readLikeness at hr
  refine mV_push f10_readLikeness_0 ?_
  refine mV_istore (L' := [.ref 119, .int 0]) f10_readLikeness_1 (by decide) rfl rfl ?_
  obtain ⟨z0, hz0, hr⟩ := mBind hr
  refine t10_readLikeness_2 X Q s FU 0 I _ hz0 ?_
  refine mV_push f10_readLikeness_24 ?_
  refine mV_istore (L' := [.ref 119, .int 0]) f10_readLikeness_25 (by decide) rfl rfl ?_
  obtain ⟨z1, hz1, hr⟩ := mBind hr
  refine t10_readLikeness_26 X Q s FU 0 z0 _ hz1 (fun res ez1 => ?_) (fun wz1 ez1 => ?_)
  · rw [ez1] at hr; have hr := Option.some.inj hr; subst hr; exact hQ
  rw [ez1] at hr
  dsimp only at hr
  refine mV_aload f10_readLikeness_64 rfl ?_
  refine mV_gI (wz1.2 119 18) f10_readLikeness_65 (by decide) kk_119 rfl rfl ?_
  obtain ⟨z2, hz2, hr⟩ := mBind hr
  have keyz2 : mV X m10_readLikeness 6 0 0 80 [.ref 119, mX0] [.int z2.1] NN KK z2.2 (PP s) Q := by
    have hr := Option.some.inj hr; subst hr
    exact mV_iret rfl rfl f10_readLikeness_80 hQ
  clear hr
  have hr := hz2
  clear hz2
  refine mV_if_ne f10_readLikeness_68 (fun h0 => ?_) (fun h0 => ?_)
  · rw [if_neg h0] at hr
    refine mV_aload f10_readLikeness_75 rfl ?_
    refine mV_push f10_readLikeness_76 ?_
    obtain ⟨z3, hz3, hr⟩ := mBind hr
    refine mV_cV f10_readLikeness_77 tg_m10_errs mCls10 (by decide) kk_119 (mC_deep (c10_errs X wz1.2 s 1 hz3) (by decide)) rfl rfl (Nat.le_of_ble_eq_true rfl) ?_
    have hr := Option.some.inj hr; subst hr
    refine mV_drop (L' := [.ref 119, mX0]) (mSub_k (mSub_x mSub_n)) ?_
    exact keyz2
  · rw [if_pos h0] at hr
    refine mV_iload f10_readLikeness_71 rfl ?_
    refine mV_goto f10_readLikeness_72 ?_
    have hr := Option.some.inj hr; subst hr
    refine mV_drop (L' := [.ref 119, mX0]) (mSub_k (mSub_x mSub_n)) ?_
    exact keyz2
theorem c10_readLikeness (X : Nat × (Nat → Int32)) (I : mI) (s : Nat) {res : Int32 × mI} (hr : r10_readLikeness I = some res) : mC X m10_readLikeness 6 0 0 [.ref 119] NN KK I (PP s) (mRet (some (.int res.1)) NN KK res.2 (PP s)) :=
  mC_of (L0 := [.ref 119, mX0]) rfl (Nat.le_of_ble_eq_true rfl) (w10_readLikeness X I s _ hr (mRet_ok _ _ _ _ _))
def r10_readsText (I : mI) (x0 : Int32) : Option (Int32 × mI) := (r10_reads (mW I 119 28 0)).bind fun z0 => if (x0 : Int32) = (1 : Int32) then (r10_readProgramme z0).bind fun z5 => some (z5.1, z5.2) else if (x0 : Int32) = (2 : Int32) then (r10_readCare z0).bind fun z4 => some (z4.1, z4.2) else (if (x0 : Int32) = (3 : Int32) then (r10_readLikeness z0).bind fun z3 => some (z3.1, z3.2) else (r10_readLaw z0).bind fun z2 => some (z2.1, z2.2) : Option (Int32 × mI)).bind fun z1 => some (z1.1, z1.2)
set_option maxHeartbeats 4000000 in
set_option maxRecDepth 100000 in
theorem w10_readsText (X : Nat × (Nat → Int32)) (I : mI) (s : Nat) (x0 : Int32) (Q : mQ) {res : Int32 × mI} (hr : r10_readsText I x0 = some res) (hQ : Q (some (.int res.1)) NN KK res.2 (PP s)) : mV X m10_readsText 9 0 0 0 [.ref 119, .int x0] [] NN KK I (PP s) Q := by
  unfold r10_readsText at hr
  refine mV_aload f10_readsText_0 rfl ?_
  refine mV_push f10_readsText_1 ?_
  refine mV_putI f10_readsText_2 (by decide) kk_119 rfl rfl ?_
  refine mV_aload f10_readsText_5 rfl ?_
  obtain ⟨z0, hz0, hr⟩ := mBind hr
  refine mV_cV f10_readsText_6 tg_m10_reads mCls10 (by decide) kk_119 (mC_deep (c10_reads X (mW I 119 28 0) s hz0) (by decide)) rfl rfl (Nat.le_of_ble_eq_true rfl) ?_
  refine mV_iload f10_readsText_9 rfl ?_
  refine mV_push f10_readsText_10 ?_
  refine mV_icmp_ne f10_readsText_11 (fun h0 => ?_) (fun h0 => ?_)
  · rw [if_neg h0] at hr
    refine mV_iload f10_readsText_19 rfl ?_
    refine mV_push f10_readsText_20 ?_
    refine mV_icmp_ne f10_readsText_21 (fun h1 => ?_) (fun h1 => ?_)
    · rw [if_neg h1] at hr
      refine mV_iload f10_readsText_29 rfl ?_
      refine mV_push f10_readsText_30 ?_
      obtain ⟨z1, hz1, hr⟩ := mBind hr
      have keyz1 : mV X m10_readsText 9 0 0 45 [.ref 119, mX0] [.int z1.1] NN KK z1.2 (PP s) Q := by
        have hr := Option.some.inj hr; subst hr
        exact mV_iret rfl rfl f10_readsText_45 hQ
      clear hr
      have hr := hz1
      clear hz1
      refine mV_icmp_ne f10_readsText_31 (fun h2 => ?_) (fun h2 => ?_)
      · rw [if_neg h2] at hr
        refine mV_aload f10_readsText_41 rfl ?_
        obtain ⟨z2, hz2, hr⟩ := mBind hr
        refine mV_cV f10_readsText_42 tg_m10_readLaw mCls10 (by decide) kk_119 (mC_deep (c10_readLaw X z0 s hz2) (by decide)) rfl rfl (Nat.le_of_ble_eq_true rfl) ?_
        have hr := Option.some.inj hr; subst hr
        refine mV_drop (L' := [.ref 119, mX0]) (mSub_k (mSub_x mSub_n)) ?_
        exact keyz1
      · rw [if_pos h2] at hr
        refine mV_aload f10_readsText_34 rfl ?_
        obtain ⟨z3, hz3, hr⟩ := mBind hr
        refine mV_cV f10_readsText_35 tg_m10_readLikeness mCls10 (by decide) kk_119 (mC_deep (c10_readLikeness X z0 s hz3) (by decide)) rfl rfl (Nat.le_of_ble_eq_true rfl) ?_
        refine mV_goto f10_readsText_38 ?_
        have hr := Option.some.inj hr; subst hr
        refine mV_drop (L' := [.ref 119, mX0]) (mSub_k (mSub_x mSub_n)) ?_
        exact keyz1
    · rw [if_pos h1] at hr
      refine mV_aload f10_readsText_24 rfl ?_
      obtain ⟨z4, hz4, hr⟩ := mBind hr
      refine mV_cV f10_readsText_25 tg_m10_readCare mCls10 (by decide) kk_119 (mC_deep (c10_readCare X z0 s hz4) (by decide)) rfl rfl (Nat.le_of_ble_eq_true rfl) ?_
      have hr := Option.some.inj hr; subst hr
      exact mV_iret rfl rfl f10_readsText_28 hQ
  · rw [if_pos h0] at hr
    refine mV_aload f10_readsText_14 rfl ?_
    obtain ⟨z5, hz5, hr⟩ := mBind hr
    refine mV_cV f10_readsText_15 tg_m10_readProgramme mCls10 (by decide) kk_119 (mC_deep (c10_readProgramme X z0 s hz5) (by decide)) rfl rfl (Nat.le_of_ble_eq_true rfl) ?_
    have hr := Option.some.inj hr; subst hr
    exact mV_iret rfl rfl f10_readsText_18 hQ
theorem c10_readsText (X : Nat × (Nat → Int32)) (I : mI) (s : Nat) (x0 : Int32) {res : Int32 × mI} (hr : r10_readsText I x0 = some res) : mC X m10_readsText 9 0 0 [.ref 119, .int x0] NN KK I (PP s) (mRet (some (.int res.1)) NN KK res.2 (PP s)) :=
  mC_of (L0 := [.ref 119, .int x0]) rfl (Nat.le_of_ble_eq_true rfl) (w10_readsText X I s x0 _ hr (mRet_ok _ _ _ _ _))

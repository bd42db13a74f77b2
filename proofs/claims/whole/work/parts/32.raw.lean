def l2_turnedOver_4 (k0 : Int32) : Nat → Int32 → Int32 → Option (Int32)
  | 0, _, _ => none
  | f + 1, y1, y2 => if (12 : Int32) ≤ (y2 : Int32) then some y1 else (if (((k0 >>> (y2 &&& 31)) &&& 1) : Int32) = (0 : Int32) then some y1 else some (y1 ||| (1 <<< ((mRm (12 - y2) 12) &&& 31))) : Option (Int32)).bind fun z0 => l2_turnedOver_4 k0 f z0 (y2 + 1)
def r2_turnedOver (x0 : Int32) : Option (Int32) := (l2_turnedOver_4 x0 FU 0 0).bind fun z0 => some z0
set_option maxHeartbeats 4000000 in
set_option maxRecDepth 100000 in
theorem t2_turnedOver_4 (X : Nat × (Nat → Int32)) (Q : mQ) (s : Nat) (I : mI) (k0 : Int32) : ∀ (f : Nat) (y1 : Int32) (y2 : Int32) (z : Int32), l2_turnedOver_4 k0 f y1 y2 = some z → mV X m2_turnedOver 0 0 0 36 [.int k0, .int z, mX0] [] NN KK I (PP s) Q → mV X m2_turnedOver 0 0 0 4 [.int k0, .int y1, .int y2] [] NN KK I (PP s) Q := by
  intro f
  induction f with
  | zero => intro y1 y2 z hr hk; cases hr
  | succ f ih =>
    intro y1 y2 z hr hk
    unfold l2_turnedOver_4 at hr
    refine mV_iload f2_turnedOver_4 rfl ?_
    refine mV_push f2_turnedOver_5 ?_
    refine mV_icmp_ge f2_turnedOver_7 (fun h0 => ?_) (fun h0 => ?_)
    · rw [if_pos h0] at hr
      have hr := Option.some.inj hr; subst hr
      refine mV_drop (L' := [.int k0, .int y1, mX0]) (mSub_k (mSub_k (mSub_x mSub_n))) ?_
      exact hk
    · rw [if_neg h0] at hr
      refine mV_iload f2_turnedOver_10 rfl ?_
      refine mV_iload f2_turnedOver_11 rfl ?_
      refine mV_ishr f2_turnedOver_12 ?_
      refine mV_push f2_turnedOver_13 ?_
      refine mV_iand f2_turnedOver_14 ?_
      obtain ⟨z0, hz0, hr⟩ := mBind hr
      have keyz0 : mV X m2_turnedOver 0 0 0 30 [.int k0, .int z0, .int y2] [] NN KK I (PP s) Q := by
        refine mV_iinc (y := (y2 + 1)) (L' := [.int k0, .int z0, .int (y2 + 1)]) f2_turnedOver_30 rfl rfl (by decide) rfl rfl ?_
        refine mV_goto f2_turnedOver_33 ?_
        exact ih z0 (y2 + 1) _ hr hk
      clear hr
      have hr := hz0
      clear hz0
      refine mV_if_eq f2_turnedOver_15 (fun h1 => ?_) (fun h1 => ?_)
      · rw [if_pos h1] at hr
        have hr := Option.some.inj hr; subst hr
        exact keyz0
      · rw [if_neg h1] at hr
        refine mV_iload f2_turnedOver_18 rfl ?_
        refine mV_push f2_turnedOver_19 ?_
        refine mV_push f2_turnedOver_20 ?_
        refine mV_iload f2_turnedOver_22 rfl ?_
        refine mV_isub f2_turnedOver_23 ?_
        refine mV_push f2_turnedOver_24 ?_
        refine mV_remC f2_turnedOver_26 (by decide) ?_
        refine mV_ishl f2_turnedOver_27 ?_
        refine mV_ior f2_turnedOver_28 ?_
        refine mV_istore (L' := [.int k0, .int (y1 ||| (1 <<< ((mRm (12 - y2) 12) &&& 31))), .int y2]) f2_turnedOver_29 (by decide) rfl rfl ?_
        have hr := Option.some.inj hr; subst hr
        exact keyz0
set_option maxHeartbeats 4000000 in
set_option maxRecDepth 100000 in
theorem w2_turnedOver (X : Nat × (Nat → Int32)) (I : mI) (s : Nat) (x0 : Int32) (Q : mQ) {res : Int32} (hr : r2_turnedOver x0 = some res) (hQ : Q (some (.int res)) NN KK I (PP s)) : mV X m2_turnedOver 0 0 0 0 [.int x0, mX0, mX0] [] NN KK I (PP s) Q := by
  unfold r2_turnedOver at hr
  refine mV_push f2_turnedOver_0 ?_
  refine mV_istore (L' := [.int x0, .int 0, mX0]) f2_turnedOver_1 (by decide) rfl rfl ?_
  refine mV_push f2_turnedOver_2 ?_
  refine mV_istore (L' := [.int x0, .int 0, .int 0]) f2_turnedOver_3 (by decide) rfl rfl ?_
  obtain ⟨z0, hz0, hr⟩ := mBind hr
  refine t2_turnedOver_4 X Q s I x0 FU 0 0 _ hz0 ?_
  refine mV_iload f2_turnedOver_36 rfl ?_
  have hr := Option.some.inj hr; subst hr
  exact mV_iret rfl rfl f2_turnedOver_37 hQ
theorem c2_turnedOver (X : Nat × (Nat → Int32)) (I : mI) (s : Nat) (x0 : Int32) {res : Int32} (hr : r2_turnedOver x0 = some res) : mC X m2_turnedOver 0 0 0 [.int x0] NN KK I (PP s) (mRet (some (.int res)) NN KK I (PP s)) :=
  mC_of (L0 := [.int x0, mX0, mX0]) rfl (Nat.le_of_ble_eq_true rfl) (w2_turnedOver X I s x0 _ hr (mRet_ok _ _ _ _ _))
def l2_movedTo_2 (k0 : Int32) (k1 : Int32) : Nat → Int32 → Option ((Int32) ⊕ (Unit))
  | 0, _ => none
  | f + 1, y2 => if (12 : Int32) ≤ (y2 : Int32) then some (.inr ()) else if ((r2_movedBy k0 y2) : Int32) = (k1 : Int32) then some (.inl y2) else l2_movedTo_2 k0 k1 f (y2 + 1)
def r2_movedTo (x0 : Int32) (x1 : Int32) : Option (Int32) := (l2_movedTo_2 x0 x1 FU 0).bind fun z0 => match z0 with | .inl rz0 => some rz0 | .inr wz0 => some (-1)
set_option maxHeartbeats 4000000 in
set_option maxRecDepth 100000 in
theorem t2_movedTo_2 (X : Nat × (Nat → Int32)) (Q : mQ) (s : Nat) (I : mI) (k0 : Int32) (k1 : Int32) : ∀ (f : Nat) (y2 : Int32) (z : (Int32) ⊕ (Unit)), l2_movedTo_2 k0 k1 f y2 = some z → (∀ res, z = .inl res → Q (some (.int res)) NN KK I (PP s)) → (∀ w, z = .inr w → mV X m2_movedTo 1 0 0 25 [.int k0, .int k1, mX0] [] NN KK I (PP s) Q) → mV X m2_movedTo 1 0 0 2 [.int k0, .int k1, .int y2] [] NN KK I (PP s) Q := by
  intro f
  induction f with
  | zero => intro y2 z hr hret hk; cases hr
  | succ f ih =>
    intro y2 z hr hret hk
    unfold l2_movedTo_2 at hr
    refine mV_iload f2_movedTo_2 rfl ?_
    refine mV_push f2_movedTo_3 ?_
    refine mV_icmp_ge f2_movedTo_5 (fun h0 => ?_) (fun h0 => ?_)
    · rw [if_pos h0] at hr
      have hr := Option.some.inj hr; subst hr
      refine mV_drop (L' := [.int k0, .int k1, mX0]) (mSub_k (mSub_k (mSub_x mSub_n))) ?_
      exact hk _ rfl
    · rw [if_neg h0] at hr
      refine mV_iload f2_movedTo_8 rfl ?_
      refine mV_iload f2_movedTo_9 rfl ?_
      refine mV_cS f2_movedTo_10 tg_m2_movedBy (mC_deep (c2_movedBy X I s k0 y2 rfl) (by decide)) rfl rfl (Nat.le_of_ble_eq_true rfl) ?_
      refine mV_iload f2_movedTo_13 rfl ?_
      refine mV_icmp_ne f2_movedTo_14 (fun h1 => ?_) (fun h1 => ?_)
      · rw [if_neg h1] at hr
        refine mV_iinc (y := (y2 + 1)) (L' := [.int k0, .int k1, .int (y2 + 1)]) f2_movedTo_19 rfl rfl (by decide) rfl rfl ?_
        refine mV_goto f2_movedTo_22 ?_
        exact ih (y2 + 1) _ hr hret hk
      · rw [if_pos h1] at hr
        refine mV_iload f2_movedTo_17 rfl ?_
        have hr := Option.some.inj hr; subst hr; have hQ := hret _ rfl
        exact mV_iret rfl rfl f2_movedTo_18 hQ
set_option maxHeartbeats 4000000 in
set_option maxRecDepth 100000 in
theorem w2_movedTo (X : Nat × (Nat → Int32)) (I : mI) (s : Nat) (x0 : Int32) (x1 : Int32) (Q : mQ) {res : Int32} (hr : r2_movedTo x0 x1 = some res) (hQ : Q (some (.int res)) NN KK I (PP s)) : mV X m2_movedTo 1 0 0 0 [.int x0, .int x1, mX0] [] NN KK I (PP s) Q := by
  unfold r2_movedTo at hr
  refine mV_push f2_movedTo_0 ?_
  refine mV_istore (L' := [.int x0, .int x1, .int 0]) f2_movedTo_1 (by decide) rfl rfl ?_
  obtain ⟨z0, hz0, hr⟩ := mBind hr
  refine t2_movedTo_2 X Q s I x0 x1 FU 0 _ hz0 (fun res ez0 => ?_) (fun wz0 ez0 => ?_)
  · rw [ez0] at hr; have hr := Option.some.inj hr; subst hr; exact hQ
  rw [ez0] at hr
  dsimp only at hr
  refine mV_push f2_movedTo_25 ?_
  have hr := Option.some.inj hr; subst hr
  exact mV_iret rfl rfl f2_movedTo_26 hQ
theorem c2_movedTo (X : Nat × (Nat → Int32)) (I : mI) (s : Nat) (x0 : Int32) (x1 : Int32) {res : Int32} (hr : r2_movedTo x0 x1 = some res) : mC X m2_movedTo 1 0 0 [.int x0, .int x1] NN KK I (PP s) (mRet (some (.int res)) NN KK I (PP s)) :=
  mC_of (L0 := [.int x0, .int x1, mX0]) rfl (Nat.le_of_ble_eq_true rfl) (w2_movedTo X I s x0 x1 _ hr (mRet_ok _ _ _ _ _))
def r9_chords (x0 : Int32) (x1 : Int32) (x2 : Int32) : Option (Int32) := if ((r2_isChord x0) : Int32) = (0 : Int32) then some (-1) else if (x2 : Int32) < (0 : Int32) then some (-1) else if (4 : Int32) < (x2 : Int32) then some (-1) else if (2 : Int32) ≤ (x2 : Int32) then if (x2 : Int32) = 0 then (r2_movedTo x0 x1).bind fun z0 => some z0 else if (x2 : Int32) = 1 then (r2_turnedOver x0).bind fun z1 => (r2_movedTo z1 x1).bind fun z2 => some z2 else if (x2 : Int32) = 2 then (r2_bestHold x0).bind fun z3 => some (r2_heldBy x0 z3) else if (x2 : Int32) = 3 then (r2_bestHold x0).bind fun z4 => some z4 else (r2_spanOf x0).bind fun z5 => some z5 else if ((r2_isChord x1) : Int32) = (0 : Int32) then some (-1) else if (x2 : Int32) = 0 then (r2_movedTo x0 x1).bind fun z6 => some z6 else if (x2 : Int32) = 1 then (r2_turnedOver x0).bind fun z7 => (r2_movedTo z7 x1).bind fun z8 => some z8 else if (x2 : Int32) = 2 then (r2_bestHold x0).bind fun z9 => some (r2_heldBy x0 z9) else if (x2 : Int32) = 3 then (r2_bestHold x0).bind fun z10 => some z10 else (r2_spanOf x0).bind fun z11 => some z11
set_option maxHeartbeats 4000000 in
set_option maxRecDepth 100000 in
theorem w9_chords (X : Nat × (Nat → Int32)) (I : mI) (s : Nat) (x0 : Int32) (x1 : Int32) (x2 : Int32) (Q : mQ) {res : Int32} (hr : r9_chords x0 x1 x2 = some res) (hQ : Q (some (.int res)) NN KK I (PP s)) : mV X m9_chords 3 0 0 0 [.ref 0, .int x0, .int x1, .int x2] [] NN KK I (PP s) Q := by
  unfold r9_chords at hr
  refine mV_iload f9_chords_0 rfl ?_
  refine mV_cS f9_chords_1 tg_m2_isChord (mC_deep (c2_isChord X I s x0 rfl) (by decide)) rfl rfl (Nat.le_of_ble_eq_true rfl) ?_
  refine mV_if_eq f9_chords_4 (fun h0 => ?_) (fun h0 => ?_)
  · rw [if_pos h0] at hr
    refine mV_push f9_chords_28 ?_
    have hr := Option.some.inj hr; subst hr
    exact mV_iret rfl rfl f9_chords_29 hQ
  · rw [if_neg h0] at hr
    refine mV_iload f9_chords_7 rfl ?_
    refine mV_if_lt f9_chords_8 (fun h1 => ?_) (fun h1 => ?_)
    · rw [if_pos h1] at hr
      refine mV_push f9_chords_28 ?_
      have hr := Option.some.inj hr; subst hr
      exact mV_iret rfl rfl f9_chords_29 hQ
    · rw [if_neg h1] at hr
      refine mV_iload f9_chords_11 rfl ?_
      refine mV_push f9_chords_12 ?_
      refine mV_icmp_gt f9_chords_13 (fun h2 => ?_) (fun h2 => ?_)
      · rw [if_pos h2] at hr
        refine mV_push f9_chords_28 ?_
        have hr := Option.some.inj hr; subst hr
        exact mV_iret rfl rfl f9_chords_29 hQ
      · rw [if_neg h2] at hr
        refine mV_iload f9_chords_16 rfl ?_
        refine mV_push f9_chords_17 ?_
        refine mV_icmp_ge f9_chords_18 (fun h3 => ?_) (fun h3 => ?_)
        · rw [if_pos h3] at hr
          refine mV_iload f9_chords_30 rfl ?_
          by_cases h4 : x2 = 0
          · rw [if_pos h4] at hr
            refine mV_tabEq (v := 0) f9_chords_31 h4 (by decide) (by decide) (by decide) (by decide : (31 : Int) + 29 = (60 : Nat)) ?_
            refine mV_iload f9_chords_60 rfl ?_
            refine mV_iload f9_chords_61 rfl ?_
            obtain ⟨z0, hz0, hr⟩ := mBind hr
            refine mV_cS f9_chords_62 tg_m2_movedTo (mC_deep (c2_movedTo X I s x0 x1 hz0) (by decide)) rfl rfl (Nat.le_of_ble_eq_true rfl) ?_
            have hr := Option.some.inj hr; subst hr
            exact mV_iret rfl rfl f9_chords_65 hQ
          rw [if_neg h4] at hr
          by_cases h5 : x2 = 1
          · rw [if_pos h5] at hr
            refine mV_tabEq (v := 1) f9_chords_31 h5 (by decide) (by decide) (by decide) (by decide : (31 : Int) + 35 = (66 : Nat)) ?_
            refine mV_iload f9_chords_66 rfl ?_
            obtain ⟨z1, hz1, hr⟩ := mBind hr
            refine mV_cS f9_chords_67 tg_m2_turnedOver (mC_deep (c2_turnedOver X I s x0 hz1) (by decide)) rfl rfl (Nat.le_of_ble_eq_true rfl) ?_
            refine mV_iload f9_chords_70 rfl ?_
            obtain ⟨z2, hz2, hr⟩ := mBind hr
            refine mV_cS f9_chords_71 tg_m2_movedTo (mC_deep (c2_movedTo X I s z1 x1 hz2) (by decide)) rfl rfl (Nat.le_of_ble_eq_true rfl) ?_
            have hr := Option.some.inj hr; subst hr
            exact mV_iret rfl rfl f9_chords_74 hQ
          rw [if_neg h5] at hr
          by_cases h6 : x2 = 2
          · rw [if_pos h6] at hr
            refine mV_tabEq (v := 2) f9_chords_31 h6 (by decide) (by decide) (by decide) (by decide : (31 : Int) + 44 = (75 : Nat)) ?_
            refine mV_iload f9_chords_75 rfl ?_
            refine mV_iload f9_chords_76 rfl ?_
            obtain ⟨z3, hz3, hr⟩ := mBind hr
            refine mV_cS f9_chords_77 tg_m2_bestHold (mC_deep (c2_bestHold X I s x0 hz3) (by decide)) rfl rfl (Nat.le_of_ble_eq_true rfl) ?_
            refine mV_cS f9_chords_80 tg_m2_heldBy (mC_deep (c2_heldBy X I s x0 z3 rfl) (by decide)) rfl rfl (Nat.le_of_ble_eq_true rfl) ?_
            have hr := Option.some.inj hr; subst hr
            exact mV_iret rfl rfl f9_chords_83 hQ
          rw [if_neg h6] at hr
          by_cases h7 : x2 = 3
          · rw [if_pos h7] at hr
            refine mV_tabEq (v := 3) f9_chords_31 h7 (by decide) (by decide) (by decide) (by decide : (31 : Int) + 53 = (84 : Nat)) ?_
            refine mV_iload f9_chords_84 rfl ?_
            obtain ⟨z4, hz4, hr⟩ := mBind hr
            refine mV_cS f9_chords_85 tg_m2_bestHold (mC_deep (c2_bestHold X I s x0 hz4) (by decide)) rfl rfl (Nat.le_of_ble_eq_true rfl) ?_
            have hr := Option.some.inj hr; subst hr
            exact mV_iret rfl rfl f9_chords_88 hQ
          rw [if_neg h7] at hr
          refine mV_tabNo f9_chords_31 [0, 1, 2, 3] (by decide) (List.forall_mem_cons.mpr ⟨h4, (List.forall_mem_cons.mpr ⟨h5, (List.forall_mem_cons.mpr ⟨h6, (List.forall_mem_cons.mpr ⟨h7, (fun _ hc => absurd hc List.not_mem_nil)⟩)⟩)⟩)⟩) (by decide : (31 : Int) + 58 = (89 : Nat)) ?_
          refine mV_iload f9_chords_89 rfl ?_
          obtain ⟨z5, hz5, hr⟩ := mBind hr
          refine mV_cS f9_chords_90 tg_m2_spanOf (mC_deep (c2_spanOf X I s x0 hz5) (by decide)) rfl rfl (Nat.le_of_ble_eq_true rfl) ?_
          have hr := Option.some.inj hr; subst hr
          exact mV_iret rfl rfl f9_chords_93 hQ
        · rw [if_neg h3] at hr
          refine mV_iload f9_chords_21 rfl ?_
          refine mV_cS f9_chords_22 tg_m2_isChord (mC_deep (c2_isChord X I s x1 rfl) (by decide)) rfl rfl (Nat.le_of_ble_eq_true rfl) ?_
          refine mV_if_ne f9_chords_25 (fun h8 => ?_) (fun h8 => ?_)
          · rw [if_neg h8] at hr
            refine mV_iload f9_chords_30 rfl ?_
            by_cases h9 : x2 = 0
            · rw [if_pos h9] at hr
              refine mV_tabEq (v := 0) f9_chords_31 h9 (by decide) (by decide) (by decide) (by decide : (31 : Int) + 29 = (60 : Nat)) ?_
              refine mV_iload f9_chords_60 rfl ?_
              refine mV_iload f9_chords_61 rfl ?_
              obtain ⟨z6, hz6, hr⟩ := mBind hr
              refine mV_cS f9_chords_62 tg_m2_movedTo (mC_deep (c2_movedTo X I s x0 x1 hz6) (by decide)) rfl rfl (Nat.le_of_ble_eq_true rfl) ?_
              have hr := Option.some.inj hr; subst hr
              exact mV_iret rfl rfl f9_chords_65 hQ
            rw [if_neg h9] at hr
            by_cases h10 : x2 = 1
            · rw [if_pos h10] at hr
              refine mV_tabEq (v := 1) f9_chords_31 h10 (by decide) (by decide) (by decide) (by decide : (31 : Int) + 35 = (66 : Nat)) ?_
              refine mV_iload f9_chords_66 rfl ?_
              obtain ⟨z7, hz7, hr⟩ := mBind hr
              refine mV_cS f9_chords_67 tg_m2_turnedOver (mC_deep (c2_turnedOver X I s x0 hz7) (by decide)) rfl rfl (Nat.le_of_ble_eq_true rfl) ?_
              refine mV_iload f9_chords_70 rfl ?_
              obtain ⟨z8, hz8, hr⟩ := mBind hr
              refine mV_cS f9_chords_71 tg_m2_movedTo (mC_deep (c2_movedTo X I s z7 x1 hz8) (by decide)) rfl rfl (Nat.le_of_ble_eq_true rfl) ?_
              have hr := Option.some.inj hr; subst hr
              exact mV_iret rfl rfl f9_chords_74 hQ
            rw [if_neg h10] at hr
            by_cases h11 : x2 = 2
            · rw [if_pos h11] at hr
              refine mV_tabEq (v := 2) f9_chords_31 h11 (by decide) (by decide) (by decide) (by decide : (31 : Int) + 44 = (75 : Nat)) ?_
              refine mV_iload f9_chords_75 rfl ?_
              refine mV_iload f9_chords_76 rfl ?_
              obtain ⟨z9, hz9, hr⟩ := mBind hr
              refine mV_cS f9_chords_77 tg_m2_bestHold (mC_deep (c2_bestHold X I s x0 hz9) (by decide)) rfl rfl (Nat.le_of_ble_eq_true rfl) ?_
              refine mV_cS f9_chords_80 tg_m2_heldBy (mC_deep (c2_heldBy X I s x0 z9 rfl) (by decide)) rfl rfl (Nat.le_of_ble_eq_true rfl) ?_
              have hr := Option.some.inj hr; subst hr
              exact mV_iret rfl rfl f9_chords_83 hQ
            rw [if_neg h11] at hr
            by_cases h12 : x2 = 3
            · rw [if_pos h12] at hr
              refine mV_tabEq (v := 3) f9_chords_31 h12 (by decide) (by decide) (by decide) (by decide : (31 : Int) + 53 = (84 : Nat)) ?_
              refine mV_iload f9_chords_84 rfl ?_
              obtain ⟨z10, hz10, hr⟩ := mBind hr
              refine mV_cS f9_chords_85 tg_m2_bestHold (mC_deep (c2_bestHold X I s x0 hz10) (by decide)) rfl rfl (Nat.le_of_ble_eq_true rfl) ?_
              have hr := Option.some.inj hr; subst hr
              exact mV_iret rfl rfl f9_chords_88 hQ
            rw [if_neg h12] at hr
            refine mV_tabNo f9_chords_31 [0, 1, 2, 3] (by decide) (List.forall_mem_cons.mpr ⟨h9, (List.forall_mem_cons.mpr ⟨h10, (List.forall_mem_cons.mpr ⟨h11, (List.forall_mem_cons.mpr ⟨h12, (fun _ hc => absurd hc List.not_mem_nil)⟩)⟩)⟩)⟩) (by decide : (31 : Int) + 58 = (89 : Nat)) ?_
            refine mV_iload f9_chords_89 rfl ?_
            obtain ⟨z11, hz11, hr⟩ := mBind hr
            refine mV_cS f9_chords_90 tg_m2_spanOf (mC_deep (c2_spanOf X I s x0 hz11) (by decide)) rfl rfl (Nat.le_of_ble_eq_true rfl) ?_
            have hr := Option.some.inj hr; subst hr
            exact mV_iret rfl rfl f9_chords_93 hQ
          · rw [if_pos h8] at hr
            refine mV_push f9_chords_28 ?_
            have hr := Option.some.inj hr; subst hr
            exact mV_iret rfl rfl f9_chords_29 hQ
theorem c9_chords (X : Nat × (Nat → Int32)) (I : mI) (s : Nat) (x0 : Int32) (x1 : Int32) (x2 : Int32) {res : Int32} (hr : r9_chords x0 x1 x2 = some res) : mC X m9_chords 3 0 0 [.ref 0, .int x0, .int x1, .int x2] NN KK I (PP s) (mRet (some (.int res)) NN KK I (PP s)) :=
  mC_of (L0 := [.ref 0, .int x0, .int x1, .int x2]) rfl (Nat.le_of_ble_eq_true rfl) (w9_chords X I s x0 x1 x2 _ hr (mRet_ok _ _ _ _ _))
def r1_addTone (I : mI) (x0 : Int32) : Option (Int32 × mI) := if (x0 : Int32) = ((-1) : Int32) then some (0, (mW I 27 5 0)) else if (x0 : Int32) < (0 : Int32) then some ((-1), I) else if (60 : Int32) < (x0 : Int32) then some ((-1), I) else if (I 27 5 : Int32) < (16 : Int32) then (mSto I 28 16 (I 27 5) x0).bind fun z0 => some ((z0 27 5 + 1), (mW z0 27 5 (z0 27 5 + 1))) else some ((-1), I)
set_option maxHeartbeats 4000000 in
set_option maxRecDepth 100000 in
theorem w1_addTone (X : Nat × (Nat → Int32)) (I : mI) (s : Nat) (x0 : Int32) (Q : mQ) {res : Int32 × mI} (hr : r1_addTone I x0 = some res) (hQ : Q (some (.int res.1)) NN KK res.2 (PP s)) : mV X m1_addTone 0 0 0 0 [.ref 27, .int x0] [] NN KK I (PP s) Q := by
  unfold r1_addTone at hr
  refine mV_iload f1_addTone_0 rfl ?_
  refine mV_push f1_addTone_1 ?_
  refine mV_icmp_ne f1_addTone_2 (fun h0 => ?_) (fun h0 => ?_)
  · rw [if_neg h0] at hr
    refine mV_iload f1_addTone_12 rfl ?_
    refine mV_if_lt f1_addTone_13 (fun h1 => ?_) (fun h1 => ?_)
    · rw [if_pos h1] at hr
      refine mV_push f1_addTone_31 ?_
      have hr := Option.some.inj hr; subst hr
      exact mV_iret rfl rfl f1_addTone_32 hQ
    · rw [if_neg h1] at hr
      refine mV_iload f1_addTone_16 rfl ?_
      refine mV_push f1_addTone_17 ?_
      refine mV_icmp_gt f1_addTone_19 (fun h2 => ?_) (fun h2 => ?_)
      · rw [if_pos h2] at hr
        refine mV_push f1_addTone_31 ?_
        have hr := Option.some.inj hr; subst hr
        exact mV_iret rfl rfl f1_addTone_32 hQ
      · rw [if_neg h2] at hr
        refine mV_aload f1_addTone_22 rfl ?_
        refine mV_gI (I 27 5) f1_addTone_23 (by decide) kk_27 rfl rfl ?_
        refine mV_push f1_addTone_26 ?_
        refine mV_icmp_lt f1_addTone_28 (fun h3 => ?_) (fun h3 => ?_)
        · rw [if_pos h3] at hr
          refine mV_aload f1_addTone_33 rfl ?_
          refine mV_getP f1_addTone_34 (by decide) kk_27 rfl (pp_27_0 _) ?_
          refine mV_aload f1_addTone_37 rfl ?_
          refine mV_gI (I 27 5) f1_addTone_38 (by decide) kk_27 rfl rfl ?_
          refine mV_iload f1_addTone_41 rfl ?_
          obtain ⟨z0, hz0, hr⟩ := mBind hr
          refine mV_stO f1_addTone_42 (by decide) kk_28 hz0 ?_
          refine mV_aload f1_addTone_43 rfl ?_
          refine mV_dup f1_addTone_44 rfl ?_
          refine mV_gI (z0 27 5) f1_addTone_45 (by decide) kk_27 rfl rfl ?_
          refine mV_push f1_addTone_48 ?_
          refine mV_iadd f1_addTone_49 ?_
          refine mV_putI f1_addTone_50 (by decide) kk_27 rfl rfl ?_
          refine mV_aload f1_addTone_53 rfl ?_
          refine mV_gI (z0 27 5 + 1) f1_addTone_54 (by decide) kk_27 rfl rfl ?_
          have hr := Option.some.inj hr; subst hr
          exact mV_iret rfl rfl f1_addTone_57 hQ
        · rw [if_neg h3] at hr
          refine mV_push f1_addTone_31 ?_
          have hr := Option.some.inj hr; subst hr
          exact mV_iret rfl rfl f1_addTone_32 hQ
  · rw [if_pos h0] at hr
    refine mV_aload f1_addTone_5 rfl ?_
    refine mV_push f1_addTone_6 ?_
    refine mV_putI f1_addTone_7 (by decide) kk_27 rfl rfl ?_
    refine mV_push f1_addTone_10 ?_
    have hr := Option.some.inj hr; subst hr
    exact mV_iret rfl rfl f1_addTone_11 hQ
theorem c1_addTone (X : Nat × (Nat → Int32)) (I : mI) (s : Nat) (x0 : Int32) {res : Int32 × mI} (hr : r1_addTone I x0 = some res) : mC X m1_addTone 0 0 0 [.ref 27, .int x0] NN KK I (PP s) (mRet (some (.int res.1)) NN KK res.2 (PP s)) :=
  mC_of (L0 := [.ref 27, .int x0]) rfl (Nat.le_of_ble_eq_true rfl) (w1_addTone X I s x0 _ hr (mRet_ok _ _ _ _ _))
def r9_tone (I : mI) (x0 : Int32) : Option (Int32 × mI) := (r1_addTone I x0).bind fun z0 => some (z0.1, z0.2)
set_option maxHeartbeats 4000000 in
set_option maxRecDepth 100000 in
theorem w9_tone (X : Nat × (Nat → Int32)) (I : mI) (s : Nat) (x0 : Int32) (Q : mQ) {res : Int32 × mI} (hr : r9_tone I x0 = some res) (hQ : Q (some (.int res.1)) NN KK res.2 (PP s)) : mV X m9_tone 1 0 0 0 [.ref 0, .int x0] [] NN KK I (PP s) Q := by
  unfold r9_tone at hr
  refine mV_aload f9_tone_0 rfl ?_
  refine mV_getP f9_tone_1 (by decide) kk_0 rfl (pp_0_1 _) ?_
  refine mV_getP f9_tone_4 (by decide) kk_2 rfl (pp_2_6 _) ?_
  refine mV_iload f9_tone_7 rfl ?_
  obtain ⟨z0, hz0, hr⟩ := mBind hr
  refine mV_cV f9_tone_8 tg_m1_addTone mCls1 (by decide) kk_27 (mC_deep (c1_addTone X I s x0 hz0) (by decide)) rfl rfl (Nat.le_of_ble_eq_true rfl) ?_
  have hr := Option.some.inj hr; subst hr
  exact mV_iret rfl rfl f9_tone_11 hQ
theorem c9_tone (X : Nat × (Nat → Int32)) (I : mI) (s : Nat) (x0 : Int32) {res : Int32 × mI} (hr : r9_tone I x0 = some res) : mC X m9_tone 1 0 0 [.ref 0, .int x0] NN KK I (PP s) (mRet (some (.int res.1)) NN KK res.2 (PP s)) :=
  mC_of (L0 := [.ref 0, .int x0]) rfl (Nat.le_of_ble_eq_true rfl) (w9_tone X I s x0 _ hr (mRet_ok _ _ _ _ _))
def r1_stepCost (I : mI) (x0 : Int32) (x1 : Int32) (x2 : Int32) : Option (Int32) := (mLd I 28 16 (x0 + 1)).bind fun z0 => (mLd I 28 16 x0).bind fun z1 => (if (x1 : Int32) = (x2 : Int32) then if ((z0 - z1) : Int32) = (0 : Int32) then some (mAbs ((z0 - z1) - (2 * (x2 - x1)))) else some ((mAbs ((z0 - z1) - (2 * (x2 - x1)))) + 9) else some (mAbs ((z0 - z1) - (2 * (x2 - x1)))) : Option (Int32)).bind fun z2 => some z2
set_option maxHeartbeats 4000000 in
set_option maxRecDepth 100000 in
theorem w1_stepCost (X : Nat × (Nat → Int32)) (I : mI) (s : Nat) (x0 : Int32) (x1 : Int32) (x2 : Int32) (Q : mQ) {res : Int32} (hr : r1_stepCost I x0 x1 x2 = some res) (hQ : Q (some (.int res)) NN KK I (PP s)) : mV X m1_stepCost 1 0 0 0 [.ref 27, .int x0, .int x1, .int x2, mX0, mX0] [] NN KK I (PP s) Q := by
  unfold r1_stepCost at hr
  refine mV_aload f1_stepCost_0 rfl ?_
  refine mV_getP f1_stepCost_1 (by decide) kk_27 rfl (pp_27_0 _) ?_
  refine mV_iload f1_stepCost_4 rfl ?_
  refine mV_push f1_stepCost_5 ?_
  refine mV_iadd f1_stepCost_6 ?_
  obtain ⟨z0, hz0, hr⟩ := mBind hr
  refine mV_ldO f1_stepCost_7 (by decide) kk_28 hz0 ?_
  refine mV_aload f1_stepCost_8 rfl ?_
  refine mV_getP f1_stepCost_9 (by decide) kk_27 rfl (pp_27_0 _) ?_
  refine mV_iload f1_stepCost_12 rfl ?_
  obtain ⟨z1, hz1, hr⟩ := mBind hr
  refine mV_ldO f1_stepCost_13 (by decide) kk_28 hz1 ?_
  refine mV_isub f1_stepCost_14 ?_
  refine mV_istore (L' := [.ref 27, .int x0, .int x1, .int x2, .int (z0 - z1), mX0]) f1_stepCost_15 (by decide) rfl rfl ?_
  refine mV_iload f1_stepCost_17 rfl ?_
  refine mV_push f1_stepCost_19 ?_
  refine mV_iload f1_stepCost_20 rfl ?_
  refine mV_iload f1_stepCost_21 rfl ?_
  refine mV_isub f1_stepCost_22 ?_
  refine mV_imul f1_stepCost_23 ?_
  refine mV_isub f1_stepCost_24 ?_
  refine mV_absC fm1_stepCost_25 (Nat.le_of_ble_eq_true rfl) ?_
  refine mV_istore (L' := [.ref 27, .int x0, .int x1, .int x2, .int (z0 - z1), .int (mAbs ((z0 - z1) - (2 * (x2 - x1))))]) f1_stepCost_28 (by decide) rfl rfl ?_
  refine mV_iload f1_stepCost_30 rfl ?_
  refine mV_iload f1_stepCost_31 rfl ?_
  obtain ⟨z2, hz2, hr⟩ := mBind hr
  have keyz2 : mV X m1_stepCost 1 0 0 50 [.ref 27, mX0, mX0, mX0, mX0, mX0] [.int z2] NN KK I (PP s) Q := by
    have hr := Option.some.inj hr; subst hr
    exact mV_iret rfl rfl f1_stepCost_50 hQ
  clear hr
  have hr := hz2
  clear hz2
  refine mV_icmp_ne f1_stepCost_32 (fun h0 => ?_) (fun h0 => ?_)
  · rw [if_neg h0] at hr
    refine mV_iload f1_stepCost_48 rfl ?_
    have hr := Option.some.inj hr; subst hr
    refine mV_drop (L' := [.ref 27, mX0, mX0, mX0, mX0, mX0]) (mSub_k (mSub_x (mSub_x (mSub_x (mSub_x (mSub_x mSub_n)))))) ?_
    exact keyz2
  · rw [if_pos h0] at hr
    refine mV_iload f1_stepCost_35 rfl ?_
    refine mV_if_eq f1_stepCost_37 (fun h1 => ?_) (fun h1 => ?_)
    · rw [if_pos h1] at hr
      refine mV_iload f1_stepCost_48 rfl ?_
      have hr := Option.some.inj hr; subst hr
      refine mV_drop (L' := [.ref 27, mX0, mX0, mX0, mX0, mX0]) (mSub_k (mSub_x (mSub_x (mSub_x (mSub_x (mSub_x mSub_n)))))) ?_
      exact keyz2
    · rw [if_neg h1] at hr
      refine mV_iload f1_stepCost_40 rfl ?_
      refine mV_push f1_stepCost_42 ?_
      refine mV_iadd f1_stepCost_44 ?_
      refine mV_goto f1_stepCost_45 ?_
      have hr := Option.some.inj hr; subst hr
      refine mV_drop (L' := [.ref 27, mX0, mX0, mX0, mX0, mX0]) (mSub_k (mSub_x (mSub_x (mSub_x (mSub_x (mSub_x mSub_n)))))) ?_
      exact keyz2
theorem c1_stepCost (X : Nat × (Nat → Int32)) (I : mI) (s : Nat) (x0 : Int32) (x1 : Int32) (x2 : Int32) {res : Int32} (hr : r1_stepCost I x0 x1 x2 = some res) : mC X m1_stepCost 1 0 0 [.ref 27, .int x0, .int x1, .int x2] NN KK I (PP s) (mRet (some (.int res)) NN KK I (PP s)) :=
  mC_of (L0 := [.ref 27, .int x0, .int x1, .int x2, mX0, mX0]) rfl (Nat.le_of_ble_eq_true rfl) (w1_stepCost X I s x0 x1 x2 _ hr (mRet_ok _ _ _ _ _))
def l1_costFrom_18 (I : mI) (k1 : Int32) (k2 : Int32) : Nat → Int32 → Int32 → Option (Int32)
  | 0, _, _ => none
  | f + 1, y3, y4 => if (5 : Int32) ≤ (y4 : Int32) then some y3 else (r1_stepCost I k1 k2 y4).bind fun z0 => (mLd I 33 80 (((k1 + 1) * 5) + y4)).bind fun z1 => l1_costFrom_18 I k1 k2 f (mMin y3 (z0 + z1)) (y4 + 1)
def r1_costFrom (I : mI) (x0 : Int32) (x1 : Int32) : Option (Int32) := if ((x0 + 1) : Int32) < (I 27 5 : Int32) then (l1_costFrom_18 I x0 x1 FU 1000000 0).bind fun z0 => some z0 else some 0
set_option maxHeartbeats 4000000 in
set_option maxRecDepth 100000 in
theorem t1_costFrom_18 (X : Nat × (Nat → Int32)) (Q : mQ) (s : Nat) (I : mI) (k1 : Int32) (k2 : Int32) : ∀ (f : Nat) (y3 : Int32) (y4 : Int32) (z : Int32), l1_costFrom_18 I k1 k2 f y3 y4 = some z → mV X m1_costFrom 2 0 0 57 [.ref 27, .int k1, .int k2, .int z, mX0] [] NN KK I (PP s) Q → mV X m1_costFrom 2 0 0 18 [.ref 27, .int k1, .int k2, .int y3, .int y4] [] NN KK I (PP s) Q := by
  intro f
  induction f with
  | zero => intro y3 y4 z hr hk; cases hr
  | succ f ih =>
    intro y3 y4 z hr hk
    unfold l1_costFrom_18 at hr
    refine mV_iload f1_costFrom_18 rfl ?_
    refine mV_push f1_costFrom_20 ?_
    refine mV_icmp_ge f1_costFrom_21 (fun h0 => ?_) (fun h0 => ?_)
    · rw [if_pos h0] at hr
      have hr := Option.some.inj hr; subst hr
      refine mV_drop (L' := [.ref 27, .int k1, .int k2, .int y3, mX0]) (mSub_k (mSub_k (mSub_k (mSub_k (mSub_x mSub_n))))) ?_
      exact hk
    · rw [if_neg h0] at hr
      refine mV_iload f1_costFrom_24 rfl ?_
      refine mV_aload f1_costFrom_25 rfl ?_
      refine mV_iload f1_costFrom_26 rfl ?_
      refine mV_iload f1_costFrom_27 rfl ?_
      refine mV_iload f1_costFrom_28 rfl ?_
      obtain ⟨z0, hz0, hr⟩ := mBind hr
      refine mV_cV f1_costFrom_30 tg_m1_stepCost mCls1 (by decide) kk_27 (mC_deep (c1_stepCost X I s k1 k2 y4 hz0) (by decide)) rfl rfl (Nat.le_of_ble_eq_true rfl) ?_
      refine mV_aload f1_costFrom_33 rfl ?_
      refine mV_getP f1_costFrom_34 (by decide) kk_27 rfl (pp_27_7 _) ?_
      refine mV_iload f1_costFrom_37 rfl ?_
      refine mV_push f1_costFrom_38 ?_
      refine mV_iadd f1_costFrom_39 ?_
      refine mV_push f1_costFrom_40 ?_
      refine mV_imul f1_costFrom_41 ?_
      refine mV_iload f1_costFrom_42 rfl ?_
      refine mV_iadd f1_costFrom_44 ?_
      obtain ⟨z1, hz1, hr⟩ := mBind hr
      refine mV_ldO f1_costFrom_45 (by decide) kk_33 hz1 ?_
      refine mV_iadd f1_costFrom_46 ?_
      refine mV_minC fm1_costFrom_47 (Nat.le_of_ble_eq_true rfl) ?_
      refine mV_istore (L' := [.ref 27, .int k1, .int k2, .int (mMin y3 (z0 + z1)), .int y4]) f1_costFrom_50 (by decide) rfl rfl ?_
      refine mV_iinc (y := (y4 + 1)) (L' := [.ref 27, .int k1, .int k2, .int (mMin y3 (z0 + z1)), .int (y4 + 1)]) f1_costFrom_51 rfl rfl (by decide) rfl rfl ?_
      refine mV_goto f1_costFrom_54 ?_
      exact ih (mMin y3 (z0 + z1)) (y4 + 1) _ hr hk
set_option maxHeartbeats 4000000 in
set_option maxRecDepth 100000 in
theorem w1_costFrom (X : Nat × (Nat → Int32)) (I : mI) (s : Nat) (x0 : Int32) (x1 : Int32) (Q : mQ) {res : Int32} (hr : r1_costFrom I x0 x1 = some res) (hQ : Q (some (.int res)) NN KK I (PP s)) : mV X m1_costFrom 2 0 0 0 [.ref 27, .int x0, .int x1, mX0, mX0] [] NN KK I (PP s) Q := by
  unfold r1_costFrom at hr
  refine mV_iload f1_costFrom_0 rfl ?_
  refine mV_push f1_costFrom_1 ?_
  refine mV_iadd f1_costFrom_2 ?_
  refine mV_aload f1_costFrom_3 rfl ?_
  refine mV_gI (I 27 5) f1_costFrom_4 (by decide) kk_27 rfl rfl ?_
  refine mV_icmp_lt f1_costFrom_7 (fun h0 => ?_) (fun h0 => ?_)
  · rw [if_pos h0] at hr
    refine mV_push f1_costFrom_12 ?_
    refine mV_istore (L' := [.ref 27, .int x0, .int x1, .int 1000000, mX0]) f1_costFrom_14 (by decide) rfl rfl ?_
    refine mV_push f1_costFrom_15 ?_
    refine mV_istore (L' := [.ref 27, .int x0, .int x1, .int 1000000, .int 0]) f1_costFrom_16 (by decide) rfl rfl ?_
    obtain ⟨z0, hz0, hr⟩ := mBind hr
    refine t1_costFrom_18 X Q s I x0 x1 FU 1000000 0 _ hz0 ?_
    refine mV_iload f1_costFrom_57 rfl ?_
    have hr := Option.some.inj hr; subst hr
    exact mV_iret rfl rfl f1_costFrom_58 hQ
  · rw [if_neg h0] at hr
    refine mV_push f1_costFrom_10 ?_
    have hr := Option.some.inj hr; subst hr
    exact mV_iret rfl rfl f1_costFrom_11 hQ
theorem c1_costFrom (X : Nat × (Nat → Int32)) (I : mI) (s : Nat) (x0 : Int32) (x1 : Int32) {res : Int32} (hr : r1_costFrom I x0 x1 = some res) : mC X m1_costFrom 2 0 0 [.ref 27, .int x0, .int x1] NN KK I (PP s) (mRet (some (.int res)) NN KK I (PP s)) :=
  mC_of (L0 := [.ref 27, .int x0, .int x1, mX0, mX0]) rfl (Nat.le_of_ble_eq_true rfl) (w1_costFrom X I s x0 x1 _ hr (mRet_ok _ _ _ _ _))
def l1_reckonFingers_13 (k1 : Int32) : Nat → Int32 → mI → Option (mI)
  | 0, _, _ => none
  | f + 1, y2, I => if (5 : Int32) ≤ (y2 : Int32) then some I else (r1_costFrom I k1 y2).bind fun z0 => (mSto I 33 80 ((k1 * 5) + y2) z0).bind fun z1 => l1_reckonFingers_13 k1 f (y2 + 1) z1
def l1_reckonFingers_7 : Nat → Int32 → mI → Option (mI)
  | 0, _, _ => none
  | f + 1, y1, I => if (y1 : Int32) < (0 : Int32) then some I else (l1_reckonFingers_13 y1 FU 0 I).bind fun z0 => l1_reckonFingers_7 f (y1 + (-1)) z0
def r1_reckonFingers (I : mI) : Option (mI) := (l1_reckonFingers_7 FU (I 27 5 - 1) I).bind fun z0 => some z0
set_option maxHeartbeats 4000000 in
set_option maxRecDepth 100000 in
theorem t1_reckonFingers_13 (X : Nat × (Nat → Int32)) (Q : mQ) (s : Nat) (k1 : Int32) : ∀ (f : Nat) (y2 : Int32) (I : mI) (z : mI), l1_reckonFingers_13 k1 f y2 I = some z → mV X m1_reckonFingers 3 0 0 40 [.ref 27, .int k1, mX0] [] NN KK z (PP s) Q → mV X m1_reckonFingers 3 0 0 13 [.ref 27, .int k1, .int y2] [] NN KK I (PP s) Q := by
  intro f
  induction f with
  | zero => intro y2 I z hr hk; cases hr
  | succ f ih =>
    intro y2 I z hr hk
    unfold l1_reckonFingers_13 at hr
    refine mV_iload f1_reckonFingers_13 rfl ?_
    refine mV_push f1_reckonFingers_14 ?_
    refine mV_icmp_ge f1_reckonFingers_15 (fun h0 => ?_) (fun h0 => ?_)
    · rw [if_pos h0] at hr
      have hr := Option.some.inj hr; subst hr
      refine mV_drop (L' := [.ref 27, .int k1, mX0]) (mSub_k (mSub_k (mSub_x mSub_n))) ?_
      exact hk
    · rw [if_neg h0] at hr
      refine mV_aload f1_reckonFingers_18 rfl ?_
      refine mV_getP f1_reckonFingers_19 (by decide) kk_27 rfl (pp_27_7 _) ?_
      refine mV_iload f1_reckonFingers_22 rfl ?_
      refine mV_push f1_reckonFingers_23 ?_
      refine mV_imul f1_reckonFingers_24 ?_
      refine mV_iload f1_reckonFingers_25 rfl ?_
      refine mV_iadd f1_reckonFingers_26 ?_
      refine mV_aload f1_reckonFingers_27 rfl ?_
      refine mV_iload f1_reckonFingers_28 rfl ?_
      refine mV_iload f1_reckonFingers_29 rfl ?_
      obtain ⟨z0, hz0, hr⟩ := mBind hr
      refine mV_cV f1_reckonFingers_30 tg_m1_costFrom mCls1 (by decide) kk_27 (mC_deep (c1_costFrom X I s k1 y2 hz0) (by decide)) rfl rfl (Nat.le_of_ble_eq_true rfl) ?_
      obtain ⟨z1, hz1, hr⟩ := mBind hr
      refine mV_stO f1_reckonFingers_33 (by decide) kk_33 hz1 ?_
      refine mV_iinc (y := (y2 + 1)) (L' := [.ref 27, .int k1, .int (y2 + 1)]) f1_reckonFingers_34 rfl rfl (by decide) rfl rfl ?_
      refine mV_goto f1_reckonFingers_37 ?_
      exact ih (y2 + 1) z1 _ hr hk
set_option maxHeartbeats 4000000 in
set_option maxRecDepth 100000 in
theorem t1_reckonFingers_7 (X : Nat × (Nat → Int32)) (Q : mQ) (s : Nat) : ∀ (f : Nat) (y1 : Int32) (I : mI) (z : mI), l1_reckonFingers_7 f y1 I = some z → mV X m1_reckonFingers 3 0 0 46 [.ref 27, mX0, mX0] [] NN KK z (PP s) Q → mV X m1_reckonFingers 3 0 0 7 [.ref 27, .int y1, mX0] [] NN KK I (PP s) Q := by
  intro f
  induction f with
  | zero => intro y1 I z hr hk; cases hr
  | succ f ih =>
    intro y1 I z hr hk
    unfold l1_reckonFingers_7 at hr
    refine mV_iload f1_reckonFingers_7 rfl ?_
    refine mV_if_lt f1_reckonFingers_8 (fun h0 => ?_) (fun h0 => ?_)
    · rw [if_pos h0] at hr
      have hr := Option.some.inj hr; subst hr
      refine mV_drop (L' := [.ref 27, mX0, mX0]) (mSub_k (mSub_x (mSub_x mSub_n))) ?_
      exact hk
    · rw [if_neg h0] at hr
      refine mV_push f1_reckonFingers_11 ?_
      refine mV_istore (L' := [.ref 27, .int y1, .int 0]) f1_reckonFingers_12 (by decide) rfl rfl ?_
      obtain ⟨z0, hz0, hr⟩ := mBind hr
      refine t1_reckonFingers_13 X Q s y1 FU 0 I _ hz0 ?_
      refine mV_iinc (y := (y1 + (-1))) (L' := [.ref 27, .int (y1 + (-1)), mX0]) f1_reckonFingers_40 rfl rfl (by decide) rfl rfl ?_
      refine mV_goto f1_reckonFingers_43 ?_
      exact ih (y1 + (-1)) z0 _ hr hk
set_option maxHeartbeats 4000000 in
set_option maxRecDepth 100000 in
theorem w1_reckonFingers (X : Nat × (Nat → Int32)) (I : mI) (s : Nat) (Q : mQ) {res : mI} (hr : r1_reckonFingers I = some res) (hQ : Q none NN KK res (PP s)) : mV X m1_reckonFingers 3 0 0 0 [.ref 27, mX0, mX0] [] NN KK I (PP s) Q := by
  unfold r1_reckonFingers at hr
  refine mV_aload f1_reckonFingers_0 rfl ?_
  refine mV_gI (I 27 5) f1_reckonFingers_1 (by decide) kk_27 rfl rfl ?_
  refine mV_push f1_reckonFingers_4 ?_
  refine mV_isub f1_reckonFingers_5 ?_
  refine mV_istore (L' := [.ref 27, .int (I 27 5 - 1), mX0]) f1_reckonFingers_6 (by decide) rfl rfl ?_
  obtain ⟨z0, hz0, hr⟩ := mBind hr
  refine t1_reckonFingers_7 X Q s FU (I 27 5 - 1) I _ hz0 ?_
  have hr := Option.some.inj hr; subst hr
  exact mV_vret rfl f1_reckonFingers_46 hQ
theorem c1_reckonFingers (X : Nat × (Nat → Int32)) (I : mI) (s : Nat) {res : mI} (hr : r1_reckonFingers I = some res) : mC X m1_reckonFingers 3 0 0 [.ref 27] NN KK I (PP s) (mRet none NN KK res (PP s)) :=
  mC_of (L0 := [.ref 27, mX0, mX0]) rfl (Nat.le_of_ble_eq_true rfl) (w1_reckonFingers X I s _ hr (mRet_ok _ _ _ _ _))
def l1_cheapestFirst_4 (I : mI) : Nat → Int32 → Int32 → Option (Int32)
  | 0, _, _ => none
  | f + 1, y1, y2 => if (5 : Int32) ≤ (y2 : Int32) then some y1 else (mLd I 33 80 y2).bind fun z0 => (mLd I 33 80 y1).bind fun z1 => (if (z1 : Int32) ≤ (z0 : Int32) then some y1 else some y2 : Option (Int32)).bind fun z2 => l1_cheapestFirst_4 I f z2 (y2 + 1)
def r1_cheapestFirst (I : mI) : Option (Int32) := (l1_cheapestFirst_4 I FU 0 1).bind fun z0 => some z0
set_option maxHeartbeats 4000000 in
set_option maxRecDepth 100000 in
theorem t1_cheapestFirst_4 (X : Nat × (Nat → Int32)) (Q : mQ) (s : Nat) (I : mI) : ∀ (f : Nat) (y1 : Int32) (y2 : Int32) (z : Int32), l1_cheapestFirst_4 I f y1 y2 = some z → mV X m1_cheapestFirst 0 0 0 32 [.ref 27, .int z, mX0] [] NN KK I (PP s) Q → mV X m1_cheapestFirst 0 0 0 4 [.ref 27, .int y1, .int y2] [] NN KK I (PP s) Q := by
  intro f
  induction f with
  | zero => intro y1 y2 z hr hk; cases hr
  | succ f ih =>
    intro y1 y2 z hr hk
    unfold l1_cheapestFirst_4 at hr
    refine mV_iload f1_cheapestFirst_4 rfl ?_
    refine mV_push f1_cheapestFirst_5 ?_
    refine mV_icmp_ge f1_cheapestFirst_6 (fun h0 => ?_) (fun h0 => ?_)
    · rw [if_pos h0] at hr
      have hr := Option.some.inj hr; subst hr
      refine mV_drop (L' := [.ref 27, .int y1, mX0]) (mSub_k (mSub_k (mSub_x mSub_n))) ?_
      exact hk
    · rw [if_neg h0] at hr
      refine mV_aload f1_cheapestFirst_9 rfl ?_
      refine mV_getP f1_cheapestFirst_10 (by decide) kk_27 rfl (pp_27_7 _) ?_
      refine mV_iload f1_cheapestFirst_13 rfl ?_
      obtain ⟨z0, hz0, hr⟩ := mBind hr
      refine mV_ldO f1_cheapestFirst_14 (by decide) kk_33 hz0 ?_
      refine mV_aload f1_cheapestFirst_15 rfl ?_
      refine mV_getP f1_cheapestFirst_16 (by decide) kk_27 rfl (pp_27_7 _) ?_
      refine mV_iload f1_cheapestFirst_19 rfl ?_
      obtain ⟨z1, hz1, hr⟩ := mBind hr
      refine mV_ldO f1_cheapestFirst_20 (by decide) kk_33 hz1 ?_
      obtain ⟨z2, hz2, hr⟩ := mBind hr
      have keyz2 : mV X m1_cheapestFirst 0 0 0 26 [.ref 27, .int z2, .int y2] [] NN KK I (PP s) Q := by
        refine mV_iinc (y := (y2 + 1)) (L' := [.ref 27, .int z2, .int (y2 + 1)]) f1_cheapestFirst_26 rfl rfl (by decide) rfl rfl ?_
        refine mV_goto f1_cheapestFirst_29 ?_
        exact ih z2 (y2 + 1) _ hr hk
      clear hr
      have hr := hz2
      clear hz2
      refine mV_icmp_ge f1_cheapestFirst_21 (fun h1 => ?_) (fun h1 => ?_)
      · rw [if_pos h1] at hr
        have hr := Option.some.inj hr; subst hr
        exact keyz2
      · rw [if_neg h1] at hr
        refine mV_iload f1_cheapestFirst_24 rfl ?_
        refine mV_istore (L' := [.ref 27, .int y2, .int y2]) f1_cheapestFirst_25 (by decide) rfl rfl ?_
        have hr := Option.some.inj hr; subst hr
        exact keyz2
set_option maxHeartbeats 4000000 in
set_option maxRecDepth 100000 in
theorem w1_cheapestFirst (X : Nat × (Nat → Int32)) (I : mI) (s : Nat) (Q : mQ) {res : Int32} (hr : r1_cheapestFirst I = some res) (hQ : Q (some (.int res)) NN KK I (PP s)) : mV X m1_cheapestFirst 0 0 0 0 [.ref 27, mX0, mX0] [] NN KK I (PP s) Q := by
  unfold r1_cheapestFirst at hr
  refine mV_push f1_cheapestFirst_0 ?_
  refine mV_istore (L' := [.ref 27, .int 0, mX0]) f1_cheapestFirst_1 (by decide) rfl rfl ?_
  refine mV_push f1_cheapestFirst_2 ?_
  refine mV_istore (L' := [.ref 27, .int 0, .int 1]) f1_cheapestFirst_3 (by decide) rfl rfl ?_
  obtain ⟨z0, hz0, hr⟩ := mBind hr
  refine t1_cheapestFirst_4 X Q s I FU 0 1 _ hz0 ?_
  refine mV_iload f1_cheapestFirst_32 rfl ?_
  have hr := Option.some.inj hr; subst hr
  exact mV_iret rfl rfl f1_cheapestFirst_33 hQ
theorem c1_cheapestFirst (X : Nat × (Nat → Int32)) (I : mI) (s : Nat) {res : Int32} (hr : r1_cheapestFirst I = some res) : mC X m1_cheapestFirst 0 0 0 [.ref 27] NN KK I (PP s) (mRet (some (.int res)) NN KK I (PP s)) :=
  mC_of (L0 := [.ref 27, mX0, mX0]) rfl (Nat.le_of_ble_eq_true rfl) (w1_cheapestFirst X I s _ hr (mRet_ok _ _ _ _ _))
def l1_fingerOf_32 (I : mI) (k3 : Int32) (k4 : Int32) : Nat → Int32 → Option (Int32)
  | 0, _ => none
  | f + 1, y5 => if (4 : Int32) ≤ (y5 : Int32) then some y5 else (r1_stepCost I k3 k4 y5).bind fun z0 => (mLd I 33 80 (((k3 + 1) * 5) + y5)).bind fun z1 => (mLd I 33 80 ((k3 * 5) + k4)).bind fun z2 => if ((z0 + z1) : Int32) = (z2 : Int32) then some y5 else l1_fingerOf_32 I k3 k4 f (y5 + 1)
def l1_fingerOf_11 (I : mI) (k1 : Int32) : Nat → Int32 → Int32 → Option (Int32)
  | 0, _, _ => none
  | f + 1, y2, y3 => if (k1 : Int32) ≤ (y3 : Int32) then some y2 else if (I 27 5 : Int32) ≤ ((y3 + 1) : Int32) then some y2 else (l1_fingerOf_32 I y3 y2 FU 0).bind fun z0 => l1_fingerOf_11 I k1 f z0 (y3 + 1)
def r1_fingerOf (I : mI) (x0 : Int32) : Option (Int32 × mI) := (r1_reckonFingers I).bind fun z0 => (r1_cheapestFirst z0).bind fun z1 => (l1_fingerOf_11 z0 x0 FU z1 0).bind fun z2 => some ((z2 + 1), z0)
set_option maxHeartbeats 4000000 in
set_option maxRecDepth 100000 in
theorem t1_fingerOf_32 (X : Nat × (Nat → Int32)) (Q : mQ) (s : Nat) (I : mI) (k1 : Int32) (k3 : Int32) (k4 : Int32) : ∀ (f : Nat) (y5 : Int32) (z : Int32), l1_fingerOf_32 I k3 k4 f y5 = some z → mV X m1_fingerOf 4 0 0 81 [.ref 27, .int k1, mX0, .int k3, .int k4, .int z] [] NN KK I (PP s) Q → mV X m1_fingerOf 4 0 0 32 [.ref 27, .int k1, mX0, .int k3, .int k4, .int y5] [] NN KK I (PP s) Q := by
  intro f
  induction f with
  | zero => intro y5 z hr hk; cases hr
  | succ f ih =>
    intro y5 z hr hk
    unfold l1_fingerOf_32 at hr
    refine mV_iload f1_fingerOf_32 rfl ?_
    refine mV_push f1_fingerOf_34 ?_
    refine mV_icmp_ge f1_fingerOf_35 (fun h0 => ?_) (fun h0 => ?_)
    · rw [if_pos h0] at hr
      have hr := Option.some.inj hr; subst hr
      exact hk
    · rw [if_neg h0] at hr
      refine mV_aload f1_fingerOf_38 rfl ?_
      refine mV_iload f1_fingerOf_39 rfl ?_
      refine mV_iload f1_fingerOf_40 rfl ?_
      refine mV_iload f1_fingerOf_42 rfl ?_
      obtain ⟨z0, hz0, hr⟩ := mBind hr
      refine mV_cV f1_fingerOf_44 tg_m1_stepCost mCls1 (by decide) kk_27 (mC_deep (c1_stepCost X I s k3 k4 y5 hz0) (by decide)) rfl rfl (Nat.le_of_ble_eq_true rfl) ?_
      refine mV_aload f1_fingerOf_47 rfl ?_
      refine mV_getP f1_fingerOf_48 (by decide) kk_27 rfl (pp_27_7 _) ?_
      refine mV_iload f1_fingerOf_51 rfl ?_
      refine mV_push f1_fingerOf_52 ?_
      refine mV_iadd f1_fingerOf_53 ?_
      refine mV_push f1_fingerOf_54 ?_
      refine mV_imul f1_fingerOf_55 ?_
      refine mV_iload f1_fingerOf_56 rfl ?_
      refine mV_iadd f1_fingerOf_58 ?_
      obtain ⟨z1, hz1, hr⟩ := mBind hr
      refine mV_ldO f1_fingerOf_59 (by decide) kk_33 hz1 ?_
      refine mV_iadd f1_fingerOf_60 ?_
      refine mV_aload f1_fingerOf_61 rfl ?_
      refine mV_getP f1_fingerOf_62 (by decide) kk_27 rfl (pp_27_7 _) ?_
      refine mV_iload f1_fingerOf_65 rfl ?_
      refine mV_push f1_fingerOf_66 ?_
      refine mV_imul f1_fingerOf_67 ?_
      refine mV_iload f1_fingerOf_68 rfl ?_
      refine mV_iadd f1_fingerOf_70 ?_
      obtain ⟨z2, hz2, hr⟩ := mBind hr
      refine mV_ldO f1_fingerOf_71 (by decide) kk_33 hz2 ?_
      refine mV_icmp_eq f1_fingerOf_72 (fun h1 => ?_) (fun h1 => ?_)
      · rw [if_pos h1] at hr
        have hr := Option.some.inj hr; subst hr
        exact hk
      · rw [if_neg h1] at hr
        refine mV_iinc (y := (y5 + 1)) (L' := [.ref 27, .int k1, mX0, .int k3, .int k4, .int (y5 + 1)]) f1_fingerOf_75 rfl rfl (by decide) rfl rfl ?_
        refine mV_goto f1_fingerOf_78 ?_
        exact ih (y5 + 1) _ hr hk
set_option maxHeartbeats 4000000 in
set_option maxRecDepth 100000 in
theorem t1_fingerOf_11 (X : Nat × (Nat → Int32)) (Q : mQ) (s : Nat) (I : mI) (k1 : Int32) : ∀ (f : Nat) (y2 : Int32) (y3 : Int32) (z : Int32), l1_fingerOf_11 I k1 f y2 y3 = some z → mV X m1_fingerOf 4 0 0 90 [.ref 27, .int k1, .int z, mX0, mX0, mX0] [] NN KK I (PP s) Q → mV X m1_fingerOf 4 0 0 11 [.ref 27, .int k1, .int y2, .int y3, mX0, mX0] [] NN KK I (PP s) Q := by
  intro f
  induction f with
  | zero => intro y2 y3 z hr hk; cases hr
  | succ f ih =>
    intro y2 y3 z hr hk
    unfold l1_fingerOf_11 at hr
    refine mV_iload f1_fingerOf_11 rfl ?_
    refine mV_iload f1_fingerOf_12 rfl ?_
    refine mV_icmp_ge f1_fingerOf_13 (fun h0 => ?_) (fun h0 => ?_)
    · rw [if_pos h0] at hr
      have hr := Option.some.inj hr; subst hr
      refine mV_drop (L' := [.ref 27, .int k1, .int y2, mX0, mX0, mX0]) (mSub_k (mSub_k (mSub_k (mSub_x (mSub_x (mSub_x mSub_n)))))) ?_
      exact hk
    · rw [if_neg h0] at hr
      refine mV_iload f1_fingerOf_16 rfl ?_
      refine mV_push f1_fingerOf_17 ?_
      refine mV_iadd f1_fingerOf_18 ?_
      refine mV_aload f1_fingerOf_19 rfl ?_
      refine mV_gI (I 27 5) f1_fingerOf_20 (by decide) kk_27 rfl rfl ?_
      refine mV_icmp_ge f1_fingerOf_23 (fun h1 => ?_) (fun h1 => ?_)
      · rw [if_pos h1] at hr
        have hr := Option.some.inj hr; subst hr
        refine mV_drop (L' := [.ref 27, .int k1, .int y2, mX0, mX0, mX0]) (mSub_k (mSub_k (mSub_k (mSub_x (mSub_x (mSub_x mSub_n)))))) ?_
        exact hk
      · rw [if_neg h1] at hr
        refine mV_iload f1_fingerOf_26 rfl ?_
        refine mV_istore (L' := [.ref 27, .int k1, .int y2, .int y3, .int y2, mX0]) f1_fingerOf_27 (by decide) rfl rfl ?_
        refine mV_push f1_fingerOf_29 ?_
        refine mV_istore (L' := [.ref 27, .int k1, .int y2, .int y3, .int y2, .int 0]) f1_fingerOf_30 (by decide) rfl rfl ?_
        obtain ⟨z0, hz0, hr⟩ := mBind hr
        refine mV_drop (L' := [.ref 27, .int k1, mX0, .int y3, .int y2, .int 0]) (mSub_k (mSub_k (mSub_x (mSub_k (mSub_k (mSub_k mSub_n)))))) ?_
        refine t1_fingerOf_32 X Q s I k1 y3 y2 FU 0 _ hz0 ?_
        refine mV_iload f1_fingerOf_81 rfl ?_
        refine mV_istore (L' := [.ref 27, .int k1, .int z0, .int y3, .int y2, .int z0]) f1_fingerOf_83 (by decide) rfl rfl ?_
        refine mV_iinc (y := (y3 + 1)) (L' := [.ref 27, .int k1, .int z0, .int (y3 + 1), .int y2, .int z0]) f1_fingerOf_84 rfl rfl (by decide) rfl rfl ?_
        refine mV_goto f1_fingerOf_87 ?_
        refine mV_drop (L' := [.ref 27, .int k1, .int z0, .int (y3 + 1), mX0, mX0]) (mSub_k (mSub_k (mSub_k (mSub_k (mSub_x (mSub_x mSub_n)))))) ?_
        exact ih z0 (y3 + 1) _ hr hk
set_option maxHeartbeats 4000000 in
set_option maxRecDepth 100000 in
theorem w1_fingerOf (X : Nat × (Nat → Int32)) (I : mI) (s : Nat) (x0 : Int32) (Q : mQ) {res : Int32 × mI} (hr : r1_fingerOf I x0 = some res) (hQ : Q (some (.int res.1)) NN KK res.2 (PP s)) : mV X m1_fingerOf 4 0 0 0 [.ref 27, .int x0, mX0, mX0, mX0, mX0] [] NN KK I (PP s) Q := by
  unfold r1_fingerOf at hr
  refine mV_aload f1_fingerOf_0 rfl ?_
  obtain ⟨z0, hz0, hr⟩ := mBind hr
  refine mV_cV f1_fingerOf_1 tg_m1_reckonFingers mCls1 (by decide) kk_27 (mC_deep (c1_reckonFingers X I s hz0) (by decide)) rfl rfl (Nat.le_of_ble_eq_true rfl) ?_
  refine mV_aload f1_fingerOf_4 rfl ?_
  obtain ⟨z1, hz1, hr⟩ := mBind hr
  refine mV_cV f1_fingerOf_5 tg_m1_cheapestFirst mCls1 (by decide) kk_27 (mC_deep (c1_cheapestFirst X z0 s hz1) (by decide)) rfl rfl (Nat.le_of_ble_eq_true rfl) ?_
  refine mV_istore (L' := [.ref 27, .int x0, .int z1, mX0, mX0, mX0]) f1_fingerOf_8 (by decide) rfl rfl ?_
  refine mV_push f1_fingerOf_9 ?_
  refine mV_istore (L' := [.ref 27, .int x0, .int z1, .int 0, mX0, mX0]) f1_fingerOf_10 (by decide) rfl rfl ?_
  obtain ⟨z2, hz2, hr⟩ := mBind hr
  refine t1_fingerOf_11 X Q s z0 x0 FU z1 0 _ hz2 ?_
  refine mV_iload f1_fingerOf_90 rfl ?_
  refine mV_push f1_fingerOf_91 ?_
  refine mV_iadd f1_fingerOf_92 ?_
  have hr := Option.some.inj hr; subst hr
  exact mV_iret rfl rfl f1_fingerOf_93 hQ
theorem c1_fingerOf (X : Nat × (Nat → Int32)) (I : mI) (s : Nat) (x0 : Int32) {res : Int32 × mI} (hr : r1_fingerOf I x0 = some res) : mC X m1_fingerOf 4 0 0 [.ref 27, .int x0] NN KK I (PP s) (mRet (some (.int res.1)) NN KK res.2 (PP s)) :=
  mC_of (L0 := [.ref 27, .int x0, mX0, mX0, mX0, mX0]) rfl (Nat.le_of_ble_eq_true rfl) (w1_fingerOf X I s x0 _ hr (mRet_ok _ _ _ _ _))
def r1_fingersCost (I : mI) : Option (Int32 × mI) := if (I 27 5 : Int32) = (0 : Int32) then some (0, I) else (r1_reckonFingers I).bind fun z0 => (r1_cheapestFirst z0).bind fun z1 => (mLd z0 33 80 z1).bind fun z2 => some (z2, z0)
set_option maxHeartbeats 4000000 in
set_option maxRecDepth 100000 in
theorem w1_fingersCost (X : Nat × (Nat → Int32)) (I : mI) (s : Nat) (Q : mQ) {res : Int32 × mI} (hr : r1_fingersCost I = some res) (hQ : Q (some (.int res.1)) NN KK res.2 (PP s)) : mV X m1_fingersCost 4 0 0 0 [.ref 27] [] NN KK I (PP s) Q := by
  unfold r1_fingersCost at hr
  refine mV_aload f1_fingersCost_0 rfl ?_
  refine mV_gI (I 27 5) f1_fingersCost_1 (by decide) kk_27 rfl rfl ?_
  refine mV_if_ne f1_fingersCost_4 (fun h0 => ?_) (fun h0 => ?_)
  · rw [if_neg h0] at hr
    refine mV_aload f1_fingersCost_9 rfl ?_
    obtain ⟨z0, hz0, hr⟩ := mBind hr
    refine mV_cV f1_fingersCost_10 tg_m1_reckonFingers mCls1 (by decide) kk_27 (mC_deep (c1_reckonFingers X I s hz0) (by decide)) rfl rfl (Nat.le_of_ble_eq_true rfl) ?_
    refine mV_aload f1_fingersCost_13 rfl ?_
    refine mV_getP f1_fingersCost_14 (by decide) kk_27 rfl (pp_27_7 _) ?_
    refine mV_aload f1_fingersCost_17 rfl ?_
    obtain ⟨z1, hz1, hr⟩ := mBind hr
    refine mV_cV f1_fingersCost_18 tg_m1_cheapestFirst mCls1 (by decide) kk_27 (mC_deep (c1_cheapestFirst X z0 s hz1) (by decide)) rfl rfl (Nat.le_of_ble_eq_true rfl) ?_
    obtain ⟨z2, hz2, hr⟩ := mBind hr
    refine mV_ldO f1_fingersCost_21 (by decide) kk_33 hz2 ?_
    have hr := Option.some.inj hr; subst hr
    exact mV_iret rfl rfl f1_fingersCost_22 hQ
  · rw [if_pos h0] at hr
    refine mV_push f1_fingersCost_7 ?_
    have hr := Option.some.inj hr; subst hr
    exact mV_iret rfl rfl f1_fingersCost_8 hQ
theorem c1_fingersCost (X : Nat × (Nat → Int32)) (I : mI) (s : Nat) {res : Int32 × mI} (hr : r1_fingersCost I = some res) : mC X m1_fingersCost 4 0 0 [.ref 27] NN KK I (PP s) (mRet (some (.int res.1)) NN KK res.2 (PP s)) :=
  mC_of (L0 := [.ref 27]) rfl (Nat.le_of_ble_eq_true rfl) (w1_fingersCost X I s _ hr (mRet_ok _ _ _ _ _))
def l1_longestRise_6 (I : mI) : Nat → Int32 → Int32 → Int32 → Option (Int32)
  | 0, _, _, _ => none
  | f + 1, y1, y2, y3 => if (I 27 5 : Int32) ≤ (y3 : Int32) then some y1 else (if (y3 : Int32) ≤ (0 : Int32) then some 1 else (mLd I 28 16 y3).bind fun z1 => (mLd I 28 16 (y3 - 1)).bind fun z2 => if (z1 : Int32) ≤ (z2 : Int32) then some 1 else some (y2 + 1) : Option (Int32)).bind fun z0 => l1_longestRise_6 I f (mMax y1 z0) z0 (y3 + 1)
def r1_longestRise (I : mI) : Option (Int32) := (l1_longestRise_6 I FU 0 0 0).bind fun z0 => some z0
set_option maxHeartbeats 4000000 in
set_option maxRecDepth 100000 in
theorem t1_longestRise_6 (X : Nat × (Nat → Int32)) (Q : mQ) (s : Nat) (I : mI) : ∀ (f : Nat) (y1 : Int32) (y2 : Int32) (y3 : Int32) (z : Int32), l1_longestRise_6 I f y1 y2 y3 = some z → mV X m1_longestRise 1 0 0 55 [.ref 27, .int z, mX0, mX0] [] NN KK I (PP s) Q → mV X m1_longestRise 1 0 0 6 [.ref 27, .int y1, .int y2, .int y3] [] NN KK I (PP s) Q := by
  intro f
  induction f with
  | zero => intro y1 y2 y3 z hr hk; cases hr
  | succ f ih =>
    intro y1 y2 y3 z hr hk
    unfold l1_longestRise_6 at hr
    refine mV_iload f1_longestRise_6 rfl ?_
    refine mV_aload f1_longestRise_7 rfl ?_
    refine mV_gI (I 27 5) f1_longestRise_8 (by decide) kk_27 rfl rfl ?_
    refine mV_icmp_ge f1_longestRise_11 (fun h0 => ?_) (fun h0 => ?_)
    · rw [if_pos h0] at hr
      have hr := Option.some.inj hr; subst hr
      refine mV_drop (L' := [.ref 27, .int y1, mX0, mX0]) (mSub_k (mSub_k (mSub_x (mSub_x mSub_n)))) ?_
      exact hk
    · rw [if_neg h0] at hr
      refine mV_iload f1_longestRise_14 rfl ?_
      obtain ⟨z0, hz0, hr⟩ := mBind hr
      have keyz0 : mV X m1_longestRise 1 0 0 42 [.ref 27, .int y1, mX0, .int y3] [.int z0] NN KK I (PP s) Q := by
        refine mV_istore (L' := [.ref 27, .int y1, .int z0, .int y3]) f1_longestRise_42 (by decide) rfl rfl ?_
        refine mV_iload f1_longestRise_43 rfl ?_
        refine mV_iload f1_longestRise_44 rfl ?_
        refine mV_maxC fm1_longestRise_45 (Nat.le_of_ble_eq_true rfl) ?_
        refine mV_istore (L' := [.ref 27, .int (mMax y1 z0), .int z0, .int y3]) f1_longestRise_48 (by decide) rfl rfl ?_
        refine mV_iinc (y := (y3 + 1)) (L' := [.ref 27, .int (mMax y1 z0), .int z0, .int (y3 + 1)]) f1_longestRise_49 rfl rfl (by decide) rfl rfl ?_
        refine mV_goto f1_longestRise_52 ?_
        exact ih (mMax y1 z0) z0 (y3 + 1) _ hr hk
      clear hr
      have hr := hz0
      clear hz0
      refine mV_if_le f1_longestRise_15 (fun h1 => ?_) (fun h1 => ?_)
      · rw [if_pos h1] at hr
        refine mV_push f1_longestRise_41 ?_
        have hr := Option.some.inj hr; subst hr
        refine mV_drop (L' := [.ref 27, .int y1, mX0, .int y3]) (mSub_k (mSub_k (mSub_x (mSub_k mSub_n)))) ?_
        exact keyz0
      · rw [if_neg h1] at hr
        refine mV_aload f1_longestRise_18 rfl ?_
        refine mV_getP f1_longestRise_19 (by decide) kk_27 rfl (pp_27_0 _) ?_
        refine mV_iload f1_longestRise_22 rfl ?_
        obtain ⟨z1, hz1, hr⟩ := mBind hr
        refine mV_ldO f1_longestRise_23 (by decide) kk_28 hz1 ?_
        refine mV_aload f1_longestRise_24 rfl ?_
        refine mV_getP f1_longestRise_25 (by decide) kk_27 rfl (pp_27_0 _) ?_
        refine mV_iload f1_longestRise_28 rfl ?_
        refine mV_push f1_longestRise_29 ?_
        refine mV_isub f1_longestRise_30 ?_
        obtain ⟨z2, hz2, hr⟩ := mBind hr
        refine mV_ldO f1_longestRise_31 (by decide) kk_28 hz2 ?_
        refine mV_icmp_le f1_longestRise_32 (fun h2 => ?_) (fun h2 => ?_)
        · rw [if_pos h2] at hr
          refine mV_push f1_longestRise_41 ?_
          have hr := Option.some.inj hr; subst hr
          refine mV_drop (L' := [.ref 27, .int y1, mX0, .int y3]) (mSub_k (mSub_k (mSub_x (mSub_k mSub_n)))) ?_
          exact keyz0
        · rw [if_neg h2] at hr
          refine mV_iload f1_longestRise_35 rfl ?_
          refine mV_push f1_longestRise_36 ?_
          refine mV_iadd f1_longestRise_37 ?_
          refine mV_goto f1_longestRise_38 ?_
          have hr := Option.some.inj hr; subst hr
          refine mV_drop (L' := [.ref 27, .int y1, mX0, .int y3]) (mSub_k (mSub_k (mSub_x (mSub_k mSub_n)))) ?_
          exact keyz0
set_option maxHeartbeats 4000000 in
set_option maxRecDepth 100000 in
theorem w1_longestRise (X : Nat × (Nat → Int32)) (I : mI) (s : Nat) (Q : mQ) {res : Int32} (hr : r1_longestRise I = some res) (hQ : Q (some (.int res)) NN KK I (PP s)) : mV X m1_longestRise 1 0 0 0 [.ref 27, mX0, mX0, mX0] [] NN KK I (PP s) Q := by
  unfold r1_longestRise at hr
  refine mV_push f1_longestRise_0 ?_
  refine mV_istore (L' := [.ref 27, .int 0, mX0, mX0]) f1_longestRise_1 (by decide) rfl rfl ?_
  refine mV_push f1_longestRise_2 ?_
  refine mV_istore (L' := [.ref 27, .int 0, .int 0, mX0]) f1_longestRise_3 (by decide) rfl rfl ?_
  refine mV_push f1_longestRise_4 ?_
  refine mV_istore (L' := [.ref 27, .int 0, .int 0, .int 0]) f1_longestRise_5 (by decide) rfl rfl ?_
  obtain ⟨z0, hz0, hr⟩ := mBind hr
  refine t1_longestRise_6 X Q s I FU 0 0 0 _ hz0 ?_
  refine mV_iload f1_longestRise_55 rfl ?_
  have hr := Option.some.inj hr; subst hr
  exact mV_iret rfl rfl f1_longestRise_56 hQ
theorem c1_longestRise (X : Nat × (Nat → Int32)) (I : mI) (s : Nat) {res : Int32} (hr : r1_longestRise I = some res) : mC X m1_longestRise 1 0 0 [.ref 27] NN KK I (PP s) (mRet (some (.int res)) NN KK I (PP s)) :=
  mC_of (L0 := [.ref 27, mX0, mX0, mX0]) rfl (Nat.le_of_ble_eq_true rfl) (w1_longestRise X I s _ hr (mRet_ok _ _ _ _ _))
def l1_goAlike_2 (I : mI) (k1 : Int32) (k2 : Int32) : Nat → Int32 → Option (Int32)
  | 0, _ => none
  | f + 1, y3 => if (I 27 5 : Int32) ≤ ((k2 + y3) : Int32) then some y3 else (mLd I 28 16 (k1 + y3)).bind fun z0 => (mLd I 28 16 k1).bind fun z1 => (mLd I 28 16 (k2 + y3)).bind fun z2 => (mLd I 28 16 k2).bind fun z3 => if ((z0 - z1) : Int32) = ((z2 - z3) : Int32) then l1_goAlike_2 I k1 k2 f (y3 + 1) else some y3
def r1_goAlike (I : mI) (x0 : Int32) (x1 : Int32) : Option (Int32) := (l1_goAlike_2 I x0 x1 FU 0).bind fun z0 => some z0
set_option maxHeartbeats 4000000 in
set_option maxRecDepth 100000 in
theorem t1_goAlike_2 (X : Nat × (Nat → Int32)) (Q : mQ) (s : Nat) (I : mI) (k1 : Int32) (k2 : Int32) : ∀ (f : Nat) (y3 : Int32) (z : Int32), l1_goAlike_2 I k1 k2 f y3 = some z → mV X m1_goAlike 0 0 0 51 [.ref 27, .int k1, .int k2, .int z] [] NN KK I (PP s) Q → mV X m1_goAlike 0 0 0 2 [.ref 27, .int k1, .int k2, .int y3] [] NN KK I (PP s) Q := by
  intro f
  induction f with
  | zero => intro y3 z hr hk; cases hr
  | succ f ih =>
    intro y3 z hr hk
    unfold l1_goAlike_2 at hr
    refine mV_iload f1_goAlike_2 rfl ?_
    refine mV_iload f1_goAlike_3 rfl ?_
    refine mV_iadd f1_goAlike_4 ?_
    refine mV_aload f1_goAlike_5 rfl ?_
    refine mV_gI (I 27 5) f1_goAlike_6 (by decide) kk_27 rfl rfl ?_
    refine mV_icmp_ge f1_goAlike_9 (fun h0 => ?_) (fun h0 => ?_)
    · rw [if_pos h0] at hr
      have hr := Option.some.inj hr; subst hr
      exact hk
    · rw [if_neg h0] at hr
      refine mV_aload f1_goAlike_12 rfl ?_
      refine mV_getP f1_goAlike_13 (by decide) kk_27 rfl (pp_27_0 _) ?_
      refine mV_iload f1_goAlike_16 rfl ?_
      refine mV_iload f1_goAlike_17 rfl ?_
      refine mV_iadd f1_goAlike_18 ?_
      obtain ⟨z0, hz0, hr⟩ := mBind hr
      refine mV_ldO f1_goAlike_19 (by decide) kk_28 hz0 ?_
      refine mV_aload f1_goAlike_20 rfl ?_
      refine mV_getP f1_goAlike_21 (by decide) kk_27 rfl (pp_27_0 _) ?_
      refine mV_iload f1_goAlike_24 rfl ?_
      obtain ⟨z1, hz1, hr⟩ := mBind hr
      refine mV_ldO f1_goAlike_25 (by decide) kk_28 hz1 ?_
      refine mV_isub f1_goAlike_26 ?_
      refine mV_aload f1_goAlike_27 rfl ?_
      refine mV_getP f1_goAlike_28 (by decide) kk_27 rfl (pp_27_0 _) ?_
      refine mV_iload f1_goAlike_31 rfl ?_
      refine mV_iload f1_goAlike_32 rfl ?_
      refine mV_iadd f1_goAlike_33 ?_
      obtain ⟨z2, hz2, hr⟩ := mBind hr
      refine mV_ldO f1_goAlike_34 (by decide) kk_28 hz2 ?_
      refine mV_aload f1_goAlike_35 rfl ?_
      refine mV_getP f1_goAlike_36 (by decide) kk_27 rfl (pp_27_0 _) ?_
      refine mV_iload f1_goAlike_39 rfl ?_
      obtain ⟨z3, hz3, hr⟩ := mBind hr
      refine mV_ldO f1_goAlike_40 (by decide) kk_28 hz3 ?_
      refine mV_isub f1_goAlike_41 ?_
      refine mV_icmp_ne f1_goAlike_42 (fun h1 => ?_) (fun h1 => ?_)
      · rw [if_neg h1] at hr
        have hr := Option.some.inj hr; subst hr
        exact hk
      · rw [if_pos h1] at hr
        refine mV_iinc (y := (y3 + 1)) (L' := [.ref 27, .int k1, .int k2, .int (y3 + 1)]) f1_goAlike_45 rfl rfl (by decide) rfl rfl ?_
        refine mV_goto f1_goAlike_48 ?_
        exact ih (y3 + 1) _ hr hk
set_option maxHeartbeats 4000000 in
set_option maxRecDepth 100000 in
theorem w1_goAlike (X : Nat × (Nat → Int32)) (I : mI) (s : Nat) (x0 : Int32) (x1 : Int32) (Q : mQ) {res : Int32} (hr : r1_goAlike I x0 x1 = some res) (hQ : Q (some (.int res)) NN KK I (PP s)) : mV X m1_goAlike 0 0 0 0 [.ref 27, .int x0, .int x1, mX0] [] NN KK I (PP s) Q := by
  unfold r1_goAlike at hr
  refine mV_push f1_goAlike_0 ?_
  refine mV_istore (L' := [.ref 27, .int x0, .int x1, .int 0]) f1_goAlike_1 (by decide) rfl rfl ?_
  obtain ⟨z0, hz0, hr⟩ := mBind hr
  refine t1_goAlike_2 X Q s I x0 x1 FU 0 _ hz0 ?_
  refine mV_iload f1_goAlike_51 rfl ?_
  have hr := Option.some.inj hr; subst hr
  exact mV_iret rfl rfl f1_goAlike_52 hQ
theorem c1_goAlike (X : Nat × (Nat → Int32)) (I : mI) (s : Nat) (x0 : Int32) (x1 : Int32) {res : Int32} (hr : r1_goAlike I x0 x1 = some res) : mC X m1_goAlike 0 0 0 [.ref 27, .int x0, .int x1] NN KK I (PP s) (mRet (some (.int res)) NN KK I (PP s)) :=
  mC_of (L0 := [.ref 27, .int x0, .int x1, mX0]) rfl (Nat.le_of_ble_eq_true rfl) (w1_goAlike X I s x0 x1 _ hr (mRet_ok _ _ _ _ _))
def l1_twicePlace_19 (I : mI) (k3 : Int32) : Nat → Int32 → Int32 → Int32 → Option (Int32 × Int32)
  | 0, _, _, _ => none
  | f + 1, y1, y2, y4 => if (I 27 5 : Int32) ≤ (y4 : Int32) then some (y1, y2) else (r1_goAlike I k3 y4).bind fun z0 => (if (z0 : Int32) ≤ (y1 : Int32) then some (y1, y2) else some (z0, k3) : Option (Int32 × Int32)).bind fun z1 => l1_twicePlace_19 I k3 f z1.1 z1.2 (y4 + 1)
def l1_twicePlace_6 (I : mI) : Nat → Int32 → Int32 → Int32 → Option (Int32)
  | 0, _, _, _ => none
  | f + 1, y1, y2, y3 => if (I 27 5 : Int32) ≤ (y3 : Int32) then some y2 else (l1_twicePlace_19 I y3 FU y1 y2 (y3 + 1)).bind fun z0 => l1_twicePlace_6 I f z0.1 z0.2 (y3 + 1)
def r1_twicePlace (I : mI) : Option (Int32) := (l1_twicePlace_6 I FU 1 (-1) 0).bind fun z0 => some z0
set_option maxHeartbeats 4000000 in
set_option maxRecDepth 100000 in
theorem t1_twicePlace_19 (X : Nat × (Nat → Int32)) (Q : mQ) (s : Nat) (I : mI) (k3 : Int32) : ∀ (f : Nat) (y1 : Int32) (y2 : Int32) (y4 : Int32) (z : Int32 × Int32), l1_twicePlace_19 I k3 f y1 y2 y4 = some z → mV X m1_twicePlace 1 0 0 54 [.ref 27, .int z.1, .int z.2, .int k3, mX0, mX0] [] NN KK I (PP s) Q → mV X m1_twicePlace 1 0 0 19 [.ref 27, .int y1, .int y2, .int k3, .int y4, mX0] [] NN KK I (PP s) Q := by
  intro f
  induction f with
  | zero => intro y1 y2 y4 z hr hk; cases hr
  | succ f ih =>
    intro y1 y2 y4 z hr hk
    unfold l1_twicePlace_19 at hr
    refine mV_iload f1_twicePlace_19 rfl ?_
    refine mV_aload f1_twicePlace_21 rfl ?_
    refine mV_gI (I 27 5) f1_twicePlace_22 (by decide) kk_27 rfl rfl ?_
    refine mV_icmp_ge f1_twicePlace_25 (fun h0 => ?_) (fun h0 => ?_)
    · rw [if_pos h0] at hr
      have hr := Option.some.inj hr; subst hr
      refine mV_drop (L' := [.ref 27, .int y1, .int y2, .int k3, mX0, mX0]) (mSub_k (mSub_k (mSub_k (mSub_k (mSub_x (mSub_x mSub_n)))))) ?_
      exact hk
    · rw [if_neg h0] at hr
      refine mV_aload f1_twicePlace_28 rfl ?_
      refine mV_iload f1_twicePlace_29 rfl ?_
      refine mV_iload f1_twicePlace_30 rfl ?_
      obtain ⟨z0, hz0, hr⟩ := mBind hr
      refine mV_cV f1_twicePlace_32 tg_m1_goAlike mCls1 (by decide) kk_27 (mC_deep (c1_goAlike X I s k3 y4 hz0) (by decide)) rfl rfl (Nat.le_of_ble_eq_true rfl) ?_
      refine mV_istore (L' := [.ref 27, .int y1, .int y2, .int k3, .int y4, .int z0]) f1_twicePlace_35 (by decide) rfl rfl ?_
      refine mV_iload f1_twicePlace_37 rfl ?_
      refine mV_iload f1_twicePlace_39 rfl ?_
      obtain ⟨z1, hz1, hr⟩ := mBind hr
      have keyz1 : mV X m1_twicePlace 1 0 0 48 [.ref 27, .int z1.1, .int z1.2, .int k3, .int y4, mX0] [] NN KK I (PP s) Q := by
        refine mV_iinc (y := (y4 + 1)) (L' := [.ref 27, .int z1.1, .int z1.2, .int k3, .int (y4 + 1), mX0]) f1_twicePlace_48 rfl rfl (by decide) rfl rfl ?_
        refine mV_goto f1_twicePlace_51 ?_
        exact ih z1.1 z1.2 (y4 + 1) _ hr hk
      clear hr
      have hr := hz1
      clear hz1
      refine mV_icmp_le f1_twicePlace_40 (fun h1 => ?_) (fun h1 => ?_)
      · rw [if_pos h1] at hr
        have hr := Option.some.inj hr; subst hr
        refine mV_drop (L' := [.ref 27, .int y1, .int y2, .int k3, .int y4, mX0]) (mSub_k (mSub_k (mSub_k (mSub_k (mSub_k (mSub_x mSub_n)))))) ?_
        exact keyz1
      · rw [if_neg h1] at hr
        refine mV_iload f1_twicePlace_43 rfl ?_
        refine mV_istore (L' := [.ref 27, .int z0, .int y2, .int k3, .int y4, .int z0]) f1_twicePlace_45 (by decide) rfl rfl ?_
        refine mV_iload f1_twicePlace_46 rfl ?_
        refine mV_istore (L' := [.ref 27, .int z0, .int k3, .int k3, .int y4, .int z0]) f1_twicePlace_47 (by decide) rfl rfl ?_
        have hr := Option.some.inj hr; subst hr
        refine mV_drop (L' := [.ref 27, .int z0, .int k3, .int k3, .int y4, mX0]) (mSub_k (mSub_k (mSub_k (mSub_k (mSub_k (mSub_x mSub_n)))))) ?_
        exact keyz1
set_option maxHeartbeats 4000000 in
set_option maxRecDepth 100000 in
theorem t1_twicePlace_6 (X : Nat × (Nat → Int32)) (Q : mQ) (s : Nat) (I : mI) : ∀ (f : Nat) (y1 : Int32) (y2 : Int32) (y3 : Int32) (z : Int32), l1_twicePlace_6 I f y1 y2 y3 = some z → mV X m1_twicePlace 1 0 0 60 [.ref 27, mX0, .int z, mX0, mX0, mX0] [] NN KK I (PP s) Q → mV X m1_twicePlace 1 0 0 6 [.ref 27, .int y1, .int y2, .int y3, mX0, mX0] [] NN KK I (PP s) Q := by
  intro f
  induction f with
  | zero => intro y1 y2 y3 z hr hk; cases hr
  | succ f ih =>
    intro y1 y2 y3 z hr hk
    unfold l1_twicePlace_6 at hr
    refine mV_iload f1_twicePlace_6 rfl ?_
    refine mV_aload f1_twicePlace_7 rfl ?_
    refine mV_gI (I 27 5) f1_twicePlace_8 (by decide) kk_27 rfl rfl ?_
    refine mV_icmp_ge f1_twicePlace_11 (fun h0 => ?_) (fun h0 => ?_)
    · rw [if_pos h0] at hr
      have hr := Option.some.inj hr; subst hr
      refine mV_drop (L' := [.ref 27, mX0, .int y2, mX0, mX0, mX0]) (mSub_k (mSub_x (mSub_k (mSub_x (mSub_x (mSub_x mSub_n)))))) ?_
      exact hk
    · rw [if_neg h0] at hr
      refine mV_iload f1_twicePlace_14 rfl ?_
      refine mV_push f1_twicePlace_15 ?_
      refine mV_iadd f1_twicePlace_16 ?_
      refine mV_istore (L' := [.ref 27, .int y1, .int y2, .int y3, .int (y3 + 1), mX0]) f1_twicePlace_17 (by decide) rfl rfl ?_
      obtain ⟨z0, hz0, hr⟩ := mBind hr
      refine t1_twicePlace_19 X Q s I y3 FU y1 y2 (y3 + 1) _ hz0 ?_
      refine mV_iinc (y := (y3 + 1)) (L' := [.ref 27, .int z0.1, .int z0.2, .int (y3 + 1), mX0, mX0]) f1_twicePlace_54 rfl rfl (by decide) rfl rfl ?_
      refine mV_goto f1_twicePlace_57 ?_
      exact ih z0.1 z0.2 (y3 + 1) _ hr hk
set_option maxHeartbeats 4000000 in
set_option maxRecDepth 100000 in
theorem w1_twicePlace (X : Nat × (Nat → Int32)) (I : mI) (s : Nat) (Q : mQ) {res : Int32} (hr : r1_twicePlace I = some res) (hQ : Q (some (.int res)) NN KK I (PP s)) : mV X m1_twicePlace 1 0 0 0 [.ref 27, mX0, mX0, mX0, mX0, mX0] [] NN KK I (PP s) Q := by
  unfold r1_twicePlace at hr
  refine mV_push f1_twicePlace_0 ?_
  refine mV_istore (L' := [.ref 27, .int 1, mX0, mX0, mX0, mX0]) f1_twicePlace_1 (by decide) rfl rfl ?_
  refine mV_push f1_twicePlace_2 ?_
  refine mV_istore (L' := [.ref 27, .int 1, .int (-1), mX0, mX0, mX0]) f1_twicePlace_3 (by decide) rfl rfl ?_
  refine mV_push f1_twicePlace_4 ?_
  refine mV_istore (L' := [.ref 27, .int 1, .int (-1), .int 0, mX0, mX0]) f1_twicePlace_5 (by decide) rfl rfl ?_
  obtain ⟨z0, hz0, hr⟩ := mBind hr
  refine t1_twicePlace_6 X Q s I FU 1 (-1) 0 _ hz0 ?_
  refine mV_iload f1_twicePlace_60 rfl ?_
  have hr := Option.some.inj hr; subst hr
  exact mV_iret rfl rfl f1_twicePlace_61 hQ
theorem c1_twicePlace (X : Nat × (Nat → Int32)) (I : mI) (s : Nat) {res : Int32} (hr : r1_twicePlace I = some res) : mC X m1_twicePlace 1 0 0 [.ref 27] NN KK I (PP s) (mRet (some (.int res)) NN KK I (PP s)) :=
  mC_of (L0 := [.ref 27, mX0, mX0, mX0, mX0, mX0]) rfl (Nat.le_of_ble_eq_true rfl) (w1_twicePlace X I s _ hr (mRet_ok _ _ _ _ _))
def l1_twiceLength_16 (I : mI) (k2 : Int32) : Nat → Int32 → Int32 → Option (Int32)
  | 0, _, _ => none
  | f + 1, y1, y3 => if (I 27 5 : Int32) ≤ (y3 : Int32) then some y1 else (r1_goAlike I k2 y3).bind fun z0 => l1_twiceLength_16 I k2 f (mMax y1 z0) (y3 + 1)
def l1_twiceLength_4 (I : mI) : Nat → Int32 → Int32 → Option (Int32)
  | 0, _, _ => none
  | f + 1, y1, y2 => if (I 27 5 : Int32) ≤ (y2 : Int32) then some y1 else (l1_twiceLength_16 I y2 FU y1 (y2 + 1)).bind fun z0 => l1_twiceLength_4 I f z0 (y2 + 1)
def r1_twiceLength (I : mI) : Option (Int32) := (l1_twiceLength_4 I FU 1 0).bind fun z0 => (if (z0 : Int32) ≤ (1 : Int32) then some 0 else some z0 : Option (Int32)).bind fun z1 => some z1
set_option maxHeartbeats 4000000 in
set_option maxRecDepth 100000 in
theorem t1_twiceLength_16 (X : Nat × (Nat → Int32)) (Q : mQ) (s : Nat) (I : mI) (k2 : Int32) : ∀ (f : Nat) (y1 : Int32) (y3 : Int32) (z : Int32), l1_twiceLength_16 I k2 f y1 y3 = some z → mV X m1_twiceLength 1 0 0 41 [.ref 27, .int z, .int k2, mX0] [] NN KK I (PP s) Q → mV X m1_twiceLength 1 0 0 16 [.ref 27, .int y1, .int k2, .int y3] [] NN KK I (PP s) Q := by
  intro f
  induction f with
  | zero => intro y1 y3 z hr hk; cases hr
  | succ f ih =>
    intro y1 y3 z hr hk
    unfold l1_twiceLength_16 at hr
    refine mV_iload f1_twiceLength_16 rfl ?_
    refine mV_aload f1_twiceLength_17 rfl ?_
    refine mV_gI (I 27 5) f1_twiceLength_18 (by decide) kk_27 rfl rfl ?_
    refine mV_icmp_ge f1_twiceLength_21 (fun h0 => ?_) (fun h0 => ?_)
    · rw [if_pos h0] at hr
      have hr := Option.some.inj hr; subst hr
      refine mV_drop (L' := [.ref 27, .int y1, .int k2, mX0]) (mSub_k (mSub_k (mSub_k (mSub_x mSub_n)))) ?_
      exact hk
    · rw [if_neg h0] at hr
      refine mV_iload f1_twiceLength_24 rfl ?_
      refine mV_aload f1_twiceLength_25 rfl ?_
      refine mV_iload f1_twiceLength_26 rfl ?_
      refine mV_iload f1_twiceLength_27 rfl ?_
      obtain ⟨z0, hz0, hr⟩ := mBind hr
      refine mV_cV f1_twiceLength_28 tg_m1_goAlike mCls1 (by decide) kk_27 (mC_deep (c1_goAlike X I s k2 y3 hz0) (by decide)) rfl rfl (Nat.le_of_ble_eq_true rfl) ?_
      refine mV_maxC fm1_twiceLength_31 (Nat.le_of_ble_eq_true rfl) ?_
      refine mV_istore (L' := [.ref 27, .int (mMax y1 z0), .int k2, .int y3]) f1_twiceLength_34 (by decide) rfl rfl ?_
      refine mV_iinc (y := (y3 + 1)) (L' := [.ref 27, .int (mMax y1 z0), .int k2, .int (y3 + 1)]) f1_twiceLength_35 rfl rfl (by decide) rfl rfl ?_
      refine mV_goto f1_twiceLength_38 ?_
      exact ih (mMax y1 z0) (y3 + 1) _ hr hk
set_option maxHeartbeats 4000000 in
set_option maxRecDepth 100000 in
theorem t1_twiceLength_4 (X : Nat × (Nat → Int32)) (Q : mQ) (s : Nat) (I : mI) : ∀ (f : Nat) (y1 : Int32) (y2 : Int32) (z : Int32), l1_twiceLength_4 I f y1 y2 = some z → mV X m1_twiceLength 1 0 0 47 [.ref 27, .int z, mX0, mX0] [] NN KK I (PP s) Q → mV X m1_twiceLength 1 0 0 4 [.ref 27, .int y1, .int y2, mX0] [] NN KK I (PP s) Q := by
  intro f
  induction f with
  | zero => intro y1 y2 z hr hk; cases hr
  | succ f ih =>
    intro y1 y2 z hr hk
    unfold l1_twiceLength_4 at hr
    refine mV_iload f1_twiceLength_4 rfl ?_
    refine mV_aload f1_twiceLength_5 rfl ?_
    refine mV_gI (I 27 5) f1_twiceLength_6 (by decide) kk_27 rfl rfl ?_
    refine mV_icmp_ge f1_twiceLength_9 (fun h0 => ?_) (fun h0 => ?_)
    · rw [if_pos h0] at hr
      have hr := Option.some.inj hr; subst hr
      refine mV_drop (L' := [.ref 27, .int y1, mX0, mX0]) (mSub_k (mSub_k (mSub_x (mSub_x mSub_n)))) ?_
      exact hk
    · rw [if_neg h0] at hr
      refine mV_iload f1_twiceLength_12 rfl ?_
      refine mV_push f1_twiceLength_13 ?_
      refine mV_iadd f1_twiceLength_14 ?_
      refine mV_istore (L' := [.ref 27, .int y1, .int y2, .int (y2 + 1)]) f1_twiceLength_15 (by decide) rfl rfl ?_
      obtain ⟨z0, hz0, hr⟩ := mBind hr
      refine t1_twiceLength_16 X Q s I y2 FU y1 (y2 + 1) _ hz0 ?_
      refine mV_iinc (y := (y2 + 1)) (L' := [.ref 27, .int z0, .int (y2 + 1), mX0]) f1_twiceLength_41 rfl rfl (by decide) rfl rfl ?_
      refine mV_goto f1_twiceLength_44 ?_
      exact ih z0 (y2 + 1) _ hr hk
set_option maxHeartbeats 4000000 in
set_option maxRecDepth 100000 in
theorem w1_twiceLength (X : Nat × (Nat → Int32)) (I : mI) (s : Nat) (Q : mQ) {res : Int32} (hr : r1_twiceLength I = some res) (hQ : Q (some (.int res)) NN KK I (PP s)) : mV X m1_twiceLength 1 0 0 0 [.ref 27, mX0, mX0, mX0] [] NN KK I (PP s) Q := by
  unfold r1_twiceLength at hr
  refine mV_push f1_twiceLength_0 ?_
  refine mV_istore (L' := [.ref 27, .int 1, mX0, mX0]) f1_twiceLength_1 (by decide) rfl rfl ?_
  refine mV_push f1_twiceLength_2 ?_
  refine mV_istore (L' := [.ref 27, .int 1, .int 0, mX0]) f1_twiceLength_3 (by decide) rfl rfl ?_
  obtain ⟨z0, hz0, hr⟩ := mBind hr
  refine t1_twiceLength_4 X Q s I FU 1 0 _ hz0 ?_
  refine mV_iload f1_twiceLength_47 rfl ?_
  refine mV_push f1_twiceLength_48 ?_
  obtain ⟨z1, hz1, hr⟩ := mBind hr
  have keyz1 : mV X m1_twiceLength 1 0 0 57 [.ref 27, mX0, mX0, mX0] [.int z1] NN KK I (PP s) Q := by
    have hr := Option.some.inj hr; subst hr
    exact mV_iret rfl rfl f1_twiceLength_57 hQ
  clear hr
  have hr := hz1
  clear hz1
  refine mV_icmp_le f1_twiceLength_49 (fun h0 => ?_) (fun h0 => ?_)
  · rw [if_pos h0] at hr
    refine mV_push f1_twiceLength_56 ?_
    have hr := Option.some.inj hr; subst hr
    refine mV_drop (L' := [.ref 27, mX0, mX0, mX0]) (mSub_k (mSub_x (mSub_x (mSub_x mSub_n)))) ?_
    exact keyz1
  · rw [if_neg h0] at hr
    refine mV_iload f1_twiceLength_52 rfl ?_
    refine mV_goto f1_twiceLength_53 ?_
    have hr := Option.some.inj hr; subst hr
    refine mV_drop (L' := [.ref 27, mX0, mX0, mX0]) (mSub_k (mSub_x (mSub_x (mSub_x mSub_n)))) ?_
    exact keyz1
theorem c1_twiceLength (X : Nat × (Nat → Int32)) (I : mI) (s : Nat) {res : Int32} (hr : r1_twiceLength I = some res) : mC X m1_twiceLength 1 0 0 [.ref 27] NN KK I (PP s) (mRet (some (.int res)) NN KK I (PP s)) :=
  mC_of (L0 := [.ref 27, mX0, mX0, mX0]) rfl (Nat.le_of_ble_eq_true rfl) (w1_twiceLength X I s _ hr (mRet_ok _ _ _ _ _))
def r9_tune (I : mI) (x0 : Int32) : Option (Int32 × mI) := if (x0 : Int32) = 0 then (r1_twiceLength I).bind fun z0 => some (z0, I) else if (x0 : Int32) = 1 then (r1_twicePlace I).bind fun z1 => some (z1, I) else if (x0 : Int32) = 2 then (r1_longestRise I).bind fun z2 => some (z2, I) else if (x0 : Int32) = 3 then (r1_fingersCost I).bind fun z3 => some (z3.1, z3.2) else (if (x0 : Int32) < (10 : Int32) then some ((-1), I) else if (I 27 5 : Int32) ≤ ((x0 - 10) : Int32) then some ((-1), I) else (r1_fingerOf I (x0 - 10)).bind fun z5 => some (z5.1, z5.2) : Option (Int32 × mI)).bind fun z4 => some (z4.1, z4.2)
set_option maxHeartbeats 4000000 in
set_option maxRecDepth 100000 in
theorem w9_tune (X : Nat × (Nat → Int32)) (I : mI) (s : Nat) (x0 : Int32) (Q : mQ) {res : Int32 × mI} (hr : r9_tune I x0 = some res) (hQ : Q (some (.int res.1)) NN KK res.2 (PP s)) : mV X m9_tune 5 0 0 0 [.ref 0, .int x0, mX0] [] NN KK I (PP s) Q := by
  unfold r9_tune at hr
  refine mV_aload f9_tune_0 rfl ?_
  refine mV_getP f9_tune_1 (by decide) kk_0 rfl (pp_0_1 _) ?_
  refine mV_getP f9_tune_4 (by decide) kk_2 rfl (pp_2_6 _) ?_
  refine mV_astore (L' := [.ref 0, .int x0, .ref 27]) f9_tune_7 (by decide) rfl rfl ?_
  refine mV_iload f9_tune_8 rfl ?_
  by_cases h0 : x0 = 0
  · rw [if_pos h0] at hr
    refine mV_tabEq (v := 0) f9_tune_9 h0 (by decide) (by decide) (by decide) (by decide : (9 : Int) + 31 = (40 : Nat)) ?_
    refine mV_aload f9_tune_40 rfl ?_
    obtain ⟨z0, hz0, hr⟩ := mBind hr
    refine mV_cV f9_tune_41 tg_m1_twiceLength mCls1 (by decide) kk_27 (mC_deep (c1_twiceLength X I s hz0) (by decide)) rfl rfl (Nat.le_of_ble_eq_true rfl) ?_
    have hr := Option.some.inj hr; subst hr
    exact mV_iret rfl rfl f9_tune_44 hQ
  rw [if_neg h0] at hr
  by_cases h1 : x0 = 1
  · rw [if_pos h1] at hr
    refine mV_tabEq (v := 1) f9_tune_9 h1 (by decide) (by decide) (by decide) (by decide : (9 : Int) + 36 = (45 : Nat)) ?_
    refine mV_aload f9_tune_45 rfl ?_
    obtain ⟨z1, hz1, hr⟩ := mBind hr
    refine mV_cV f9_tune_46 tg_m1_twicePlace mCls1 (by decide) kk_27 (mC_deep (c1_twicePlace X I s hz1) (by decide)) rfl rfl (Nat.le_of_ble_eq_true rfl) ?_
    have hr := Option.some.inj hr; subst hr
    exact mV_iret rfl rfl f9_tune_49 hQ
  rw [if_neg h1] at hr
  by_cases h2 : x0 = 2
  · rw [if_pos h2] at hr
    refine mV_tabEq (v := 2) f9_tune_9 h2 (by decide) (by decide) (by decide) (by decide : (9 : Int) + 41 = (50 : Nat)) ?_
    refine mV_aload f9_tune_50 rfl ?_
    obtain ⟨z2, hz2, hr⟩ := mBind hr
    refine mV_cV f9_tune_51 tg_m1_longestRise mCls1 (by decide) kk_27 (mC_deep (c1_longestRise X I s hz2) (by decide)) rfl rfl (Nat.le_of_ble_eq_true rfl) ?_
    have hr := Option.some.inj hr; subst hr
    exact mV_iret rfl rfl f9_tune_54 hQ
  rw [if_neg h2] at hr
  by_cases h3 : x0 = 3
  · rw [if_pos h3] at hr
    refine mV_tabEq (v := 3) f9_tune_9 h3 (by decide) (by decide) (by decide) (by decide : (9 : Int) + 46 = (55 : Nat)) ?_
    refine mV_aload f9_tune_55 rfl ?_
    obtain ⟨z3, hz3, hr⟩ := mBind hr
    refine mV_cV f9_tune_56 tg_m1_fingersCost mCls1 (by decide) kk_27 (mC_deep (c1_fingersCost X I s hz3) (by decide)) rfl rfl (Nat.le_of_ble_eq_true rfl) ?_
    have hr := Option.some.inj hr; subst hr
    exact mV_iret rfl rfl f9_tune_59 hQ
  rw [if_neg h3] at hr
  refine mV_tabNo f9_tune_9 [0, 1, 2, 3] (by decide) (List.forall_mem_cons.mpr ⟨h0, (List.forall_mem_cons.mpr ⟨h1, (List.forall_mem_cons.mpr ⟨h2, (List.forall_mem_cons.mpr ⟨h3, (fun _ hc => absurd hc List.not_mem_nil)⟩)⟩)⟩)⟩) (by decide : (9 : Int) + 51 = (60 : Nat)) ?_
  refine mV_iload f9_tune_60 rfl ?_
  refine mV_push f9_tune_61 ?_
  obtain ⟨z4, hz4, hr⟩ := mBind hr
  have keyz4 : mV X m9_tune 5 0 0 89 [.ref 0, mX0, .ref 27] [.int z4.1] NN KK z4.2 (PP s) Q := by
    have hr := Option.some.inj hr; subst hr
    exact mV_iret rfl rfl f9_tune_89 hQ
  clear hr
  have hr := hz4
  clear hz4
  refine mV_icmp_lt f9_tune_63 (fun h4 => ?_) (fun h4 => ?_)
  · rw [if_pos h4] at hr
    refine mV_push f9_tune_88 ?_
    have hr := Option.some.inj hr; subst hr
    refine mV_drop (L' := [.ref 0, mX0, .ref 27]) (mSub_k (mSub_x (mSub_k mSub_n))) ?_
    exact keyz4
  · rw [if_neg h4] at hr
    refine mV_iload f9_tune_66 rfl ?_
    refine mV_push f9_tune_67 ?_
    refine mV_isub f9_tune_69 ?_
    refine mV_aload f9_tune_70 rfl ?_
    refine mV_gI (I 27 5) f9_tune_71 (by decide) kk_27 rfl rfl ?_
    refine mV_icmp_ge f9_tune_74 (fun h5 => ?_) (fun h5 => ?_)
    · rw [if_pos h5] at hr
      refine mV_push f9_tune_88 ?_
      have hr := Option.some.inj hr; subst hr
      refine mV_drop (L' := [.ref 0, mX0, .ref 27]) (mSub_k (mSub_x (mSub_k mSub_n))) ?_
      exact keyz4
    · rw [if_neg h5] at hr
      refine mV_aload f9_tune_77 rfl ?_
      refine mV_iload f9_tune_78 rfl ?_
      refine mV_push f9_tune_79 ?_
      refine mV_isub f9_tune_81 ?_
      obtain ⟨z5, hz5, hr⟩ := mBind hr
      refine mV_cV f9_tune_82 tg_m1_fingerOf mCls1 (by decide) kk_27 (mC_deep (c1_fingerOf X I s (x0 - 10) hz5) (by decide)) rfl rfl (Nat.le_of_ble_eq_true rfl) ?_
      refine mV_goto f9_tune_85 ?_
      have hr := Option.some.inj hr; subst hr
      refine mV_drop (L' := [.ref 0, mX0, .ref 27]) (mSub_k (mSub_x (mSub_k mSub_n))) ?_
      exact keyz4
theorem c9_tune (X : Nat × (Nat → Int32)) (I : mI) (s : Nat) (x0 : Int32) {res : Int32 × mI} (hr : r9_tune I x0 = some res) : mC X m9_tune 5 0 0 [.ref 0, .int x0] NN KK I (PP s) (mRet (some (.int res.1)) NN KK res.2 (PP s)) :=
  mC_of (L0 := [.ref 0, .int x0, mX0]) rfl (Nat.le_of_ble_eq_true rfl) (w9_tune X I s x0 _ hr (mRet_ok _ _ _ _ _))
def l1_sweetPlaces_9 (I : mI) (k1 : Int32) (k2 : Int32) : Nat → Int32 → Int32 → Option (Int32)
  | 0, _, _ => none
  | f + 1, y3, y4 => if (I 27 5 : Int32) ≤ (y4 : Int32) then some y3 else (mLd I 28 16 y4).bind fun z0 => (mLd I 28 16 (y4 - k1)).bind fun z1 => (if ((mRm (mAbs ((z0 - z1) - k2)) 12) : Int32) = (0 : Int32) then some (y3 + 1) else if ((mRm (mAbs ((z0 - z1) - k2)) 12) : Int32) = (3 : Int32) then some (y3 + 1) else if ((mRm (mAbs ((z0 - z1) - k2)) 12) : Int32) = (4 : Int32) then some (y3 + 1) else if ((mRm (mAbs ((z0 - z1) - k2)) 12) : Int32) < (7 : Int32) then some y3 else if (9 : Int32) < ((mRm (mAbs ((z0 - z1) - k2)) 12) : Int32) then some y3 else some (y3 + 1) : Option (Int32)).bind fun z2 => l1_sweetPlaces_9 I k1 k2 f z2 (y4 + 1)
def r1_sweetPlaces (I : mI) (x0 : Int32) (x1 : Int32) : Option (Int32) := (l1_sweetPlaces_9 I x0 x1 FU 0 (mMax 0 x0)).bind fun z0 => some z0
set_option maxHeartbeats 4000000 in
set_option maxRecDepth 100000 in
theorem t1_sweetPlaces_9 (X : Nat × (Nat → Int32)) (Q : mQ) (s : Nat) (I : mI) (k1 : Int32) (k2 : Int32) : ∀ (f : Nat) (y3 : Int32) (y4 : Int32) (z : Int32), l1_sweetPlaces_9 I k1 k2 f y3 y4 = some z → mV X m1_sweetPlaces 1 0 0 85 [.ref 27, .int k1, .int k2, .int z, mX0, mX0] [] NN KK I (PP s) Q → mV X m1_sweetPlaces 1 0 0 9 [.ref 27, .int k1, .int k2, .int y3, .int y4, mX0] [] NN KK I (PP s) Q := by
  intro f
  induction f with
  | zero => intro y3 y4 z hr hk; cases hr
  | succ f ih =>
    intro y3 y4 z hr hk
    unfold l1_sweetPlaces_9 at hr
    refine mV_iload f1_sweetPlaces_9 rfl ?_
    refine mV_aload f1_sweetPlaces_11 rfl ?_
    refine mV_gI (I 27 5) f1_sweetPlaces_12 (by decide) kk_27 rfl rfl ?_
    refine mV_icmp_ge f1_sweetPlaces_15 (fun h0 => ?_) (fun h0 => ?_)
    · rw [if_pos h0] at hr
      have hr := Option.some.inj hr; subst hr
      refine mV_drop (L' := [.ref 27, .int k1, .int k2, .int y3, mX0, mX0]) (mSub_k (mSub_k (mSub_k (mSub_k (mSub_x (mSub_x mSub_n)))))) ?_
      exact hk
    · rw [if_neg h0] at hr
      refine mV_aload f1_sweetPlaces_18 rfl ?_
      refine mV_getP f1_sweetPlaces_19 (by decide) kk_27 rfl (pp_27_0 _) ?_
      refine mV_iload f1_sweetPlaces_22 rfl ?_
      obtain ⟨z0, hz0, hr⟩ := mBind hr
      refine mV_ldO f1_sweetPlaces_24 (by decide) kk_28 hz0 ?_
      refine mV_aload f1_sweetPlaces_25 rfl ?_
      refine mV_getP f1_sweetPlaces_26 (by decide) kk_27 rfl (pp_27_0 _) ?_
      refine mV_iload f1_sweetPlaces_29 rfl ?_
      refine mV_iload f1_sweetPlaces_31 rfl ?_
      refine mV_isub f1_sweetPlaces_32 ?_
      obtain ⟨z1, hz1, hr⟩ := mBind hr
      refine mV_ldO f1_sweetPlaces_33 (by decide) kk_28 hz1 ?_
      refine mV_isub f1_sweetPlaces_34 ?_
      refine mV_iload f1_sweetPlaces_35 rfl ?_
      refine mV_isub f1_sweetPlaces_36 ?_
      refine mV_absC fm1_sweetPlaces_37 (Nat.le_of_ble_eq_true rfl) ?_
      refine mV_push f1_sweetPlaces_40 ?_
      refine mV_remC f1_sweetPlaces_42 (by decide) ?_
      refine mV_istore (L' := [.ref 27, .int k1, .int k2, .int y3, .int y4, .int (mRm (mAbs ((z0 - z1) - k2)) 12)]) f1_sweetPlaces_43 (by decide) rfl rfl ?_
      refine mV_iload f1_sweetPlaces_45 rfl ?_
      obtain ⟨z2, hz2, hr⟩ := mBind hr
      have keyz2 : mV X m1_sweetPlaces 1 0 0 79 [.ref 27, .int k1, .int k2, .int z2, .int y4, mX0] [] NN KK I (PP s) Q := by
        refine mV_iinc (y := (y4 + 1)) (L' := [.ref 27, .int k1, .int k2, .int z2, .int (y4 + 1), mX0]) f1_sweetPlaces_79 rfl rfl (by decide) rfl rfl ?_
        refine mV_goto f1_sweetPlaces_82 ?_
        exact ih z2 (y4 + 1) _ hr hk
      clear hr
      have hr := hz2
      clear hz2
      refine mV_if_eq f1_sweetPlaces_47 (fun h1 => ?_) (fun h1 => ?_)
      · rw [if_pos h1] at hr
        refine mV_iinc (y := (y3 + 1)) (L' := [.ref 27, .int k1, .int k2, .int (y3 + 1), .int y4, .int (mRm (mAbs ((z0 - z1) - k2)) 12)]) f1_sweetPlaces_76 rfl rfl (by decide) rfl rfl ?_
        have hr := Option.some.inj hr; subst hr
        refine mV_drop (L' := [.ref 27, .int k1, .int k2, .int (y3 + 1), .int y4, mX0]) (mSub_k (mSub_k (mSub_k (mSub_k (mSub_k (mSub_x mSub_n)))))) ?_
        exact keyz2
      · rw [if_neg h1] at hr
        refine mV_iload f1_sweetPlaces_50 rfl ?_
        refine mV_push f1_sweetPlaces_52 ?_
        refine mV_icmp_eq f1_sweetPlaces_53 (fun h2 => ?_) (fun h2 => ?_)
        · rw [if_pos h2] at hr
          refine mV_iinc (y := (y3 + 1)) (L' := [.ref 27, .int k1, .int k2, .int (y3 + 1), .int y4, .int (mRm (mAbs ((z0 - z1) - k2)) 12)]) f1_sweetPlaces_76 rfl rfl (by decide) rfl rfl ?_
          have hr := Option.some.inj hr; subst hr
          refine mV_drop (L' := [.ref 27, .int k1, .int k2, .int (y3 + 1), .int y4, mX0]) (mSub_k (mSub_k (mSub_k (mSub_k (mSub_k (mSub_x mSub_n)))))) ?_
          exact keyz2
        · rw [if_neg h2] at hr
          refine mV_iload f1_sweetPlaces_56 rfl ?_
          refine mV_push f1_sweetPlaces_58 ?_
          refine mV_icmp_eq f1_sweetPlaces_59 (fun h3 => ?_) (fun h3 => ?_)
          · rw [if_pos h3] at hr
            refine mV_iinc (y := (y3 + 1)) (L' := [.ref 27, .int k1, .int k2, .int (y3 + 1), .int y4, .int (mRm (mAbs ((z0 - z1) - k2)) 12)]) f1_sweetPlaces_76 rfl rfl (by decide) rfl rfl ?_
            have hr := Option.some.inj hr; subst hr
            refine mV_drop (L' := [.ref 27, .int k1, .int k2, .int (y3 + 1), .int y4, mX0]) (mSub_k (mSub_k (mSub_k (mSub_k (mSub_k (mSub_x mSub_n)))))) ?_
            exact keyz2
          · rw [if_neg h3] at hr
            refine mV_iload f1_sweetPlaces_62 rfl ?_
            refine mV_push f1_sweetPlaces_64 ?_
            refine mV_icmp_lt f1_sweetPlaces_66 (fun h4 => ?_) (fun h4 => ?_)
            · rw [if_pos h4] at hr
              have hr := Option.some.inj hr; subst hr
              refine mV_drop (L' := [.ref 27, .int k1, .int k2, .int y3, .int y4, mX0]) (mSub_k (mSub_k (mSub_k (mSub_k (mSub_k (mSub_x mSub_n)))))) ?_
              exact keyz2
            · rw [if_neg h4] at hr
              refine mV_iload f1_sweetPlaces_69 rfl ?_
              refine mV_push f1_sweetPlaces_71 ?_
              refine mV_icmp_gt f1_sweetPlaces_73 (fun h5 => ?_) (fun h5 => ?_)
              · rw [if_pos h5] at hr
                have hr := Option.some.inj hr; subst hr
                refine mV_drop (L' := [.ref 27, .int k1, .int k2, .int y3, .int y4, mX0]) (mSub_k (mSub_k (mSub_k (mSub_k (mSub_k (mSub_x mSub_n)))))) ?_
                exact keyz2
              · rw [if_neg h5] at hr
                refine mV_iinc (y := (y3 + 1)) (L' := [.ref 27, .int k1, .int k2, .int (y3 + 1), .int y4, .int (mRm (mAbs ((z0 - z1) - k2)) 12)]) f1_sweetPlaces_76 rfl rfl (by decide) rfl rfl ?_
                have hr := Option.some.inj hr; subst hr
                refine mV_drop (L' := [.ref 27, .int k1, .int k2, .int (y3 + 1), .int y4, mX0]) (mSub_k (mSub_k (mSub_k (mSub_k (mSub_k (mSub_x mSub_n)))))) ?_
                exact keyz2
set_option maxHeartbeats 4000000 in
set_option maxRecDepth 100000 in
theorem w1_sweetPlaces (X : Nat × (Nat → Int32)) (I : mI) (s : Nat) (x0 : Int32) (x1 : Int32) (Q : mQ) {res : Int32} (hr : r1_sweetPlaces I x0 x1 = some res) (hQ : Q (some (.int res)) NN KK I (PP s)) : mV X m1_sweetPlaces 1 0 0 0 [.ref 27, .int x0, .int x1, mX0, mX0, mX0] [] NN KK I (PP s) Q := by
  unfold r1_sweetPlaces at hr
  refine mV_push f1_sweetPlaces_0 ?_
  refine mV_istore (L' := [.ref 27, .int x0, .int x1, .int 0, mX0, mX0]) f1_sweetPlaces_1 (by decide) rfl rfl ?_
  refine mV_push f1_sweetPlaces_2 ?_
  refine mV_iload f1_sweetPlaces_3 rfl ?_
  refine mV_maxC fm1_sweetPlaces_4 (Nat.le_of_ble_eq_true rfl) ?_
  refine mV_istore (L' := [.ref 27, .int x0, .int x1, .int 0, .int (mMax 0 x0), mX0]) f1_sweetPlaces_7 (by decide) rfl rfl ?_
  obtain ⟨z0, hz0, hr⟩ := mBind hr
  refine t1_sweetPlaces_9 X Q s I x0 x1 FU 0 (mMax 0 x0) _ hz0 ?_
  refine mV_iload f1_sweetPlaces_85 rfl ?_
  have hr := Option.some.inj hr; subst hr
  exact mV_iret rfl rfl f1_sweetPlaces_86 hQ
theorem c1_sweetPlaces (X : Nat × (Nat → Int32)) (I : mI) (s : Nat) (x0 : Int32) (x1 : Int32) {res : Int32} (hr : r1_sweetPlaces I x0 x1 = some res) : mC X m1_sweetPlaces 1 0 0 [.ref 27, .int x0, .int x1] NN KK I (PP s) (mRet (some (.int res)) NN KK I (PP s)) :=
  mC_of (L0 := [.ref 27, .int x0, .int x1, mX0, mX0, mX0]) rfl (Nat.le_of_ble_eq_true rfl) (w1_sweetPlaces X I s x0 x1 _ hr (mRet_ok _ _ _ _ _))
def r9_canon (I : mI) (x0 : Int32) (x1 : Int32) (x2 : Int32) : Option (Int32) := if (x0 : Int32) < (1 : Int32) then some (-1) else if (15 : Int32) < (x0 : Int32) then some (-1) else if (x1 : Int32) < (0 : Int32) then some (-1) else if (12 : Int32) < (x1 : Int32) then some (-1) else if (x2 : Int32) < (0 : Int32) then some (-1) else if (x2 : Int32) ≤ (1 : Int32) then (if (x2 : Int32) = (0 : Int32) then some (mMax 0 (I 27 5 - x0)) else (r1_sweetPlaces I x0 x1).bind fun z1 => some z1 : Option (Int32)).bind fun z0 => some z0 else some (-1)
set_option maxHeartbeats 4000000 in
set_option maxRecDepth 100000 in
theorem w9_canon (X : Nat × (Nat → Int32)) (I : mI) (s : Nat) (x0 : Int32) (x1 : Int32) (x2 : Int32) (Q : mQ) {res : Int32} (hr : r9_canon I x0 x1 x2 = some res) (hQ : Q (some (.int res)) NN KK I (PP s)) : mV X m9_canon 2 0 0 0 [.ref 0, .int x0, .int x1, .int x2] [] NN KK I (PP s) Q := by
  unfold r9_canon at hr
  refine mV_iload f9_canon_0 rfl ?_
  refine mV_push f9_canon_1 ?_
  refine mV_icmp_lt f9_canon_2 (fun h0 => ?_) (fun h0 => ?_)
  · rw [if_pos h0] at hr
    refine mV_push f9_canon_30 ?_
    have hr := Option.some.inj hr; subst hr
    exact mV_iret rfl rfl f9_canon_31 hQ
  · rw [if_neg h0] at hr
    refine mV_iload f9_canon_5 rfl ?_
    refine mV_push f9_canon_6 ?_
    refine mV_icmp_gt f9_canon_8 (fun h1 => ?_) (fun h1 => ?_)
    · rw [if_pos h1] at hr
      refine mV_push f9_canon_30 ?_
      have hr := Option.some.inj hr; subst hr
      exact mV_iret rfl rfl f9_canon_31 hQ
    · rw [if_neg h1] at hr
      refine mV_iload f9_canon_11 rfl ?_
      refine mV_if_lt f9_canon_12 (fun h2 => ?_) (fun h2 => ?_)
      · rw [if_pos h2] at hr
        refine mV_push f9_canon_30 ?_
        have hr := Option.some.inj hr; subst hr
        exact mV_iret rfl rfl f9_canon_31 hQ
      · rw [if_neg h2] at hr
        refine mV_iload f9_canon_15 rfl ?_
        refine mV_push f9_canon_16 ?_
        refine mV_icmp_gt f9_canon_18 (fun h3 => ?_) (fun h3 => ?_)
        · rw [if_pos h3] at hr
          refine mV_push f9_canon_30 ?_
          have hr := Option.some.inj hr; subst hr
          exact mV_iret rfl rfl f9_canon_31 hQ
        · rw [if_neg h3] at hr
          refine mV_iload f9_canon_21 rfl ?_
          refine mV_if_lt f9_canon_22 (fun h4 => ?_) (fun h4 => ?_)
          · rw [if_pos h4] at hr
            refine mV_push f9_canon_30 ?_
            have hr := Option.some.inj hr; subst hr
            exact mV_iret rfl rfl f9_canon_31 hQ
          · rw [if_neg h4] at hr
            refine mV_iload f9_canon_25 rfl ?_
            refine mV_push f9_canon_26 ?_
            refine mV_icmp_le f9_canon_27 (fun h5 => ?_) (fun h5 => ?_)
            · rw [if_pos h5] at hr
              refine mV_iload f9_canon_32 rfl ?_
              obtain ⟨z0, hz0, hr⟩ := mBind hr
              have keyz0 : mV X m9_canon 2 0 0 67 [.ref 0, mX0, mX0, mX0] [.int z0] NN KK I (PP s) Q := by
                have hr := Option.some.inj hr; subst hr
                exact mV_iret rfl rfl f9_canon_67 hQ
              clear hr
              have hr := hz0
              clear hz0
              refine mV_if_ne f9_canon_33 (fun h6 => ?_) (fun h6 => ?_)
              · rw [if_neg h6] at hr
                refine mV_aload f9_canon_55 rfl ?_
                refine mV_getP f9_canon_56 (by decide) kk_0 rfl (pp_0_1 _) ?_
                refine mV_getP f9_canon_59 (by decide) kk_2 rfl (pp_2_6 _) ?_
                refine mV_iload f9_canon_62 rfl ?_
                refine mV_iload f9_canon_63 rfl ?_
                obtain ⟨z1, hz1, hr⟩ := mBind hr
                refine mV_cV f9_canon_64 tg_m1_sweetPlaces mCls1 (by decide) kk_27 (mC_deep (c1_sweetPlaces X I s x0 x1 hz1) (by decide)) rfl rfl (Nat.le_of_ble_eq_true rfl) ?_
                have hr := Option.some.inj hr; subst hr
                refine mV_drop (L' := [.ref 0, mX0, mX0, mX0]) (mSub_k (mSub_x (mSub_x (mSub_x mSub_n)))) ?_
                exact keyz0
              · rw [if_pos h6] at hr
                refine mV_push f9_canon_36 ?_
                refine mV_aload f9_canon_37 rfl ?_
                refine mV_getP f9_canon_38 (by decide) kk_0 rfl (pp_0_1 _) ?_
                refine mV_getP f9_canon_41 (by decide) kk_2 rfl (pp_2_6 _) ?_
                refine mV_gI (I 27 5) f9_canon_44 (by decide) kk_27 rfl rfl ?_
                refine mV_iload f9_canon_47 rfl ?_
                refine mV_isub f9_canon_48 ?_
                refine mV_maxC fm9_canon_49 (Nat.le_of_ble_eq_true rfl) ?_
                refine mV_goto f9_canon_52 ?_
                have hr := Option.some.inj hr; subst hr
                refine mV_drop (L' := [.ref 0, mX0, mX0, mX0]) (mSub_k (mSub_x (mSub_x (mSub_x mSub_n)))) ?_
                exact keyz0
            · rw [if_neg h5] at hr
              refine mV_push f9_canon_30 ?_
              have hr := Option.some.inj hr; subst hr
              exact mV_iret rfl rfl f9_canon_31 hQ
theorem c9_canon (X : Nat × (Nat → Int32)) (I : mI) (s : Nat) (x0 : Int32) (x1 : Int32) (x2 : Int32) {res : Int32} (hr : r9_canon I x0 x1 x2 = some res) : mC X m9_canon 2 0 0 [.ref 0, .int x0, .int x1, .int x2] NN KK I (PP s) (mRet (some (.int res)) NN KK I (PP s)) :=
  mC_of (L0 := [.ref 0, .int x0, .int x1, .int x2]) rfl (Nat.le_of_ble_eq_true rfl) (w9_canon X I s x0 x1 x2 _ hr (mRet_ok _ _ _ _ _))
def r9_period (I : mI) (x0 : Int32) (x1 : Int32) : Option (Int32 × mI) := if (x0 : Int32) < (0 : Int32) then some (0, I) else if (8 : Int32) ≤ (x0 : Int32) then some (0, I) else if (x1 : Int32) < (1 : Int32) then some (0, I) else if (x1 : Int32) ≤ (99 : Int32) then (mSto I 29 8 x0 x1).bind fun z0 => some (1, z0) else some (0, I)
set_option maxHeartbeats 4000000 in
set_option maxRecDepth 100000 in
theorem w9_period (X : Nat × (Nat → Int32)) (I : mI) (s : Nat) (x0 : Int32) (x1 : Int32) (Q : mQ) {res : Int32 × mI} (hr : r9_period I x0 x1 = some res) (hQ : Q (some (.int res.1)) NN KK res.2 (PP s)) : mV X m9_period 0 0 0 0 [.ref 0, .int x0, .int x1] [] NN KK I (PP s) Q := by
  unfold r9_period at hr
  refine mV_iload f9_period_0 rfl ?_
  refine mV_if_lt f9_period_1 (fun h0 => ?_) (fun h0 => ?_)
  · rw [if_pos h0] at hr
    refine mV_push f9_period_21 ?_
    have hr := Option.some.inj hr; subst hr
    exact mV_iret rfl rfl f9_period_22 hQ
  · rw [if_neg h0] at hr
    refine mV_iload f9_period_4 rfl ?_
    refine mV_push f9_period_5 ?_
    refine mV_icmp_ge f9_period_7 (fun h1 => ?_) (fun h1 => ?_)
    · rw [if_pos h1] at hr
      refine mV_push f9_period_21 ?_
      have hr := Option.some.inj hr; subst hr
      exact mV_iret rfl rfl f9_period_22 hQ
    · rw [if_neg h1] at hr
      refine mV_iload f9_period_10 rfl ?_
      refine mV_push f9_period_11 ?_
      refine mV_icmp_lt f9_period_12 (fun h2 => ?_) (fun h2 => ?_)
      · rw [if_pos h2] at hr
        refine mV_push f9_period_21 ?_
        have hr := Option.some.inj hr; subst hr
        exact mV_iret rfl rfl f9_period_22 hQ
      · rw [if_neg h2] at hr
        refine mV_iload f9_period_15 rfl ?_
        refine mV_push f9_period_16 ?_
        refine mV_icmp_le f9_period_18 (fun h3 => ?_) (fun h3 => ?_)
        · rw [if_pos h3] at hr
          refine mV_aload f9_period_23 rfl ?_
          refine mV_getP f9_period_24 (by decide) kk_0 rfl (pp_0_1 _) ?_
          refine mV_getP f9_period_27 (by decide) kk_2 rfl (pp_2_6 _) ?_
          refine mV_getP f9_period_30 (by decide) kk_27 rfl (pp_27_1 _) ?_
          refine mV_iload f9_period_33 rfl ?_
          refine mV_iload f9_period_34 rfl ?_
          obtain ⟨z0, hz0, hr⟩ := mBind hr
          refine mV_stO f9_period_35 (by decide) kk_29 hz0 ?_
          refine mV_push f9_period_36 ?_
          have hr := Option.some.inj hr; subst hr
          exact mV_iret rfl rfl f9_period_37 hQ
        · rw [if_neg h3] at hr
          refine mV_push f9_period_21 ?_
          have hr := Option.some.inj hr; subst hr
          exact mV_iret rfl rfl f9_period_22 hQ
theorem c9_period (X : Nat × (Nat → Int32)) (I : mI) (s : Nat) (x0 : Int32) (x1 : Int32) {res : Int32 × mI} (hr : r9_period I x0 x1 = some res) : mC X m9_period 0 0 0 [.ref 0, .int x0, .int x1] NN KK I (PP s) (mRet (some (.int res.1)) NN KK res.2 (PP s)) :=
  mC_of (L0 := [.ref 0, .int x0, .int x1]) rfl (Nat.le_of_ble_eq_true rfl) (w9_period X I s x0 x1 _ hr (mRet_ok _ _ _ _ _))
def l1_commonMultiple_9 : Nat → Int64 → Int64 → Int32 → Option (Int64)
  | 0, _, _, _ => none
  | f + 1, y4, y6, y8 => if (100 : Int32) ≤ (y8 : Int32) then some y4 else if ((lg_cmp y6 0) : Int32) ≤ (0 : Int32) then some y4 else (mRemL y4 y6).bind fun z0 => l1_commonMultiple_9 f y6 z0 (y8 + 1)
def r1_commonMultiple (x0 : Int64) (x1 : Int64) : Option (Int64) := (l1_commonMultiple_9 FU x0 x1 0).bind fun z0 => (if ((lg_cmp z0 0) : Int32) ≤ (0 : Int32) then some 0 else (mDivL x0 z0).bind fun z2 => some (z2 * x1) : Option (Int64)).bind fun z1 => some z1
set_option maxHeartbeats 4000000 in
set_option maxRecDepth 100000 in
theorem t1_commonMultiple_9 (X : Nat × (Nat → Int32)) (Q : mQ) (s : Nat) (I : mI) (k0 : Int64) (k2 : Int64) : ∀ (f : Nat) (y4 : Int64) (y6 : Int64) (y8 : Int32) (z : Int64), l1_commonMultiple_9 f y4 y6 y8 = some z → mV X m1_commonMultiple 0 0 0 44 [.long k0, mX0, .long k2, mX0, .long z, mX0, mX0, mX0, mX0, mX0, mX0] [] NN KK I (PP s) Q → mV X m1_commonMultiple 0 0 0 9 [.long k0, mX0, .long k2, mX0, .long y4, mX0, .long y6, mX0, .int y8, mX0, mX0] [] NN KK I (PP s) Q := by
  intro f
  induction f with
  | zero => intro y4 y6 y8 z hr hk; cases hr
  | succ f ih =>
    intro y4 y6 y8 z hr hk
    unfold l1_commonMultiple_9 at hr
    refine mV_iload f1_commonMultiple_9 rfl ?_
    refine mV_push f1_commonMultiple_11 ?_
    refine mV_icmp_ge f1_commonMultiple_13 (fun h0 => ?_) (fun h0 => ?_)
    · rw [if_pos h0] at hr
      have hr := Option.some.inj hr; subst hr
      refine mV_drop (L' := [.long k0, mX0, .long k2, mX0, .long y4, mX0, mX0, mX0, mX0, mX0, mX0]) (mSub_k (mSub_x (mSub_k (mSub_x (mSub_k (mSub_x (mSub_x (mSub_x (mSub_x (mSub_x (mSub_x mSub_n))))))))))) ?_
      exact hk
    · rw [if_neg h0] at hr
      refine mV_lload f1_commonMultiple_16 rfl ?_
      refine mV_pushL f1_commonMultiple_18 ?_
      refine mV_lcmp f1_commonMultiple_19 ?_
      refine mV_if_le f1_commonMultiple_20 (fun h1 => ?_) (fun h1 => ?_)
      · rw [if_pos h1] at hr
        have hr := Option.some.inj hr; subst hr
        refine mV_drop (L' := [.long k0, mX0, .long k2, mX0, .long y4, mX0, mX0, mX0, mX0, mX0, mX0]) (mSub_k (mSub_x (mSub_k (mSub_x (mSub_k (mSub_x (mSub_x (mSub_x (mSub_x (mSub_x (mSub_x mSub_n))))))))))) ?_
        exact hk
      · rw [if_neg h1] at hr
        refine mV_lload f1_commonMultiple_23 rfl ?_
        refine mV_lload f1_commonMultiple_25 rfl ?_
        obtain ⟨z0, hz0, hr⟩ := mBind hr
        refine mV_remL f1_commonMultiple_27 hz0 ?_
        refine mV_lstore (L' := [.long k0, mX0, .long k2, mX0, .long y4, mX0, .long y6, mX0, .int y8, .long z0, mX0]) f1_commonMultiple_28 (by decide) rfl rfl ?_
        refine mV_lload f1_commonMultiple_30 rfl ?_
        refine mV_lstore (L' := [.long k0, mX0, .long k2, mX0, .long y6, mX0, .long y6, mX0, .int y8, .long z0, mX0]) f1_commonMultiple_32 (by decide) rfl rfl ?_
        refine mV_lload f1_commonMultiple_34 rfl ?_
        refine mV_lstore (L' := [.long k0, mX0, .long k2, mX0, .long y6, mX0, .long z0, mX0, .int y8, .long z0, mX0]) f1_commonMultiple_36 (by decide) rfl rfl ?_
        refine mV_iinc (y := (y8 + 1)) (L' := [.long k0, mX0, .long k2, mX0, .long y6, mX0, .long z0, mX0, .int (y8 + 1), .long z0, mX0]) f1_commonMultiple_38 rfl rfl (by decide) rfl rfl ?_
        refine mV_goto f1_commonMultiple_41 ?_
        refine mV_drop (L' := [.long k0, mX0, .long k2, mX0, .long y6, mX0, .long z0, mX0, .int (y8 + 1), mX0, mX0]) (mSub_k (mSub_x (mSub_k (mSub_x (mSub_k (mSub_x (mSub_k (mSub_x (mSub_k (mSub_x (mSub_x mSub_n))))))))))) ?_
        exact ih y6 z0 (y8 + 1) _ hr hk
set_option maxHeartbeats 4000000 in
set_option maxRecDepth 100000 in
theorem w1_commonMultiple (X : Nat × (Nat → Int32)) (I : mI) (s : Nat) (x0 : Int64) (x1 : Int64) (Q : mQ) {res : Int64} (hr : r1_commonMultiple x0 x1 = some res) (hQ : Q (some (.long res)) NN KK I (PP s)) : mV X m1_commonMultiple 0 0 0 0 [.long x0, mX0, .long x1, mX0, mX0, mX0, mX0, mX0, mX0, mX0, mX0] [] NN KK I (PP s) Q := by
  unfold r1_commonMultiple at hr
  refine mV_lload f1_commonMultiple_0 rfl ?_
  refine mV_lstore (L' := [.long x0, mX0, .long x1, mX0, .long x0, mX0, mX0, mX0, mX0, mX0, mX0]) f1_commonMultiple_1 (by decide) rfl rfl ?_
  refine mV_lload f1_commonMultiple_3 rfl ?_
  refine mV_lstore (L' := [.long x0, mX0, .long x1, mX0, .long x0, mX0, .long x1, mX0, mX0, mX0, mX0]) f1_commonMultiple_4 (by decide) rfl rfl ?_
  refine mV_push f1_commonMultiple_6 ?_
  refine mV_istore (L' := [.long x0, mX0, .long x1, mX0, .long x0, mX0, .long x1, mX0, .int 0, mX0, mX0]) f1_commonMultiple_7 (by decide) rfl rfl ?_
  obtain ⟨z0, hz0, hr⟩ := mBind hr
  refine t1_commonMultiple_9 X Q s I x0 x1 FU x0 x1 0 _ hz0 ?_
  refine mV_lload f1_commonMultiple_44 rfl ?_
  refine mV_pushL f1_commonMultiple_46 ?_
  refine mV_lcmp f1_commonMultiple_47 ?_
  obtain ⟨z1, hz1, hr⟩ := mBind hr
  have keyz1 : mV X m1_commonMultiple 0 0 0 61 [mX0, mX0, mX0, mX0, mX0, mX0, mX0, mX0, mX0, mX0, mX0] [.long z1] NN KK I (PP s) Q := by
    have hr := Option.some.inj hr; subst hr
    exact mV_lret rfl f1_commonMultiple_61 hQ
  clear hr
  have hr := hz1
  clear hz1
  refine mV_if_le f1_commonMultiple_48 (fun h0 => ?_) (fun h0 => ?_)
  · rw [if_pos h0] at hr
    refine mV_pushL f1_commonMultiple_60 ?_
    have hr := Option.some.inj hr; subst hr
    refine mV_drop (L' := [mX0, mX0, mX0, mX0, mX0, mX0, mX0, mX0, mX0, mX0, mX0]) (mSub_x (mSub_x (mSub_x (mSub_x (mSub_x (mSub_x (mSub_x (mSub_x (mSub_x (mSub_x (mSub_x mSub_n))))))))))) ?_
    exact keyz1
  · rw [if_neg h0] at hr
    refine mV_lload f1_commonMultiple_51 rfl ?_
    refine mV_lload f1_commonMultiple_52 rfl ?_
    obtain ⟨z2, hz2, hr⟩ := mBind hr
    refine mV_divL f1_commonMultiple_54 hz2 ?_
    refine mV_lload f1_commonMultiple_55 rfl ?_
    refine mV_lmul f1_commonMultiple_56 ?_
    refine mV_goto f1_commonMultiple_57 ?_
    have hr := Option.some.inj hr; subst hr
    refine mV_drop (L' := [mX0, mX0, mX0, mX0, mX0, mX0, mX0, mX0, mX0, mX0, mX0]) (mSub_x (mSub_x (mSub_x (mSub_x (mSub_x (mSub_x (mSub_x (mSub_x (mSub_x (mSub_x (mSub_x mSub_n))))))))))) ?_
    exact keyz1
theorem c1_commonMultiple (X : Nat × (Nat → Int32)) (I : mI) (s : Nat) (x0 : Int64) (x1 : Int64) {res : Int64} (hr : r1_commonMultiple x0 x1 = some res) : mC X m1_commonMultiple 0 0 0 [.long x0, .long x1] NN KK I (PP s) (mRet (some (.long res)) NN KK I (PP s)) :=
  mC_of (L0 := [.long x0, mX0, .long x1, mX0, mX0, mX0, mX0, mX0, mX0, mX0, mX0]) rfl (Nat.le_of_ble_eq_true rfl) (w1_commonMultiple X I s x0 x1 _ hr (mRet_ok _ _ _ _ _))

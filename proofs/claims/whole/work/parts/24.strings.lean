/-! STRING CONSTANTS: .retAddr 0, 1; their bytes .retAddr 3, 4; the formatter .retAddr 5 -/
def mGetS (j : mMeth) (pc : Nat) (nm ds : String) (q : Nat) : Prop := ∃ idx : Nat, mD j pc (.getfield idx) 3 q ∧ Cond.fieldLink j.1.cls idx "java/lang/String" nm ds ∈ mTb
def mGst (j : mMeth) (pc : Nat) (C nm ds : String) (q : Nat) : Prop := ∃ idx : Nat, mD j pc (.getstatic idx) 3 q ∧ Cond.fieldLink j.1.cls idx C nm ds ∈ mTb
def mByt (k : Nat) (i : Int32) : Option Int32 := if i < 0 ∨ mSl.getD k 0 ≤ i.toNatClampNeg then none else some ((mSb.getD k []).getD i.toNatClampNeg 0)
section MVS
variable {X : Nat × (Nat → Int32)} {j y : mMeth} {d bc bs pc q a na : Nat} {L as st rest : List Value} {n : Nat} {K : mK} {I I1 : mI} {P P1 : mP} {Q : mQ} {x v : Int32}
theorem mV_ldcS0 (hd : mD j pc (.ldc 180) 2 q) (hj : j.1.cls = "WeepingPiano$Reader") (k : mV X j d bc bs q L (.retAddr 0 :: st) n K I P Q) : mV X j d bc bs pc L st n K I P Q := by
  intro b D cI cS aK aV p l e R s m args below meth c H locs cells slots Tc Ts ls hC hR hS hL t1 t2 t3 t4
  obtain ⟨h1, rfl⟩ := hd
  have hown := hC.2.2.2.2.1
  rw [hj] at hown
  exact va_ldcS hC.1 hC.2.1 hown hC.2.2.2.2.2.2.2.2.1.2.2.2.1 h1 (k b D cI cS aK aV p l e R s m args below meth c H locs cells slots Tc Ts ls hC hR hS hL t1 t2 t3 t4)
theorem mV_ldcS1 (hd : mD j pc (.ldc 168) 2 q) (hj : j.1.cls = "WeepingPiano$Reader") (k : mV X j d bc bs q L (.retAddr 1 :: st) n K I P Q) : mV X j d bc bs pc L st n K I P Q := by
  intro b D cI cS aK aV p l e R s m args below meth c H locs cells slots Tc Ts ls hC hR hS hL t1 t2 t3 t4
  obtain ⟨h1, rfl⟩ := hd
  have hown := hC.2.2.2.2.1
  rw [hj] at hown
  exact va_ldcS hC.1 hC.2.1 hown hC.2.2.2.2.2.2.2.2.1.2.2.2.2.1 h1 (k b D cI cS aK aV p l e R s m args below meth c H locs cells slots Tc Ts ls hC hR hS hL t1 t2 t3 t4)
theorem mAV {b : Nat} {D : va_G} {cI cS : ClassId} {aK aV : Nat → Nat} {s : State} (h : mEnv X b D cI cS aK aV s) {i : Nat} (hi : i < 2) : aK (3 + i) = aV i := by
  match i, hi with
  | 0, _ => exact h.2.2.2.2.2.2.2.2.2.2.1
  | 1, _ => exact h.2.2.2.2.2.2.2.2.2.2.2.1
theorem mV_gVal {i : Nat} (hi : i < 2) (hd : mGetS j pc "value" "[B" q) (k : mV X j d bc bs q L (.retAddr (3 + i) :: st) n K I P Q) : mV X j d bc bs pc L (.retAddr i :: st) n K I P Q := by
  intro b D cI cS aK aV p l e R s m args below meth c H locs cells slots Tc Ts ls hC hR hS hL t1 t2 t3 t4
  obtain ⟨idx, ⟨h1, rfl⟩, h2⟩ := hd
  have hE := hC.2.2.2.2.2.2.2.2.1
  have hk := k b D cI cS aK aV p l e R s m args below meth c H locs cells slots Tc Ts ls hC hR hS hL t1 t2 t3 t4
  have e2 : (List.map (mEm b aK) (.retAddr (3 + i) :: st)) = .ref (aV i) :: st.map (mEm b aK) := by
    show Value.ref (aK (3 + i)) :: _ = _
    rw [mAV hE hi]
  rw [e2] at hk
  exact vk_getf hC.1 hC.2.1 (hE.2.2.2.2.2.1.1 i hi).2.2.1 hS hC.2.2.2.2.1 (hC.2.2.2.2.2.2.2.1 _ h2) (fun _ h => h) h1 hk
theorem mV_gCod {i : Nat} (hi : i < 2) (hd : mGetS j pc "coder" "B" q) (k : mV X j d bc bs q L (.int 0 :: st) n K I P Q) : mV X j d bc bs pc L (.retAddr i :: st) n K I P Q := by
  intro b D cI cS aK aV p l e R s m args below meth c H locs cells slots Tc Ts ls hC hR hS hL t1 t2 t3 t4
  obtain ⟨idx, ⟨h1, rfl⟩, h2⟩ := hd
  have hE := hC.2.2.2.2.2.2.2.2.1
  exact vk_getf hC.1 hC.2.1 (hE.2.2.2.2.2.1.1 i hi).2.1 hS hC.2.2.2.2.1 (hC.2.2.2.2.2.2.2.1 _ h2) (fun _ h => h) h1 (k b D cI cS aK aV p l e R s m args below meth c H locs cells slots Tc Ts ls hC hR hS hL t1 t2 t3 t4)
theorem mV_tlen {i : Nat} (hi : i < 2) (hx : Int32.ofNat (mSl.getD i 0) = x) (hd : mD j pc .arraylength 1 q) (k : mV X j d bc bs q L (.int x :: st) n K I P Q) : mV X j d bc bs pc L (.retAddr (3 + i) :: st) n K I P Q := by
  intro b D cI cS aK aV p l e R s m args below meth c H locs cells slots Tc Ts ls hC hR hS hL t1 t2 t3 t4
  obtain ⟨h1, rfl⟩ := hd
  have hE := hC.2.2.2.2.2.2.2.2.1
  have e2 : (List.map (mEm b aK) (.retAddr (3 + i) :: st)) = .ref (aV i) :: st.map (mEm b aK) := by
    show Value.ref (aK (3 + i)) :: _ = _
    rw [mAV hE hi]
  rw [e2]
  exact va_tlen hC.1 hC.2.1 (hE.2.2.2.2.2.1.1 i hi).2.2.2 hS hx h1 (k b D cI cS aK aV p l e R s m args below meth c H locs cells slots Tc Ts ls hC hR hS hL t1 t2 t3 t4)
theorem mV_tb {i : Nat} (hi : i < 2) (hd : mD j pc .baload 1 q) (hv : mByt i x = some v) (k : mV X j d bc bs q L (.int v :: st) n K I P Q) : mV X j d bc bs pc L (.int x :: .retAddr (3 + i) :: st) n K I P Q := by
  intro b D cI cS aK aV p l e R s m args below meth c H locs cells slots Tc Ts ls hC hR hS hL t1 t2 t3 t4
  obtain ⟨h1, rfl⟩ := hd
  have hE := hC.2.2.2.2.2.2.2.2.1
  have e2 : (List.map (mEm b aK) (.int x :: .retAddr (3 + i) :: st)) = .int x :: .ref (aV i) :: st.map (mEm b aK) := by
    show Value.int x :: Value.ref (aK (3 + i)) :: _ = _
    rw [mAV hE hi]
  rw [e2]
  unfold mByt at hv
  split at hv
  · cases hv
  · rename_i hin
    cases hv
    exact va_tb hC.1 hC.2.1 (hE.2.2.2.2.2.1.1 i hi).2.2.2 hS hin rfl h1 (k b D cI cS aK aV p l e R s m args below meth c H locs cells slots Tc Ts ls hC hR hS hL t1 t2 t3 t4)
theorem mV_gCmp (hd : mGst j pc "java/lang/String" "COMPACT_STRINGS" "Z" q) (k : mV X j d bc bs q L (.int 1 :: st) n K I P Q) : mV X j d bc bs pc L st n K I P Q := by
  intro b D cI cS aK aV p l e R s m args below meth c H locs cells slots Tc Ts ls hC hR hS hL t1 t2 t3 t4
  obtain ⟨idx, ⟨h1, rfl⟩, h2⟩ := hd
  have hE := hC.2.2.2.2.2.2.2.2.1
  exact va_gets hC.1 hC.2.1 hE.2.2.2.2.2.2.1 hS hC.2.2.2.2.1 (hC.2.2.2.2.2.2.2.1 _ h2) (fun _ h => h) h1 (k b D cI cS aK aV p l e R s m args below meth c H locs cells slots Tc Ts ls hC hR hS hL t1 t2 t3 t4)
theorem mV_gFm (hd : mGst j pc "jdk/internal/util/Preconditions" "SIOOBE_FORMATTER" "Ljava/util/function/BiFunction;" q) (k : ∀ fm : Value, (fm = .null ∨ fm = .retAddr 5) → mV X j d bc bs q L (fm :: st) n K I P Q) : mV X j d bc bs pc L st n K I P Q := by
  intro b D cI cS aK aV p l e R s m args below meth c H locs cells slots Tc Ts ls hC hR hS hL t1 t2 t3 t4
  obtain ⟨idx, ⟨h1, rfl⟩, h2⟩ := hd
  have hE := hC.2.2.2.2.2.2.2.2.1
  obtain ⟨fm, hfm, hZ⟩ := hE.2.2.2.2.2.2.2.2.2.2.2.2
  refine va_gets hC.1 hC.2.1 hZ hS hC.2.2.2.2.1 (hC.2.2.2.2.2.2.2.1 _ h2) (fun _ h => h) h1 ?_
  rcases hfm with rfl | rfl
  · exact k .null (Or.inl rfl) b D cI cS aK aV p l e R s m args below meth c H locs cells slots Tc Ts ls hC hR hS hL t1 t2 t3 t4
  · exact k (.retAddr 5) (Or.inr rfl) b D cI cS aK aV p l e R s m args below meth c H locs cells slots Tc Ts ls hC hR hS hL t1 t2 t3 t4
theorem mV_i2b (hd : mD j pc .i2b 1 q) (k : mV X j d bc bs q L (.int x.toInt8.toInt32 :: st) n K I P Q) : mV X j d bc bs pc L (.int x :: st) n K I P Q := by
  intro b D cI cS aK aV p l e R s m args below meth c H locs cells slots Tc Ts ls hC hR hS hL t1 t2 t3 t4
  obtain ⟨h1, rfl⟩ := hd
  exact lv_i2b hC.1 hC.2.1 h1 rfl (k b D cI cS aK aV p l e R s m args below meth c H locs cells slots Tc Ts ls hC hR hS hL t1 t2 t3 t4)
theorem mV_nret {ty : FieldType} {x' : Int32} (hty : j.2.2.2 = some ty) (hn : narrow ty (.int x) = .int x') (hd : mD j pc .ireturn 1 q) (hq : Q (some (.int x')) n K I P) : mV X j d bc bs pc L [.int x] n K I P Q := by
  intro b D cI cS aK aV p l e R s m args below meth c H locs cells slots Tc Ts ls hC hR hS hL t1 t2 t3 t4
  obtain ⟨hx, hb, hr, hml, hown, hlocks, -⟩ := hC
  refine W.widen (k := Tc) (n := Ts) (by omega) (by omega) ?_
  have hr : meth.sig.returnType = some ty := hr.trans hty
  intro T hT Z
  obtain ⟨fs, hret, hrun, hended, hW, hframe⟩ := Z.leave (v := some (.int x')) (hlocks := hlocks) (fun h => by rw [hr] at h; cases h)
  have hmeth' : T.vm.method? m = some meth := Z.method'
  refine ⟨T.setFrames fs, ?_, .returned (some (.int x')), hrun, hended, ⟨⟨some (.int x'), n, K, I, P, rfl, hq, by show mRel b D cI cS n K I P T.heap; rw [hT]; exact hR⟩, hS.F (t := T.setFrames fs) hT⟩, locs, ⟨⟨_, rfl⟩, hW, hframe⟩, hS.2.2⟩
  show Steps p.tables e below (T.setTop (F0 m pc ls [.int x])) (T.setFrames fs)
  jvm_step Z.here [Z.here.top, hx, hb, hd.1, hmeth', hr, hn]
  (try refine ⟨rfl, ?_⟩); (try refine ⟨rfl, ?_⟩)
  first | (intro acts; rw [hret _ acts rfl rfl rfl]) | rw [hret _ _ rfl rfl rfl]
  exact Steps.refl _
/-- a call on a string constant -/
theorem mV_cStr {v : Option Value} {sk : List Value} {i : Nat} (hi : i < 2) (hd : mSiteV j y pc q) (ht : mTgV y na) (hy : y.1.cls = "java/lang/String") (hm : mC X y d 0 0 (.retAddr i :: as) n K I P (mRet v n K I1 P1)) (hsk : as.reverse ++ .retAddr i :: rest = sk) (hna : as.length = na) (hrest : (rest.map fun v => v.category).sum ≤ 8) (kk : mV X j (d + 1) bc bs q L (v.toList ++ rest) n K I1 P1 Q) : mV X j (d + 1) bc bs pc L sk n K I P Q := by
  obtain ⟨idx, ⟨hdg, rfl⟩, hlk⟩ := hd
  subst hsk
  intro b D cI cS aK aV p l e R s m args below meth c H locs cells slots Tc Ts ls hC hR hS hL t1 t2 t3 t4
  obtain ⟨hx, hb, hr, hml, hown, hlocks, hnm, hts, hE, hf1, hf2⟩ := id hC
  have hrc := vk_recv hE.2.2.2.2.2.1 hi hS
  rw [← hy] at hrc
  have hr := va_runV (b := aK i) (As := as.map (mEm b aK)) (rest := rest.map (mEm b aK)) (g := F0 m pc ls ((as.reverse ++ .retAddr i :: rest).map (mEm b aK))) (cells := cells) (slots := slots) (locs := locs) (H := H) (e := e) (below := below) (meth := meth) (R := R) (index := idx) (C := y.1.cls) ⟨hx, hb, hml, hown, hts⟩ (mMet ht.1.1 hm l b D cI cS aK aV)
    ⟨callB_of na hts (mWs_good ht.1) rfl rfl rfl (hts _ ht.1.2.2.1) (hts _ hlk) ht.1.2.2.2.1 ⟨hf1, by have := ht.1.2.2.2.2; show 8 + (y.2.2.1 + 11) + 64 * d ≤ R.locals; omega⟩, hts _ ht.2.1, hts _ ht.2.2⟩ ⟨mPc_blind _ _ _ _ _ _ _ _ _ _ _ _, hrc, fun U hU hW => ⟨rfl, hE.go hS hU hW, by rw [hU]; exact hR⟩⟩ rfl (by rw [List.length_map]; exact hna) hL.1 (by show List.map _ _ = _; rw [List.map_append, List.map_reverse]; rfl) (mRest hrest) hdg ⟨by omega, by omega⟩
  refine mRunK hr hS fun v' n' K' I' P' H1 locs1 hq hR1 hS1 => ?_
  obtain ⟨rfl, rfl, rfl, rfl, rfl⟩ := hq
  have := kk b D cI cS aK aV p l e R s m args below meth c H1 locs1 (cells + 0) (slots + 0) Tc Ts ls hC hR1 hS1 hL (by omega) (by omega) t3 t4
  cases v' <;> exact this
end MVS
/-- World.script -/
theorem c8_script_0 (X : Nat × (Nat → Int32)) (I : mI) (s : Nat) (x : Int32) (h : x = 0) : mC X m8_script 0 0 0 [.ref 2, .int x] NN KK I (PP s) (mRet (some (.ref 15)) NN KK I (PP s)) := by
  refine mC_of (L0 := [.ref 2, .int x]) rfl (Nat.le_of_ble_eq_true rfl) ?_
  refine mV_iload f8_script_0 rfl ?_
  refine mV_tabEq (v := 0) f8_script_1 h (by decide) (by decide) (by decide) (by decide : (1 : Int) + 31 = (32 : Nat)) ?_
  refine mV_aload f8_script_32 rfl ?_
  refine mV_getP f8_script_33 (by decide) kk_2 rfl (pp_2_2 _) ?_
  exact mV_aret rfl f8_script_36 (mRet_ok _ _ _ _ _)
theorem c8_script_1 (X : Nat × (Nat → Int32)) (I : mI) (s : Nat) (x : Int32) (h : x = 1) : mC X m8_script 0 0 0 [.ref 2, .int x] NN KK I (PP s) (mRet (some (.ref 18)) NN KK I (PP s)) := by
  refine mC_of (L0 := [.ref 2, .int x]) rfl (Nat.le_of_ble_eq_true rfl) ?_
  refine mV_iload f8_script_0 rfl ?_
  refine mV_tabEq (v := 1) f8_script_1 h (by decide) (by decide) (by decide) (by decide : (1 : Int) + 36 = (37 : Nat)) ?_
  refine mV_aload f8_script_37 rfl ?_
  refine mV_getP f8_script_38 (by decide) kk_2 rfl (pp_2_3 _) ?_
  exact mV_aret rfl f8_script_41 (mRet_ok _ _ _ _ _)
theorem c8_script_2 (X : Nat × (Nat → Int32)) (I : mI) (s : Nat) (x : Int32) (h : x = 2) : mC X m8_script 0 0 0 [.ref 2, .int x] NN KK I (PP s) (mRet (some (.ref 21)) NN KK I (PP s)) := by
  refine mC_of (L0 := [.ref 2, .int x]) rfl (Nat.le_of_ble_eq_true rfl) ?_
  refine mV_iload f8_script_0 rfl ?_
  refine mV_tabEq (v := 2) f8_script_1 h (by decide) (by decide) (by decide) (by decide : (1 : Int) + 41 = (42 : Nat)) ?_
  refine mV_aload f8_script_42 rfl ?_
  refine mV_getP f8_script_43 (by decide) kk_2 rfl (pp_2_4 _) ?_
  exact mV_aret rfl f8_script_46 (mRet_ok _ _ _ _ _)
theorem c8_script_3 (X : Nat × (Nat → Int32)) (I : mI) (s : Nat) (x : Int32) (h : x = 3) : mC X m8_script 0 0 0 [.ref 2, .int x] NN KK I (PP s) (mRet (some (.ref 24)) NN KK I (PP s)) := by
  refine mC_of (L0 := [.ref 2, .int x]) rfl (Nat.le_of_ble_eq_true rfl) ?_
  refine mV_iload f8_script_0 rfl ?_
  refine mV_tabEq (v := 3) f8_script_1 h (by decide) (by decide) (by decide) (by decide : (1 : Int) + 46 = (47 : Nat)) ?_
  refine mV_aload f8_script_47 rfl ?_
  refine mV_getP f8_script_48 (by decide) kk_2 rfl (pp_2_5 _) ?_
  exact mV_aret rfl f8_script_51 (mRet_ok _ _ _ _ _)
theorem c8_script_n (X : Nat × (Nat → Int32)) (I : mI) (s : Nat) (x : Int32) (h0 : ¬ x = 0) (h1 : ¬ x = 1) (h2 : ¬ x = 2) (h3 : ¬ x = 3) : mC X m8_script 0 0 0 [.ref 2, .int x] NN KK I (PP s) (mRet (some .null) NN KK I (PP s)) := by
  refine mC_of (L0 := [.ref 2, .int x]) rfl (Nat.le_of_ble_eq_true rfl) ?_
  refine mV_iload f8_script_0 rfl ?_
  refine mV_tabNo f8_script_1 [0, 1, 2, 3] (by decide) (List.forall_mem_cons.mpr ⟨h0, List.forall_mem_cons.mpr ⟨h1, List.forall_mem_cons.mpr ⟨h2, List.forall_mem_cons.mpr ⟨h3, fun _ hc => absurd hc List.not_mem_nil⟩⟩⟩⟩) (by decide : (1 : Int) + 51 = (52 : Nat)) ?_
  refine mV_null f8_script_52 ?_
  exact mV_aretN rfl f8_script_53 (mRet_ok _ _ _ _ _)
theorem fJ0_length_0 : mLdA mJ0_length 0 0 1 := Or.inl ⟨0, ⟨by decide +kernel, rfl⟩, rfl⟩
theorem fJ0_length_1 : mGetS mJ0_length 1 "value" "[B" 4 := ⟨9, ⟨by decide +kernel, rfl⟩, mTb_in (tin_8 (List.mem_of_getElem? (i := 237) (by decide +kernel))) rfl⟩
theorem fJ0_length_4 : mD mJ0_length 4 (.arraylength) 1 5 := ⟨by decide +kernel, rfl⟩
theorem fJ0_length_5 : mLdA mJ0_length 5 0 6 := Or.inl ⟨0, ⟨by decide +kernel, rfl⟩, rfl⟩
theorem fJ0_length_6 : mSiteV mJ0_length mJ0_coder 6 9 := ⟨335, ⟨by decide +kernel, rfl⟩, mlJ0_335⟩
theorem fJ0_length_9 : mD mJ0_length 9 (.ishr) 1 10 := ⟨by decide +kernel, rfl⟩
theorem fJ0_length_10 : mD mJ0_length 10 (.ireturn) 1 11 := ⟨by decide +kernel, rfl⟩
theorem fJ0_charAt_0 : mLdA mJ0_charAt 0 0 1 := Or.inl ⟨0, ⟨by decide +kernel, rfl⟩, rfl⟩
theorem fJ0_charAt_1 : mSiteV mJ0_charAt mJ0_isLatin1 1 4 := ⟨492, ⟨by decide +kernel, rfl⟩, mlJ0_492⟩
theorem fJ0_charAt_4 : mBz mJ0_charAt 4 .eq 7 16 := ⟨12, ⟨by decide +kernel, rfl⟩, by decide⟩
theorem fJ0_charAt_7 : mLdA mJ0_charAt 7 0 8 := Or.inl ⟨0, ⟨by decide +kernel, rfl⟩, rfl⟩
theorem fJ0_charAt_8 : mGetS mJ0_charAt 8 "value" "[B" 11 := ⟨9, ⟨by decide +kernel, rfl⟩, mTb_in (tin_8 (List.mem_of_getElem? (i := 237) (by decide +kernel))) rfl⟩
theorem fJ0_charAt_11 : mLdI mJ0_charAt 11 1 12 := Or.inl ⟨1, ⟨by decide +kernel, rfl⟩, rfl⟩
theorem fJ0_charAt_12 : mSiteS mJ0_charAt mJ1_charAt 12 15 := ⟨495, ⟨by decide +kernel, rfl⟩, mlJ0_495⟩
theorem fJ0_charAt_15 : mD mJ0_charAt 15 (.ireturn) 1 16 := ⟨by decide +kernel, rfl⟩
theorem fJ0_charAt_16 : mLdA mJ0_charAt 16 0 17 := Or.inl ⟨0, ⟨by decide +kernel, rfl⟩, rfl⟩
theorem fJ0_charAt_17 : mGetS mJ0_charAt 17 "value" "[B" 20 := ⟨9, ⟨by decide +kernel, rfl⟩, mTb_in (tin_8 (List.mem_of_getElem? (i := 237) (by decide +kernel))) rfl⟩
theorem fJ0_charAt_20 : mLdI mJ0_charAt 20 1 21 := Or.inl ⟨1, ⟨by decide +kernel, rfl⟩, rfl⟩
theorem fJ0_charAt_21 : mSiteS mJ0_charAt mJ2_charAt 21 24 := ⟨498, ⟨by decide +kernel, rfl⟩, mlJ0_498⟩
theorem fJ0_charAt_24 : mD mJ0_charAt 24 (.ireturn) 1 25 := ⟨by decide +kernel, rfl⟩
theorem fJ0_indexOf0_0 : mLdA mJ0_indexOf0 0 0 1 := Or.inl ⟨0, ⟨by decide +kernel, rfl⟩, rfl⟩
theorem fJ0_indexOf0_1 : mLdI mJ0_indexOf0 1 1 2 := Or.inl ⟨1, ⟨by decide +kernel, rfl⟩, rfl⟩
theorem fJ0_indexOf0_2 : mPush mJ0_indexOf0 2 (0) 3 := Or.inl ⟨0, ⟨by decide +kernel, rfl⟩, by decide⟩
theorem fJ0_indexOf0_3 : mSiteV mJ0_indexOf0 mJ0_indexOf1 3 6 := ⟨633, ⟨by decide +kernel, rfl⟩, mlJ0_633⟩
theorem fJ0_indexOf0_6 : mD mJ0_indexOf0 6 (.ireturn) 1 7 := ⟨by decide +kernel, rfl⟩
theorem fJ0_indexOf1_0 : mLdA mJ0_indexOf1 0 0 1 := Or.inl ⟨0, ⟨by decide +kernel, rfl⟩, rfl⟩
theorem fJ0_indexOf1_1 : mSiteV mJ0_indexOf1 mJ0_isLatin1 1 4 := ⟨492, ⟨by decide +kernel, rfl⟩, mlJ0_492⟩
theorem fJ0_indexOf1_4 : mBz mJ0_indexOf1 4 .eq 7 23 := ⟨19, ⟨by decide +kernel, rfl⟩, by decide⟩
theorem fJ0_indexOf1_7 : mLdA mJ0_indexOf1 7 0 8 := Or.inl ⟨0, ⟨by decide +kernel, rfl⟩, rfl⟩
theorem fJ0_indexOf1_8 : mGetS mJ0_indexOf1 8 "value" "[B" 11 := ⟨9, ⟨by decide +kernel, rfl⟩, mTb_in (tin_8 (List.mem_of_getElem? (i := 237) (by decide +kernel))) rfl⟩
theorem fJ0_indexOf1_11 : mLdI mJ0_indexOf1 11 1 12 := Or.inl ⟨1, ⟨by decide +kernel, rfl⟩, rfl⟩
theorem fJ0_indexOf1_12 : mLdI mJ0_indexOf1 12 2 13 := Or.inl ⟨2, ⟨by decide +kernel, rfl⟩, rfl⟩
theorem fJ0_indexOf1_13 : mLdA mJ0_indexOf1 13 0 14 := Or.inl ⟨0, ⟨by decide +kernel, rfl⟩, rfl⟩
theorem fJ0_indexOf1_14 : mSiteV mJ0_indexOf1 mJ0_length 14 17 := ⟨505, ⟨by decide +kernel, rfl⟩, mlJ0_505⟩
theorem fJ0_indexOf1_17 : mSiteS mJ0_indexOf1 mJ1_indexOf 17 20 := ⟨637, ⟨by decide +kernel, rfl⟩, mlJ0_637⟩
theorem fJ0_indexOf1_20 : mGo mJ0_indexOf1 20 36 := ⟨16, by decide +kernel, by decide⟩
theorem fJ0_indexOf1_23 : mLdA mJ0_indexOf1 23 0 24 := Or.inl ⟨0, ⟨by decide +kernel, rfl⟩, rfl⟩
theorem fJ0_indexOf1_24 : mGetS mJ0_indexOf1 24 "value" "[B" 27 := ⟨9, ⟨by decide +kernel, rfl⟩, mTb_in (tin_8 (List.mem_of_getElem? (i := 237) (by decide +kernel))) rfl⟩
theorem fJ0_indexOf1_27 : mLdI mJ0_indexOf1 27 1 28 := Or.inl ⟨1, ⟨by decide +kernel, rfl⟩, rfl⟩
theorem fJ0_indexOf1_28 : mLdI mJ0_indexOf1 28 2 29 := Or.inl ⟨2, ⟨by decide +kernel, rfl⟩, rfl⟩
theorem fJ0_indexOf1_29 : mLdA mJ0_indexOf1 29 0 30 := Or.inl ⟨0, ⟨by decide +kernel, rfl⟩, rfl⟩
theorem fJ0_indexOf1_30 : mSiteV mJ0_indexOf1 mJ0_length 30 33 := ⟨505, ⟨by decide +kernel, rfl⟩, mlJ0_505⟩
theorem fJ0_indexOf1_33 : mSiteS mJ0_indexOf1 mJ2_indexOf 33 36 := ⟨640, ⟨by decide +kernel, rfl⟩, mlJ0_640⟩
theorem fJ0_indexOf1_36 : mD mJ0_indexOf1 36 (.ireturn) 1 37 := ⟨by decide +kernel, rfl⟩
theorem fJ0_coder_0 : mGst mJ0_coder 0 "java/lang/String" "COMPACT_STRINGS" "Z" 3 := ⟨38, ⟨by decide +kernel, rfl⟩, mTb_in (tin_3 (List.mem_of_getElem? (i := 148) (by decide +kernel))) rfl⟩
theorem fJ0_coder_3 : mBz mJ0_coder 3 .eq 6 13 := ⟨10, ⟨by decide +kernel, rfl⟩, by decide⟩
theorem fJ0_coder_6 : mLdA mJ0_coder 6 0 7 := Or.inl ⟨0, ⟨by decide +kernel, rfl⟩, rfl⟩
theorem fJ0_coder_7 : mGetS mJ0_coder 7 "coder" "B" 10 := ⟨15, ⟨by decide +kernel, rfl⟩, mTb_in (tin_8 (List.mem_of_getElem? (i := 238) (by decide +kernel))) rfl⟩
theorem fJ0_coder_10 : mGo mJ0_coder 10 14 := ⟨4, by decide +kernel, by decide⟩
theorem fJ0_coder_13 : mPush mJ0_coder 13 (1) 14 := Or.inl ⟨1, ⟨by decide +kernel, rfl⟩, by decide⟩
theorem fJ0_coder_14 : mD mJ0_coder 14 (.ireturn) 1 15 := ⟨by decide +kernel, rfl⟩
theorem fJ0_isLatin1_0 : mGst mJ0_isLatin1 0 "java/lang/String" "COMPACT_STRINGS" "Z" 3 := ⟨38, ⟨by decide +kernel, rfl⟩, mTb_in (tin_3 (List.mem_of_getElem? (i := 148) (by decide +kernel))) rfl⟩
theorem fJ0_isLatin1_3 : mBz mJ0_isLatin1 3 .eq 6 17 := ⟨14, ⟨by decide +kernel, rfl⟩, by decide⟩
theorem fJ0_isLatin1_6 : mLdA mJ0_isLatin1 6 0 7 := Or.inl ⟨0, ⟨by decide +kernel, rfl⟩, rfl⟩
theorem fJ0_isLatin1_7 : mGetS mJ0_isLatin1 7 "coder" "B" 10 := ⟨15, ⟨by decide +kernel, rfl⟩, mTb_in (tin_8 (List.mem_of_getElem? (i := 238) (by decide +kernel))) rfl⟩
theorem fJ0_isLatin1_10 : mBz mJ0_isLatin1 10 .ne 13 17 := ⟨7, ⟨by decide +kernel, rfl⟩, by decide⟩
theorem fJ0_isLatin1_13 : mPush mJ0_isLatin1 13 (1) 14 := Or.inl ⟨1, ⟨by decide +kernel, rfl⟩, by decide⟩
theorem fJ0_isLatin1_14 : mGo mJ0_isLatin1 14 18 := ⟨4, by decide +kernel, by decide⟩
theorem fJ0_isLatin1_17 : mPush mJ0_isLatin1 17 (0) 18 := Or.inl ⟨0, ⟨by decide +kernel, rfl⟩, by decide⟩
theorem fJ0_isLatin1_18 : mD mJ0_isLatin1 18 (.ireturn) 1 19 := ⟨by decide +kernel, rfl⟩
theorem fJ0_checkIndex_0 : mLdI mJ0_checkIndex 0 0 1 := Or.inl ⟨0, ⟨by decide +kernel, rfl⟩, rfl⟩
theorem fJ0_checkIndex_1 : mLdI mJ0_checkIndex 1 1 2 := Or.inl ⟨1, ⟨by decide +kernel, rfl⟩, rfl⟩
theorem fJ0_checkIndex_2 : mGst mJ0_checkIndex 2 "jdk/internal/util/Preconditions" "SIOOBE_FORMATTER" "Ljava/util/function/BiFunction;" 5 := ⟨1053, ⟨by decide +kernel, rfl⟩, mTb_in (tin_3 (List.mem_of_getElem? (i := 164) (by decide +kernel))) rfl⟩
theorem fJ0_checkIndex_5 : mSiteS mJ0_checkIndex mJ3_checkIndex 5 8 := ⟨1059, ⟨by decide +kernel, rfl⟩, mlJ0_1059⟩
theorem fJ0_checkIndex_8 : mD mJ0_checkIndex 8 (.pop) 1 9 := ⟨by decide +kernel, rfl⟩
theorem fJ0_checkIndex_9 : mD mJ0_checkIndex 9 (.return_) 1 10 := ⟨by decide +kernel, rfl⟩
theorem fJ1_charAt_0 : mLdI mJ1_charAt 0 1 1 := Or.inl ⟨1, ⟨by decide +kernel, rfl⟩, rfl⟩
theorem fJ1_charAt_1 : mLdA mJ1_charAt 1 0 2 := Or.inl ⟨0, ⟨by decide +kernel, rfl⟩, rfl⟩
theorem fJ1_charAt_2 : mD mJ1_charAt 2 (.arraylength) 1 3 := ⟨by decide +kernel, rfl⟩
theorem fJ1_charAt_3 : mSiteS mJ1_charAt mJ0_checkIndex 3 6 := ⟨9, ⟨by decide +kernel, rfl⟩, mlJ1_9⟩
theorem fJ1_charAt_6 : mLdA mJ1_charAt 6 0 7 := Or.inl ⟨0, ⟨by decide +kernel, rfl⟩, rfl⟩
theorem fJ1_charAt_7 : mLdI mJ1_charAt 7 1 8 := Or.inl ⟨1, ⟨by decide +kernel, rfl⟩, rfl⟩
theorem fJ1_charAt_8 : mD mJ1_charAt 8 (.baload) 1 9 := ⟨by decide +kernel, rfl⟩
theorem fJ1_charAt_9 : mPush mJ1_charAt 9 (255) 12 := Or.inr (Or.inr (Or.inl ⟨255, ⟨by decide +kernel, rfl⟩, by decide⟩))
theorem fJ1_charAt_12 : mD mJ1_charAt 12 (.iand) 1 13 := ⟨by decide +kernel, rfl⟩
theorem fJ1_charAt_13 : mD mJ1_charAt 13 (.i2c) 1 14 := ⟨by decide +kernel, rfl⟩
theorem fJ1_charAt_14 : mD mJ1_charAt 14 (.ireturn) 1 15 := ⟨by decide +kernel, rfl⟩
theorem fJ1_canEncode_0 : mLdI mJ1_canEncode 0 0 1 := Or.inl ⟨0, ⟨by decide +kernel, rfl⟩, rfl⟩
theorem fJ1_canEncode_1 : mBz mJ1_canEncode 1 .lt 4 15 := ⟨14, ⟨by decide +kernel, rfl⟩, by decide⟩
theorem fJ1_canEncode_4 : mLdI mJ1_canEncode 4 0 5 := Or.inl ⟨0, ⟨by decide +kernel, rfl⟩, rfl⟩
theorem fJ1_canEncode_5 : mPush mJ1_canEncode 5 (255) 8 := Or.inr (Or.inr (Or.inl ⟨255, ⟨by decide +kernel, rfl⟩, by decide⟩))
theorem fJ1_canEncode_8 : mBr mJ1_canEncode 8 .gt 11 15 := ⟨7, ⟨by decide +kernel, rfl⟩, by decide⟩
theorem fJ1_canEncode_11 : mPush mJ1_canEncode 11 (1) 12 := Or.inl ⟨1, ⟨by decide +kernel, rfl⟩, by decide⟩
theorem fJ1_canEncode_12 : mGo mJ1_canEncode 12 16 := ⟨4, by decide +kernel, by decide⟩
theorem fJ1_canEncode_15 : mPush mJ1_canEncode 15 (0) 16 := Or.inl ⟨0, ⟨by decide +kernel, rfl⟩, by decide⟩
theorem fJ1_canEncode_16 : mD mJ1_canEncode 16 (.ireturn) 1 17 := ⟨by decide +kernel, rfl⟩
theorem fJ1_indexOf_0 : mLdI mJ1_indexOf 0 1 1 := Or.inl ⟨1, ⟨by decide +kernel, rfl⟩, rfl⟩
theorem fJ1_indexOf_1 : mSiteS mJ1_indexOf mJ1_canEncode 1 4 := ⟨88, ⟨by decide +kernel, rfl⟩, mlJ1_88⟩
theorem fJ1_indexOf_4 : mBz mJ1_indexOf 4 .ne 7 9 := ⟨5, ⟨by decide +kernel, rfl⟩, by decide⟩
theorem fJ1_indexOf_7 : mPush mJ1_indexOf 7 (-1) 8 := Or.inl ⟨(-1), ⟨by decide +kernel, rfl⟩, by decide⟩
theorem fJ1_indexOf_8 : mD mJ1_indexOf 8 (.ireturn) 1 9 := ⟨by decide +kernel, rfl⟩
theorem fJ1_indexOf_9 : mLdI mJ1_indexOf 9 2 10 := Or.inl ⟨2, ⟨by decide +kernel, rfl⟩, rfl⟩
theorem fJ1_indexOf_10 : mPush mJ1_indexOf 10 (0) 11 := Or.inl ⟨0, ⟨by decide +kernel, rfl⟩, by decide⟩
theorem fJ1_indexOf_11 : mSiteS mJ1_indexOf mJ9_max 11 14 := ⟨92, ⟨by decide +kernel, rfl⟩, mlJ1_92⟩
theorem fJ1_indexOf_14 : mStI mJ1_indexOf 14 2 15 := Or.inl ⟨2, ⟨by decide +kernel, rfl⟩, rfl⟩
theorem fJ1_indexOf_15 : mLdI mJ1_indexOf 15 3 16 := Or.inl ⟨3, ⟨by decide +kernel, rfl⟩, rfl⟩
theorem fJ1_indexOf_16 : mLdA mJ1_indexOf 16 0 17 := Or.inl ⟨0, ⟨by decide +kernel, rfl⟩, rfl⟩
theorem fJ1_indexOf_17 : mD mJ1_indexOf 17 (.arraylength) 1 18 := ⟨by decide +kernel, rfl⟩
theorem fJ1_indexOf_18 : mSiteS mJ1_indexOf mJ9_min 18 21 := ⟨38, ⟨by decide +kernel, rfl⟩, mlJ1_38⟩
theorem fJ1_indexOf_21 : mStI mJ1_indexOf 21 3 22 := Or.inl ⟨3, ⟨by decide +kernel, rfl⟩, rfl⟩
theorem fJ1_indexOf_22 : mLdI mJ1_indexOf 22 2 23 := Or.inl ⟨2, ⟨by decide +kernel, rfl⟩, rfl⟩
theorem fJ1_indexOf_23 : mLdI mJ1_indexOf 23 3 24 := Or.inl ⟨3, ⟨by decide +kernel, rfl⟩, rfl⟩
theorem fJ1_indexOf_24 : mBr mJ1_indexOf 24 .lt 27 29 := ⟨5, ⟨by decide +kernel, rfl⟩, by decide⟩
theorem fJ1_indexOf_27 : mPush mJ1_indexOf 27 (-1) 28 := Or.inl ⟨(-1), ⟨by decide +kernel, rfl⟩, by decide⟩
theorem fJ1_indexOf_28 : mD mJ1_indexOf 28 (.ireturn) 1 29 := ⟨by decide +kernel, rfl⟩
theorem fJ1_indexOf_29 : mLdA mJ1_indexOf 29 0 30 := Or.inl ⟨0, ⟨by decide +kernel, rfl⟩, rfl⟩
theorem fJ1_indexOf_30 : mLdI mJ1_indexOf 30 1 31 := Or.inl ⟨1, ⟨by decide +kernel, rfl⟩, rfl⟩
theorem fJ1_indexOf_31 : mLdI mJ1_indexOf 31 2 32 := Or.inl ⟨2, ⟨by decide +kernel, rfl⟩, rfl⟩
theorem fJ1_indexOf_32 : mLdI mJ1_indexOf 32 3 33 := Or.inl ⟨3, ⟨by decide +kernel, rfl⟩, rfl⟩
theorem fJ1_indexOf_33 : mSiteS mJ1_indexOf mJ1_indexOfChar 33 36 := ⟨95, ⟨by decide +kernel, rfl⟩, mlJ1_95⟩
theorem fJ1_indexOf_36 : mD mJ1_indexOf 36 (.ireturn) 1 37 := ⟨by decide +kernel, rfl⟩
theorem fJ1_indexOfChar_0 : mLdI mJ1_indexOfChar 0 1 1 := Or.inl ⟨1, ⟨by decide +kernel, rfl⟩, rfl⟩
theorem fJ1_indexOfChar_1 : mD mJ1_indexOfChar 1 (.i2b) 1 2 := ⟨by decide +kernel, rfl⟩
theorem fJ1_indexOfChar_2 : mStI mJ1_indexOfChar 2 4 4 := Or.inr ⟨by decide +kernel, rfl⟩
theorem fJ1_indexOfChar_4 : mLdI mJ1_indexOfChar 4 2 5 := Or.inl ⟨2, ⟨by decide +kernel, rfl⟩, rfl⟩
theorem fJ1_indexOfChar_5 : mStI mJ1_indexOfChar 5 5 7 := Or.inr ⟨by decide +kernel, rfl⟩
theorem fJ1_indexOfChar_7 : mLdI mJ1_indexOfChar 7 5 9 := Or.inr ⟨by decide +kernel, rfl⟩
theorem fJ1_indexOfChar_9 : mLdI mJ1_indexOfChar 9 3 10 := Or.inl ⟨3, ⟨by decide +kernel, rfl⟩, rfl⟩
theorem fJ1_indexOfChar_10 : mBr mJ1_indexOfChar 10 .ge 13 31 := ⟨21, ⟨by decide +kernel, rfl⟩, by decide⟩
theorem fJ1_indexOfChar_13 : mLdA mJ1_indexOfChar 13 0 14 := Or.inl ⟨0, ⟨by decide +kernel, rfl⟩, rfl⟩
theorem fJ1_indexOfChar_14 : mLdI mJ1_indexOfChar 14 5 16 := Or.inr ⟨by decide +kernel, rfl⟩
theorem fJ1_indexOfChar_16 : mD mJ1_indexOfChar 16 (.baload) 1 17 := ⟨by decide +kernel, rfl⟩
theorem fJ1_indexOfChar_17 : mLdI mJ1_indexOfChar 17 4 19 := Or.inr ⟨by decide +kernel, rfl⟩
theorem fJ1_indexOfChar_19 : mBr mJ1_indexOfChar 19 .ne 22 25 := ⟨6, ⟨by decide +kernel, rfl⟩, by decide⟩
theorem fJ1_indexOfChar_22 : mLdI mJ1_indexOfChar 22 5 24 := Or.inr ⟨by decide +kernel, rfl⟩
theorem fJ1_indexOfChar_24 : mD mJ1_indexOfChar 24 (.ireturn) 1 25 := ⟨by decide +kernel, rfl⟩
theorem fJ1_indexOfChar_25 : mD mJ1_indexOfChar 25 (.iinc 5 1) 3 28 := ⟨by decide +kernel, rfl⟩
theorem fJ1_indexOfChar_28 : mGo mJ1_indexOfChar 28 7 := ⟨(-21), by decide +kernel, by decide⟩
theorem fJ1_indexOfChar_31 : mPush mJ1_indexOfChar 31 (-1) 32 := Or.inl ⟨(-1), ⟨by decide +kernel, rfl⟩, by decide⟩
theorem fJ1_indexOfChar_32 : mD mJ1_indexOfChar 32 (.ireturn) 1 33 := ⟨by decide +kernel, rfl⟩
theorem fJ3_checkIndex_0 : mLdI mJ3_checkIndex 0 0 1 := Or.inl ⟨0, ⟨by decide +kernel, rfl⟩, rfl⟩
theorem fJ3_checkIndex_1 : mBz mJ3_checkIndex 1 .lt 4 9 := ⟨8, ⟨by decide +kernel, rfl⟩, by decide⟩
theorem fJ3_checkIndex_4 : mLdI mJ3_checkIndex 4 0 5 := Or.inl ⟨0, ⟨by decide +kernel, rfl⟩, rfl⟩
theorem fJ3_checkIndex_5 : mLdI mJ3_checkIndex 5 1 6 := Or.inl ⟨1, ⟨by decide +kernel, rfl⟩, rfl⟩
theorem fJ3_checkIndex_6 : mBr mJ3_checkIndex 6 .lt 9 16 := ⟨10, ⟨by decide +kernel, rfl⟩, by decide⟩
theorem fJ3_checkIndex_9 : mLdA mJ3_checkIndex 9 2 10 := Or.inl ⟨2, ⟨by decide +kernel, rfl⟩, rfl⟩
theorem fJ3_checkIndex_10 : mLdI mJ3_checkIndex 10 0 11 := Or.inl ⟨0, ⟨by decide +kernel, rfl⟩, rfl⟩
theorem fJ3_checkIndex_11 : mLdI mJ3_checkIndex 11 1 12 := Or.inl ⟨1, ⟨by decide +kernel, rfl⟩, rfl⟩
theorem fJ3_checkIndex_12 : mD mJ3_checkIndex 12 (.invokestatic 95) 3 15 := ⟨by decide +kernel, rfl⟩
theorem fJ3_checkIndex_15 : mD mJ3_checkIndex 15 (.athrow) 1 16 := ⟨by decide +kernel, rfl⟩
theorem fJ3_checkIndex_16 : mLdI mJ3_checkIndex 16 0 17 := Or.inl ⟨0, ⟨by decide +kernel, rfl⟩, rfl⟩
theorem fJ3_checkIndex_17 : mD mJ3_checkIndex 17 (.ireturn) 1 18 := ⟨by decide +kernel, rfl⟩
def mChkI (x y : Int32) : Option Unit := if x < 0 then none else if x < y then some () else none
theorem cJ3_checkIndex (X : Nat × (Nat → Int32)) (I : mI) (s : Nat) (x y : Int32) (fm : Value) (hfm : fm = .null ∨ fm = .retAddr 5) (h0 : ¬ x < 0) (h1 : x < y) : mC X mJ3_checkIndex 0 0 0 [.int x, .int y, fm] NN KK I (PP s) (mRet (some (.int x)) NN KK I (PP s)) := by
  rcases hfm with rfl | rfl
  · refine mC_of (L0 := [.int x, .int y, .null]) rfl (Nat.le_of_ble_eq_true rfl) ?_
    refine mV_iload fJ3_checkIndex_0 rfl ?_
    refine mV_if_lt fJ3_checkIndex_1 (fun h => absurd h h0) (fun _ => ?_)
    refine mV_iload fJ3_checkIndex_4 rfl ?_
    refine mV_iload fJ3_checkIndex_5 rfl ?_
    refine mV_icmp_lt fJ3_checkIndex_6 (fun _ => ?_) (fun h => absurd h1 h)
    refine mV_iload fJ3_checkIndex_16 rfl ?_
    exact mV_iret rfl rfl fJ3_checkIndex_17 (mRet_ok _ _ _ _ _)
  · refine mC_of (L0 := [.int x, .int y, .retAddr 5]) rfl (Nat.le_of_ble_eq_true rfl) ?_
    refine mV_iload fJ3_checkIndex_0 rfl ?_
    refine mV_if_lt fJ3_checkIndex_1 (fun h => absurd h h0) (fun _ => ?_)
    refine mV_iload fJ3_checkIndex_4 rfl ?_
    refine mV_iload fJ3_checkIndex_5 rfl ?_
    refine mV_icmp_lt fJ3_checkIndex_6 (fun _ => ?_) (fun h => absurd h1 h)
    refine mV_iload fJ3_checkIndex_16 rfl ?_
    exact mV_iret rfl rfl fJ3_checkIndex_17 (mRet_ok _ _ _ _ _)
theorem cJ0_checkIndex (X : Nat × (Nat → Int32)) (I : mI) (s : Nat) (x y : Int32) {u : Unit} (hv : mChkI x y = some u) : mC X mJ0_checkIndex 1 0 0 [.int x, .int y] NN KK I (PP s) (mRet none NN KK I (PP s)) := by
  unfold mChkI at hv
  split at hv
  · cases hv
  · rename_i h0
    split at hv
    · rename_i h1
      refine mC_of (L0 := [.int x, .int y]) rfl (Nat.le_of_ble_eq_true rfl) ?_
      refine mV_iload fJ0_checkIndex_0 rfl ?_
      refine mV_iload fJ0_checkIndex_1 rfl ?_
      refine mV_gFm fJ0_checkIndex_2 (fun fm hfm => ?_)
      refine mV_cS fJ0_checkIndex_5 tg_mJ3_checkIndex (mC_deep (cJ3_checkIndex X I s x y fm hfm h0 h1) (by decide)) rfl rfl (Nat.le_of_ble_eq_true rfl) ?_
      refine mV_pop fJ0_checkIndex_8 rfl ?_
      exact mV_vret rfl fJ0_checkIndex_9 (mRet_ok _ _ _ _ _)
    · cases hv

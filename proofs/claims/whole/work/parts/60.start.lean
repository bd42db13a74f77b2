/-! FROM THE STATEMENT'S START TO THE SMALL MACHINE -/
theorem mTb_sub {w : Cond} (h : w ∈ mTb) : w ∈ lw_tbl := (List.mem_filter.mp h).1
theorem mNw_mem : ∀ q ∈ mNw, Cond.methodLinkNest q.1 q.2.1 q.2.2.1 q.2.2.2 ∈ lw_tbl := by decide +kernel
theorem mAO_mem : Cond.arrayOver (.object "WeepingPiano$Stage") ∈ lw_tbl := by decide +kernel
theorem mSr_mem : Cond.stringRef "WeepingPiano$Reader" 180 mS0 ∈ lw_tbl ∧ Cond.stringRef "WeepingPiano$Reader" 168 mS1 ∈ lw_tbl := by decide +kernel
theorem mLs_mem : Cond.laysStatic "java/lang/String" "COMPACT_STRINGS" "Z" ∈ lw_tbl ∧ Cond.laysStatic "jdk/internal/util/Preconditions" "SIOOBE_FORMATTER" "Ljava/util/function/BiFunction;" ∈ lw_tbl ∧ Cond.initialized "java/lang/String" ∈ lw_tbl ∧ Cond.initialized "jdk/internal/util/Preconditions" ∈ lw_tbl := by decide +kernel
def mTm (i : Nat) : Term := .string "WeepingPiano$Reader" (if i = 0 then 180 else 168)
abbrev mGiv : List Cond := flatC (Jvm.Cond.and given_1 narrow_1)
set_option maxRecDepth 100000 in
theorem mGv1 : ∀ i, i < 2 → Cond.exactly (mTm i) "java/lang/String" ∈ mGiv ∧ Cond.eq (.field (mTm i) "java/lang/String" "coder" "B") (.int 0) ∈ mGiv ∧ Cond.arrayOf (.field (mTm i) "java/lang/String" "value" "[B") .byte ∈ mGiv ∧ Cond.eq (.length (.field (mTm i) "java/lang/String" "value" "[B")) (.int (Int32.ofNat (mSl.getD i 0))) ∈ mGiv := by decide +kernel
set_option maxRecDepth 100000 in
theorem mGv2 : ∀ i, i < 2 → ∀ j, j < mSl.getD i 0 → Cond.eq (.elem (.field (mTm i) "java/lang/String" "value" "[B") (.int (Int32.ofNat j))) (.int ((mSb.getD i []).getD j 0)) ∈ mGiv := by decide +kernel
theorem mGv3 : Cond.not (Cond.eq (mTm 0) (mTm 1)) ∈ mGiv ∨ Cond.not (Cond.eq (mTm 1) (mTm 0)) ∈ mGiv := by decide +kernel
theorem mGv4 : Cond.eq (.static "java/lang/String" "COMPACT_STRINGS" "Z") (.int 1) ∈ mGiv ∧ Cond.isRef (.static "jdk/internal/util/Preconditions" "SIOOBE_FORMATTER" "Ljava/util/function/BiFunction;") ∈ mGiv := by decide +kernel
theorem mEnv_start {s : State} {b L : Nat} {xs : Nat → Int32} {args : Array Value} (hts0 : ∀ w ∈ lw_tbl, w.before args s = true) (hgv : (Jvm.Cond.and given_1 narrow_1).before args s = true) (hX : va_X b L xs s s.heap) (hbl : b < s.heap.size) :
    ∃ (D : va_G) (cI cS : ClassId) (aK aV : Nat → Nat), mEnv (L, xs) s.heap.size D cI cS aK aV s ∧ aK 2 = b := by
  have hts : ∀ w ∈ mTb, w.before args s = true := fun w hw => hts0 w (mTb_sub hw)
  have hs := flat_of_before _ hgv
  have hA : ∀ a : Nat, a < s.heap.size → ¬ (fun q => s.heap.size ≤ q) a := fun a h => Nat.not_le.mpr h
  have hcls : ∀ k : Nat, ∃ x : ClassId × (Nat → Nat), ∀ q : vw_C, mcl[k]? = some q → u_Kn s q.1 q.2.1 q.2.2 x.1 x.2 := by
    intro k
    match k with
    | 0 => obtain ⟨c, i, h⟩ := u_known hts mCls0.2.1 (hts _ in0); exact ⟨(c, i), fun q hq => by cases hq; exact h⟩
    | 1 => obtain ⟨c, i, h⟩ := u_known hts mCls1.2.1 (hts _ in1); exact ⟨(c, i), fun q hq => by cases hq; exact h⟩
    | 2 => obtain ⟨c, i, h⟩ := u_known hts mCls2.2.1 (hts _ in2); exact ⟨(c, i), fun q hq => by cases hq; exact h⟩
    | 3 => obtain ⟨c, i, h⟩ := u_known hts mCls3.2.1 (hts _ in3); exact ⟨(c, i), fun q hq => by cases hq; exact h⟩
    | 4 => obtain ⟨c, i, h⟩ := u_known hts mCls4.2.1 (hts _ in4); exact ⟨(c, i), fun q hq => by cases hq; exact h⟩
    | 5 => obtain ⟨c, i, h⟩ := u_known hts mCls5.2.1 (hts _ in5); exact ⟨(c, i), fun q hq => by cases hq; exact h⟩
    | 6 => obtain ⟨c, i, h⟩ := u_known hts mCls6.2.1 (hts _ in6); exact ⟨(c, i), fun q hq => by cases hq; exact h⟩
    | 7 => obtain ⟨c, i, h⟩ := u_known hts mCls7.2.1 (hts _ in7); exact ⟨(c, i), fun q hq => by cases hq; exact h⟩
    | 8 => obtain ⟨c, i, h⟩ := u_known hts mCls8.2.1 (hts _ in8); exact ⟨(c, i), fun q hq => by cases hq; exact h⟩
    | 9 => obtain ⟨c, i, h⟩ := u_known hts mCls9.2.1 (hts _ in9); exact ⟨(c, i), fun q hq => by cases hq; exact h⟩
    | 10 => obtain ⟨c, i, h⟩ := u_known hts mCls10.2.1 (hts _ in10); exact ⟨(c, i), fun q hq => by cases hq; exact h⟩
    | k + 11 => exact ⟨(0, fun _ => 0), fun q hq => by simp [mcl] at hq⟩
  obtain ⟨dd, hdd⟩ := Classical.axiomOfChoice hcls
  obtain ⟨cI, kI, compI, f1, f2, f3⟩ := Cond.arrayClass_spec (hts _ ac_i)
  obtain ⟨compS, cS, kS, g1, g2, g3, g4, g5⟩ := Cond.arrayOver_spec (hts0 _ mAO_mem)
  obtain ⟨adK, adV, hSt, hEv⟩ := vk_Sof (N := 2) (tm := mTm) (len := mSl) (byt := mSb) (A := fun q => s.heap.size ≤ q) (by decide +kernel) (fun i hi => hs _ (mGv1 i hi).1) (fun i hi => hs _ (mGv1 i hi).2.1) (fun i hi => hs _ (mGv1 i hi).2.2.1) (fun i hi => hs _ (mGv1 i hi).2.2.2) (fun i hi j hj => hs _ (mGv2 i hi j hj)) (by
    intro i j hi hj hne
    rcases (show (i = 0 ∧ j = 1) ∨ (i = 1 ∧ j = 0) by omega) with ⟨rfl, rfl⟩ | ⟨rfl, rfl⟩
    · rcases mGv3 with h | h
      · exact Or.inl (hs _ h)
      · exact Or.inr (hs _ h)
    · rcases mGv3 with h | h
      · exact Or.inr (hs _ h)
      · exact Or.inl (hs _ h)) hA
  obtain ⟨fa, hfa⟩ : ∃ fa : Nat, ∃ fm : Value, (fm = .null ∨ fm = .ref fa) ∧ va_Z "jdk/internal/util/Preconditions" "SIOOBE_FORMATTER" "Ljava/util/function/BiFunction;" fm (fun q => s.heap.size ≤ q) s s.heap := by
    rcases va_Zqof (A := fun q => s.heap.size ≤ q) (hts0 _ mLs_mem.2.1) (hts0 _ mLs_mem.2.2.2) (hs _ mGv4.2) hA with h | ⟨t, h⟩
    · exact ⟨0, .null, Or.inl rfl, h⟩
    · exact ⟨t, .ref t, Or.inr rfl, h⟩
  refine ⟨(fun k => (dd k).1, fun k => (dd k).2), cI, cS, fun i => if i = 0 then adK 0 else if i = 1 then adK 1 else if i = 2 then b else if i = 3 then adV 0 else if i = 4 then adV 1 else fa, adV, ⟨⟨fun c q hq => hdd c q hq, ?_⟩, fun q hq => va_Nw.of rfl (hts0 _ (mNw_mem q hq)), va_AO.of (hts0 _ mAO_mem), ?_, ?_, ?_, ?_, hX, hbl, Nat.le_refl _, rfl, rfl, hfa⟩, rfl⟩
  · intro k q hk
    match k, hk with
    | 0, hk => cases hk; exact ⟨fun n z => ⟨fun k h => (by cases h), kI, f2, compI, f3⟩, f1⟩
    | 1, hk => cases hk; exact ⟨fun n z => ⟨fun k h => (by cases h), kS, g3, compS, g4⟩, kS, compS, g3, g4, g1, g5⟩
    | k + 2, hk => simp at hk
  · have e0 := hEv 0 (by decide)
    refine vk_R.same (u := s) rfl ⟨?_, ?_⟩
    · exact (by
        have h1 := hts0 _ mSr_mem.1
        first | exact h1 | (simp only [Cond.before, Cond.holds, Cond.value] at h1 ⊢; exact h1))
    · exact e0
  · have e0 := hEv 1 (by decide)
    refine vk_R.same (u := s) rfl ⟨?_, ?_⟩
    · exact (by
        have h1 := hts0 _ mSr_mem.2
        first | exact h1 | (simp only [Cond.before, Cond.holds, Cond.value] at h1 ⊢; exact h1))
    · exact e0
  · refine ⟨fun i hi => ?_, fun i j hi hj e => ?_⟩
    · rcases (show i = 0 ∨ i = 1 by omega) with rfl | rfl
      · exact hSt.1 0 (by decide)
      · exact hSt.1 1 (by decide)
    · rcases (show i = 0 ∨ i = 1 by omega) with rfl | rfl <;> rcases (show j = 0 ∨ j = 1 by omega) with rfl | rfl
      · rfl
      · exact hSt.2 0 1 (by decide) (by decide) e
      · exact hSt.2 1 0 (by decide) (by decide) e
      · rfl
  · exact va_Zof (hts0 _ mLs_mem.1) (hts0 _ mLs_mem.2.2.1) (va_eqt (hs _ mGv4.1)) hA
def R_law : String := "WeepingPianoLaw"
def lw_P (b : Addr) (xs : List Int32) (args : Array Value) (s : State) : Prop := args = #[.ref b] ∧ s.IntsAt b xs ∧ xs.length ≤ 3072 ∧ (Jvm.Cond.and given_1 narrow_1).before args s = true
def lw_Q (_ : Array Value) (s : State) (o : Outcome) (t : State) : Prop := o = .returned (some (.int 1)) ∧ Framed s o t [] 600000 7302250
def lw_Z (below : List Frame) (a : Array Value) (s : State) : State → Prop := fun t => ∃ o, t.status = .running ∧ Ended t below o ∧ lw_Q a s o t
def lw_At (p : Program) (s : State) (m : MethodId) (meth : Method) (c : Code) (b L : Nat) (xs : Nat → Int32) : Prop :=
  p.tables.exec = Jvm.exec ∧ c.code = code ∧ meth.sig.returnType = ret ∧ c.maxLocals = 4 ∧ s.vm.findClass R_law = some m.cls ∧ (∀ w ∈ lw_tbl, w.before #[Value.ref b] s = true) ∧ va_X b L xs s s.heap ∧ b < s.heap.size ∧ meth.locks = false ∧ (Jvm.Cond.and given_1 narrow_1).before #[Value.ref b] s = true ∧ meth.name = "law"
theorem lw_forget {s t : State} {L : List Loc} {k n : Nat} (h : s.sameButNew t L k n) (hL : ∀ q ∈ L, s.heap.size ≤ q.base) : s.sameButNew t [] k n := by
  obtain ⟨h1, h2, h3, h4, h5, h6⟩ := h
  refine ⟨h1, h2, h3, h4, h5, fun a c hc => ?_⟩
  obtain ⟨c', g1, g2, g3, g4⟩ := h6 a c hc
  refine ⟨c', g1, g2, g3, fun i _ => g4 i (fun hm => ?_)⟩
  have := hL _ hm
  have hlt := (Array.getElem?_eq_some_iff.mp hc).1
  exact absurd hlt (Nat.not_lt.mpr this)
set_option maxHeartbeats 4000000 in
theorem law_start {p : Program} {e : Env} {s : State} {m : MethodId} {below : List Frame} {meth : Method} {c : Code} (l : Launch) {b L : Nat} {xs : Nat → Int32} (hp : lL_law (L, xs) FU 0 3 (IQ 280) = some 1) (C0 : lw_At p s m meth c b L xs) : W p l e room_1 s m #[Value.ref b] below meth c s.heap [] 0 0 (lw_Z below #[Value.ref b] s) (entryFrame m ([Value.ref b] : List Value).toArray 4) := by
  obtain ⟨hx, hb, hr, hml, hown, hts, hX, hbl, hlocks, hgv, hnm⟩ := C0
  obtain ⟨D, cI, cS, aK, aV, hE, hb2⟩ := mEnv_start hts hgv hX hbl
  have hC := law_mC (L, xs) hp
  rw [lg_entry_eq]
  have hlv := lv_entry ([Value.ref b]) (n := 4) (Nat.le_of_ble_eq_true rfl)
  have key := hC.2 s.heap.size D cI cS aK aV p l e room_1 s m #[Value.ref b] below meth c s.heap [] 0 0 600000 7302250 ((lg_sl [Value.ref b] ++ List.replicate (4 - (lg_sl [Value.ref b]).length) Slot.unset).toArray)
    ⟨hx, hb, hr, hml, hown, hlocks, hnm, fun w hw => hts w (mTb_sub hw), hE, by decide, by decide⟩ ⟨fun k q hk => by simp [mws] at hk, by simp⟩ va_S.rf ⟨hlv.1, hlv.2.1, fun i v hv hx => by
      match i, hv with
      | 0, hv =>
        cases hv
        have := hlv.2.2 (0, .ref b) (by simp [lv_args])
        rw [this]
        show some (Slot.val (.ref b)) = some (.val (.ref (aK 2)))
        rw [hb2]
      | 1, hv => cases hv; exact absurd rfl hx
      | 2, hv => cases hv; exact absurd rfl hx
      | 3, hv => cases hv; exact absurd rfl hx
      | k + 4, hv => simp [mArgs, mL_law, Value.category] at hv⟩ (by decide) (by decide) (Nat.le_refl _) (Nat.le_refl _)
  intro T hT Z
  obtain ⟨t, g1, o, g2, g3, ⟨⟨v, n', K', I', P', h1, h2, h3⟩, h4⟩, L', hF, hL'⟩ := key T hT Z
  refine ⟨t, g1, o, g2, g3, ?_, ?_⟩
  · rw [h1, h2]; rfl
  · obtain ⟨f1, f2, f3⟩ := hF
    exact ⟨f1, f2, lw_forget f3 hL'⟩

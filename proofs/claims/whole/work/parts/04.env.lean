/-! what holds of the machine around a walk: its tables, the string constants, the script -/
def mS0 : String := "weeps damps settles when or and not sad hard art wish water salt flat string fire minute played day on player piece tune empty child dry like "
def mS1 : String := ";+-*/()<=>"
def mSl : List Nat := [142, 10]
def mSb : List (List Int32) := [[119, 101, 101, 112, 115, 32, 100, 97, 109, 112, 115, 32, 115, 101, 116, 116, 108, 101, 115, 32, 119, 104, 101, 110, 32, 111, 114, 32, 97, 110, 100, 32, 110, 111, 116, 32, 115, 97, 100, 32, 104, 97, 114, 100, 32, 97, 114, 116, 32, 119, 105, 115, 104, 32, 119, 97, 116, 101, 114, 32, 115, 97, 108, 116, 32, 102, 108, 97, 116, 32, 115, 116, 114, 105, 110, 103, 32, 102, 105, 114, 101, 32, 109, 105, 110, 117, 116, 101, 32, 112, 108, 97, 121, 101, 100, 32, 100, 97, 121, 32, 111, 110, 32, 112, 108, 97, 121, 101, 114, 32, 112, 105, 101, 99, 101, 32, 116, 117, 110, 101, 32, 101, 109, 112, 116, 121, 32, 99, 104, 105, 108, 100, 32, 100, 114, 121, 32, 108, 105, 107, 101, 32], [59, 43, 45, 42, 47, 40, 41, 60, 61, 62]]
def mNw : List (String × Nat × MethodName × String) := [("WeepingPiano", 9, ⟨"WeepingPiano$Recital", "<init>", "()V"⟩, "WeepingPiano"), ("WeepingPiano$Recital", 11, ⟨"WeepingPiano$World", "<init>", "()V"⟩, "WeepingPiano"), ("WeepingPiano$World", 11, ⟨"WeepingPiano$Stage", "<init>", "()V"⟩, "WeepingPiano"), ("WeepingPiano$World", 20, ⟨"WeepingPiano$Cast", "<init>", "()V"⟩, "WeepingPiano"), ("WeepingPiano$World", 45, ⟨"WeepingPiano$Desk", "<init>", "()V"⟩, "WeepingPiano"), ("WeepingPiano$Recital", 20, ⟨"WeepingPiano$Stage", "<init>", "()V"⟩, "WeepingPiano"), ("WeepingPiano", 23, ⟨"WeepingPiano$World", "<init>", "()V"⟩, "WeepingPiano"), ("WeepingPiano$Past", 22, ⟨"WeepingPiano$Stage", "<init>", "()V"⟩, "WeepingPiano"), ("WeepingPiano", 40, ⟨"WeepingPiano$Reader", "<init>", "()V"⟩, "WeepingPiano"), ("WeepingPiano", 47, ⟨"WeepingPiano$Music", "<init>", "()V"⟩, "WeepingPiano")]
def mEnv (X : Nat × (Nat → Int32)) (b : Nat) (D : va_G) (cI cS : ClassId) (aK aV : Nat → Nat) (U : State) : Prop :=
  va_K D mcl [(cI, .int), (cS, .object "WeepingPiano$Stage")] U ∧ (∀ q ∈ mNw, va_Nw (.methodLinkNest q.1 q.2.1 q.2.2.1 q.2.2.2) U) ∧ va_AO "WeepingPiano$Stage" U ∧
  vk_R "WeepingPiano$Reader" 180 mS0 (aK 0) U ∧ vk_R "WeepingPiano$Reader" 168 mS1 (aK 1) U ∧ vk_S 2 mSl mSb aK aV (fun q => b ≤ q) U U.heap ∧
  va_Z "java/lang/String" "COMPACT_STRINGS" "Z" (.int 1) (fun q => b ≤ q) U U.heap ∧ va_X (aK 2) X.1 X.2 U U.heap ∧ aK 2 < b ∧ b ≤ U.heap.size ∧
  aK 3 = aV 0 ∧ aK 4 = aV 1 ∧ ∃ fm : Value, (fm = .null ∨ fm = .ref (aK 5)) ∧ va_Z "jdk/internal/util/Preconditions" "SIOOBE_FORMATTER" "Ljava/util/function/BiFunction;" fm (fun q => b ≤ q) U U.heap
theorem mEnv.go {X : Nat × (Nat → Int32)} {b : Nat} {D : va_G} {cI cS : ClassId} {aK aV : Nat → Nat} {s U : State} {H : Heap} {locs : List Loc} (h : mEnv X b D cI cS aK aV s) (hS : va_S (fun q => b ≤ q) s.heap H locs) (hU : U.heap = H) (hW : s.WarmedH U.vm) : mEnv X b D cI cS aK aV U := by
  obtain ⟨h1, h2, h3, h4, h5, h6, h7, h8, h9, h10, h11, h12, fm, h13, h14⟩ := h
  subst hU
  refine ⟨va_K.moved hW.alike h1, fun q hq => va_Nw.warmM hW (h2 q hq), va_AO.moved hW.alike h3, vk_R.warm hW h4, vk_R.warm hW h5, (vk_S.moved hW.alike h6).kept (fun a q1 q2 => hS.2.1 a q1 q2), (va_Z.moved hW.alike h7).kept (fun a q1 q2 => hS.2.1 a q1 q2), (va_X.moved hW.alike h8).kept ?_, h9, Nat.le_trans h10 hS.1, h11, h12, fm, h13, (va_Z.moved hW.alike h14).kept (fun a q1 q2 => hS.2.1 a q1 q2)⟩
  exact hS.2.1 _ (Nat.lt_of_lt_of_le h9 h10) (fun q => absurd q (Nat.not_le.mpr h9))
theorem mEnv.same {X : Nat × (Nat → Int32)} {b : Nat} {D : va_G} {cI cS : ClassId} {aK aV : Nat → Nat} {s U : State} (h : mEnv X b D cI cS aK aV s) (hH : U.heap = s.heap) (hV : U.vm = s.vm) : mEnv X b D cI cS aK aV U := by
  obtain ⟨h1, h2, h3, h4, h5, h6, h7, h8, h9, h10, h11, h12, fm, h13, h14⟩ := h
  have hA : s.vm.Alike U.vm := by rw [hV]; exact Vm.Alike.refl s.vm
  refine ⟨va_K.moved hA h1, fun q hq => va_Nw.same rfl hV.symm (h2 q hq), va_AO.moved hA h3, vk_R.same hV h4, vk_R.same hV h5, ?_, ?_, ?_, h9, by rw [hH]; exact h10, h11, h12, fm, h13, ?_⟩
  · rw [hH]; exact vk_S.moved hA h6
  · rw [hH]; exact va_Z.moved hA h7
  · rw [hH]; exact va_X.moved hA h8
  · rw [hH]; exact va_Z.moved hA h14
def mCtx (X : Nat × (Nat → Int32)) (j : mMeth) (d : Nat) (b : Nat) (D : va_G) (cI cS : ClassId) (aK aV : Nat → Nat) (p : Program) (R : Room) (s : State) (m : MethodId) (args : Array Value) (meth : Method) (c : Code) : Prop :=
  p.tables.exec = Jvm.exec ∧ c.code = j.2.1 ∧ meth.sig.returnType = j.2.2.2 ∧ c.maxLocals = j.2.2.1 ∧ s.vm.findClass j.1.cls = some m.cls ∧ meth.locks = false ∧ meth.name = j.1.name ∧ (∀ w ∈ mTb, w.before args s = true) ∧ mEnv X b D cI cS aK aV s ∧ d ≤ R.frames ∧ 64 * d ≤ R.locals
def mQc (b : Nat) (aK : Nat → Nat) (D : va_G) (cI cS : ClassId) (Q : mQ) : Array Value → State → Outcome → State → Prop := fun _ st o t =>
  (∃ (v : Option Value) (n : Nat) (K : mK) (I : mI) (P : mP), o = .returned (v.map (mEm b aK)) ∧ Q v n K I P ∧ mRel b D cI cS n K I P t.heap) ∧ va_F (fun q => b ≤ q) st t
/-- THE JUDGEMENT: at pc of method j, with locals L, stack st and the memory (n, K, I, P), with d frames, bc cells and bs slots to spare: the method returns, and Q holds of answer and memory -/
def mV (X : Nat × (Nat → Int32)) (j : mMeth) (d bc bs pc : Nat) (L st : List Value) (n : Nat) (K : mK) (I : mI) (P : mP) (Q : mQ) : Prop :=
  ∀ (b : Nat) (D : va_G) (cI cS : ClassId) (aK aV : Nat → Nat) (p : Program) (l : Launch) (e : Env) (R : Room) (s : State) (m : MethodId) (args : Array Value) (below : List Frame) (meth : Method) (c : Code) (H : Heap) (locs : List Loc) (cells slots Tc Ts : Nat) (ls : Array Slot),
    mCtx X j d b D cI cS aK aV p R s m args meth c → mRel b D cI cS n K I P H → va_S (fun q => b ≤ q) s.heap H locs → mLoc b aK ls j.2.2.1 L → cells + bc ≤ Tc → slots + bs ≤ Ts → Tc ≤ R.cells → Ts ≤ R.slots →
    W p l e R s m args below meth c H locs cells slots (MQ below (mQc b aK D cI cS Q) args s Tc Ts (fun q => b ≤ q)) (F0 m pc ls (st.map (mEm b aK)))
/-- a method's contract, by its arguments -/
def mC (X : Nat × (Nat → Int32)) (j : mMeth) (d bc bs : Nat) (as : List Value) (n : Nat) (K : mK) (I : mI) (P : mP) (Q : mQ) : Prop :=
  (mArgs as).length ≤ j.2.2.1 ∧ mV X j d bc bs 0 (mArgs as ++ List.replicate (j.2.2.1 - (mArgs as).length) mX0) [] n K I P Q
def mWs (y : mMeth) : List Cond := .code y.1 y.2.1 y.2.2.1 y.2.2.2 :: mTb
def mPc (X : Nat × (Nat → Int32)) (b : Nat) (D : va_G) (cI cS : ClassId) (aK aV : Nat → Nat) (as : List Value) (n : Nat) (K : mK) (I : mI) (P : mP) : Array Value → State → Prop := va_Pc (as.map (mEm b aK)) (fun U => mEnv X b D cI cS aK aV U ∧ mRel b D cI cS n K I P U.heap)
theorem mPc_blind (X : Nat × (Nat → Int32)) (b : Nat) (D : va_G) (cI cS : ClassId) (aK aV : Nat → Nat) (as : List Value) (n : Nat) (K : mK) (I : mI) (P : mP) : FrameBlind (mPc X b D cI cS aK aV as n K I P) := by
  intro a U g mk q
  obtain ⟨h0, h1, h2⟩ := q
  exact ⟨h0, mEnv.same h1 rfl rfl, h2⟩
theorem mMet {X : Nat × (Nat → Int32)} {y : mMeth} {d bc bs : Nat} {as : List Value} {n : Nat} {K : mK} {I : mI} {P : mP} {Q : mQ} (hy : plainName y.1.cls = true) (h : mC X y d bc bs as n K I P Q) (l : Launch) (b : Nat) (D : va_G) (cI cS : ClassId) (aK aV : Nat → Nat) :
    Met l y.1 (mWs y) { frames := d, cells := bc, slots := bs, locals := 64 * d } (mPc X b D cI cS aK aV as n K I P) (mQc b aK D cI cS Q) bc bs (fun q => b ≤ q) := by
  refine Met.ofW (cc := y.2.1) (maxL := y.2.2.1) (ret := y.2.2.2) hy rfl ?_
  intro p e s m args below meth c s₁ B hml hv
  obtain ⟨rfl, hE, hR⟩ := hv
  have hts := atoms_spec (ws := mWs y) B.pre
  rw [lg_entry_eq]
  have hlv := lv_entry (as.map (mEm b aK)) (n := y.2.2.1) (by rw [mArgs_len]; exact h.1)
  refine h.2 b D cI cS aK aV p l e _ s m _ below meth c s.heap [] 0 0 bc bs _ ⟨B.exec, B.bytes, B.returns, hml, findClass_of_methodNamed B.named, B.notSynchronized, (name_of_methodNamed B.named B.method).1, fun w hw => hts w (List.mem_cons_of_mem _ hw), hE, Nat.le_refl _, Nat.le_refl _⟩ hR va_S.rf ⟨hlv.1, hlv.2.1, fun i v hv hx => ?_⟩ (by omega) (by omega) (Nat.le_refl _) (Nat.le_refl _)
  by_cases hi : i < (mArgs as).length
  · rw [List.getElem?_append_left hi] at hv
    have := hlv.2.2 _ (mArgs_lv b aK as 0 i v hv hx)
    rw [Nat.zero_add] at this
    exact this
  · rw [List.getElem?_append_right (by omega)] at hv
    rw [List.getElem?_replicate] at hv
    split at hv
    · cases hv; exact absurd rfl hx
    · cases hv
theorem mRunK {p : Program} {l : Launch} {e : Env} {R : Room} {s : State} {m : MethodId} {args : Array Value} {below : List Frame} {meth : Method} {c : Code} {H : Heap} {locs : List Loc} {cells slots mc ms : Nat} {Z : State → Prop} {pc : Nat} {ls : Array Slot} {rest st0 : List Value} {a : Array Value} {b : Nat} {aK : Nat → Nat} {D : va_G} {cI cS : ClassId} {Qc : mQ}
    (hr : va_Run p l e R s m args below meth c H locs cells slots mc ms (F0 m pc ls st0) rest (mQc b aK D cI cS Qc a) (fun q => b ≤ q)) (hS : va_S (fun q => b ≤ q) s.heap H locs)
    (kk : ∀ (v : Option Value) (n : Nat) (K : mK) (I : mI) (P : mP) (H1 : Heap) (locs1 : List Loc), Qc v n K I P → mRel b D cI cS n K I P H1 → va_S (fun q => b ≤ q) s.heap H1 locs1 → W p l e R s m args below meth c H1 locs1 (cells + mc) (slots + ms) Z (F0 m (pc + 3) ls ((v.map (mEm b aK)).toList ++ rest))) :
    W p l e R s m args below meth c H locs cells slots Z (F0 m pc ls st0) := by
  intro T hT X
  obtain ⟨v, st₀, t, T', L, h0, X', hL, e1, e2, ⟨⟨v', n, K, I, P, hv, hq, hR⟩, hz, hk⟩, st⟩ := hr T hT X
  cases hv
  rw [h0] at hz hk
  obtain ⟨t2, a1, b1⟩ := kk v' n K I P T'.heap (locs ++ L) hq (by rw [e1]; exact hR)
    ⟨Nat.le_trans hS.1 (by rw [e1]; exact hz), fun q h1 h2 => by rw [e1, hk q (Nat.lt_of_lt_of_le h1 hS.1) h2]; exact hS.2.1 q h1 h2, fun q hq => by
      rcases List.mem_append.mp hq with h | h
      · exact hS.2.2 q h
      · exact hL q h⟩ T' rfl X'
  exact ⟨t2, st t2 a1, b1⟩
/-- a method that may be called: its words -/
def mTg (y : mMeth) (na : Nat) : Prop := plainName y.1.cls = true ∧ Cond.code y.1 y.2.1 y.2.2.1 y.2.2.2 ∈ mTb ∧ Cond.initialized y.1.cls ∈ mTb ∧ (y.1.cls ≠ "java/lang/invoke/MethodHandle" ∧ y.1.cls ≠ "java/lang/invoke/VarHandle" ∧ (parseMethodDescriptor y.1.desc).map (fun d => d.parameters.length) = some na) ∧ y.2.2.1 ≤ 45
def mTgV (y : mMeth) (na : Nat) : Prop := mTg y na ∧ Cond.instanceMethod y.1 ∈ mTb ∧ Cond.selects y.1.cls y.1 y.1 ∈ mTb
def mTgS (y : mMeth) (na : Nat) : Prop := mTg y na ∧ Cond.static y.1 ∈ mTb
def mTgI (y : mMeth) (na : Nat) : Prop := mTg y na ∧ Cond.instanceMethod y.1 ∈ mTb ∧ y.1.name = "<init>" ∧ y.2.2.2 = none
theorem mWs_good {y : mMeth} {na : Nat} (h : mTg y na) : GoodIn mTb (mWs y) := fun w hw => by
  rcases List.mem_cons.mp hw with rfl | hw
  · exact ⟨h.2.1, mTb_good h.2.1⟩
  · exact ⟨hw, mTb_good hw⟩
section MVC
variable {X : Nat × (Nat → Int32)} {j y : mMeth} {d bc bs pc q mc ms na idx a : Nat} {L as rest : List Value} {n : Nat} {K : mK} {I : mI} {P : mP} {Q Qc : mQ}
theorem mRest {b : Nat} {aK : Nat → Nat} {m : MethodId} {pc : Nat} {ls : Array Slot} {st : List Value} (h : (rest.map fun v => v.category).sum ≤ 8) : 2 * (F0 m pc ls st).monitorRoom + ((rest.map (mEm b aK)).map fun v => v.category).sum ≤ 8 := by
  rw [mEm_cats]
  show 2 * 0 + _ ≤ 8
  omega
theorem mV_callS (hd : decode j.2.1 pc = .ok (.invokestatic idx, 3)) (hq : pc + 3 = q) (hlk : Cond.methodLink j.1.cls idx y.1 ∈ mTb) (ht : mTgS y na) (hna : as.length = na) (hrest : (rest.map fun v => v.category).sum ≤ 8) (hbc : mc ≤ bc) (hbs : ms ≤ bs)
    (hm : mC X y d mc ms as n K I P Qc) (kk : ∀ v n' K' I' P', Qc v n' K' I' P' → mV X j (d + 1) (bc - mc) (bs - ms) q L (v.toList ++ rest) n' K' I' P' Q) : mV X j (d + 1) bc bs pc L (as.reverse ++ rest) n K I P Q := by
  intro b D cI cS aK aV p l e R s m args below meth c H locs cells slots Tc Ts ls hC hR hS hL t1 t2 t3 t4
  obtain ⟨hx, hb, hr, hml, hown, hlocks, hnm, hts, hE, hf1, hf2⟩ := id hC
  subst hq
  have hr := va_runS (As := as.map (mEm b aK)) (rest := rest.map (mEm b aK)) (g := F0 m pc ls ((as.reverse ++ rest).map (mEm b aK))) (cells := cells) (slots := slots) (locs := locs) (H := H) (e := e) (below := below) (meth := meth) (R := R) (index := idx) ⟨hx, hb, hml, hown, hts⟩ (mMet ht.1.1 hm l b D cI cS aK aV)
    ⟨callB_of na hts (mWs_good ht.1) rfl rfl rfl (hts _ ht.1.2.2.1) (hts _ hlk) ht.1.2.2.2.1 ⟨hf1, by have := ht.1.2.2.2.2; show 8 + (y.2.2.1 + 11) + 64 * d ≤ R.locals; omega⟩, hts _ ht.2⟩ ⟨mPc_blind _ _ _ _ _ _ _ _ _ _ _ _, fun U hU hW => ⟨rfl, hE.go hS hU hW, by rw [hU]; exact hR⟩⟩ rfl (by rw [List.length_map]; exact hna) hL.1 (by show List.map _ _ = _; rw [List.map_append, List.map_reverse]) (mRest hrest) hd ⟨by omega, by omega⟩
  refine mRunK hr hS fun v n' K' I' P' H1 locs1 hq hR1 hS1 => ?_
  have := kk v n' K' I' P' hq b D cI cS aK aV p l e R s m args below meth c H1 locs1 (cells + mc) (slots + ms) Tc Ts ls hC hR1 hS1 hL (by omega) (by omega) t3 t4
  cases v <;> exact this
theorem mV_callV {ci N : Nat} {T : u_T} (hd : decode j.2.1 pc = .ok (.invokevirtual idx, 3)) (hq : pc + 3 = q) (hlk : Cond.methodLink j.1.cls idx y.1 ∈ mTb) (ht : mTgV y na) (hna : as.length = na) (hc : mCls ci y.1.cls T N) (ha : a < n) (hk : K a = (ci + 2, N)) (hrest : (rest.map fun v => v.category).sum ≤ 8) (hbc : mc ≤ bc) (hbs : ms ≤ bs)
    (hm : mC X y d mc ms (.ref a :: as) n K I P Qc) (kk : ∀ v n' K' I' P', Qc v n' K' I' P' → mV X j (d + 1) (bc - mc) (bs - ms) q L (v.toList ++ rest) n' K' I' P' Q) : mV X j (d + 1) bc bs pc L (as.reverse ++ .ref a :: rest) n K I P Q := by
  intro b D cI cS aK aV p l e R s m args below meth c H locs cells slots Tc Ts ls hC hR hS hL t1 t2 t3 t4
  obtain ⟨hx, hb, hr, hml, hown, hlocks, hnm, hts, hE, hf1, hf2⟩ := id hC
  subst hq
  have he := mws_get (b := b) (cI := cI) (cS := cS) (K := K) (I := I) (P := P) ha
  rw [hk] at he
  have hr := va_runV (b := b + a) (As := as.map (mEm b aK)) (rest := rest.map (mEm b aK)) (g := F0 m pc ls ((as.reverse ++ .ref a :: rest).map (mEm b aK))) (cells := cells) (slots := slots) (locs := locs) (H := H) (e := e) (below := below) (meth := meth) (R := R) (index := idx) (C := y.1.cls) ⟨hx, hb, hml, hown, hts⟩ (mMet ht.1.1 hm l b D cI cS aK aV)
    ⟨callB_of na hts (mWs_good ht.1) rfl rfl rfl (hts _ ht.1.2.2.1) (hts _ hlk) ht.1.2.2.2.1 ⟨hf1, by have := ht.1.2.2.2.2; show 8 + (y.2.2.1 + 11) + 64 * d ≤ R.locals; omega⟩, hts _ ht.2.1, hts _ ht.2.2⟩ ⟨mPc_blind _ _ _ _ _ _ _ _ _ _ _ _, va_recv hE.1 hR.1 hc.1 he, fun U hU hW => ⟨rfl, hE.go hS hU hW, by rw [hU]; exact hR⟩⟩ rfl (by rw [List.length_map]; exact hna) hL.1 (by show List.map _ _ = _; rw [List.map_append, List.map_reverse]; rfl) (mRest hrest) hd ⟨by omega, by omega⟩
  refine mRunK hr hS fun v n' K' I' P' H1 locs1 hq hR1 hS1 => ?_
  have := kk v n' K' I' P' hq b D cI cS aK aV p l e R s m args below meth c H1 locs1 (cells + mc) (slots + ms) Tc Ts ls hC hR1 hS1 hL (by omega) (by omega) t3 t4
  cases v <;> exact this
theorem mV_callI (hd : decode j.2.1 pc = .ok (.invokespecial idx, 3)) (hq : pc + 3 = q) (hlk : Cond.methodLink j.1.cls idx y.1 ∈ mTb) (ht : mTgI y na) (hna : as.length = na) (hrest : (rest.map fun v => v.category).sum ≤ 8) (hbc : mc ≤ bc) (hbs : ms ≤ bs)
    (hm : mC X y d mc ms (.ref a :: as) n K I P Qc) (kk : ∀ v n' K' I' P', Qc v n' K' I' P' → mV X j (d + 1) (bc - mc) (bs - ms) q L (v.toList ++ rest) n' K' I' P' Q) : mV X j (d + 1) bc bs pc L (as.reverse ++ .ref a :: rest) n K I P Q := by
  intro b D cI cS aK aV p l e R s m args below meth c H locs cells slots Tc Ts ls hC hR hS hL t1 t2 t3 t4
  obtain ⟨hx, hb, hr, hml, hown, hlocks, hnm, hts, hE, hf1, hf2⟩ := id hC
  subst hq
  obtain ⟨ht0, ht1, ht2, ht3⟩ := ht
  have hM := mMet ht0.1 hm l b D cI cS aK aV
  have hcb := callB_of (R := R) (own := j.1.cls) (index := idx) na hts (mWs_good ht0) rfl rfl rfl (hts _ ht0.2.2.1) (hts _ hlk) ht0.2.2.2.1 (rm := { frames := d, cells := mc, slots := ms, locals := 64 * d }) (mc := mc) (ms := ms) ⟨hf1, by have := ht0.2.2.2.2; show 8 + (y.2.2.1 + 11) + 64 * d ≤ R.locals; omega⟩
  rw [ht3] at hcb
  have hr := va_runI (b := b + a) (As := as.map (mEm b aK)) (rest := rest.map (mEm b aK)) (g := F0 m pc ls ((as.reverse ++ .ref a :: rest).map (mEm b aK))) (cells := cells) (slots := slots) (locs := locs) (H := H) (e := e) (below := below) (meth := meth) (R := R) (index := idx) ⟨hx, hb, hml, hown, hts⟩ hM
    ⟨hcb, ht2, hts _ ht1⟩ ⟨mPc_blind _ _ _ _ _ _ _ _ _ _ _ _, fun U hU hW => ⟨rfl, hE.go hS hU hW, by rw [hU]; exact hR⟩⟩ rfl (by rw [List.length_map]; exact hna) hL.1 (by show List.map _ _ = _; rw [List.map_append, List.map_reverse]; rfl) (mRest hrest) hd ⟨by omega, by omega⟩
  refine mRunK hr hS fun v n' K' I' P' H1 locs1 hq hR1 hS1 => ?_
  have := kk v n' K' I' P' hq b D cI cS aK aV p l e R s m args below meth c H1 locs1 (cells + mc) (slots + ms) Tc Ts ls hC hR1 hS1 hL (by omega) (by omega) t3 t4
  cases v <;> exact this
theorem mV_callIN {host : String} (hd : decode j.2.1 pc = .ok (.invokespecial idx, 3)) (hq : pc + 3 = q) (hlk : (j.1.cls, idx, y.1, host) ∈ mNw) (ht : mTgI y na) (hna : as.length = na) (hrest : (rest.map fun v => v.category).sum ≤ 8) (hbc : mc ≤ bc) (hbs : ms ≤ bs)
    (hm : mC X y d mc ms (.ref a :: as) n K I P Qc) (kk : ∀ v n' K' I' P', Qc v n' K' I' P' → mV X j (d + 1) (bc - mc) (bs - ms) q L (v.toList ++ rest) n' K' I' P' Q) : mV X j (d + 1) bc bs pc L (as.reverse ++ .ref a :: rest) n K I P Q := by
  intro b D cI cS aK aV p l e R s m args below meth c H locs cells slots Tc Ts ls hC hR hS hL t1 t2 t3 t4
  obtain ⟨hx, hb, hr, hml, hown, hlocks, hnm, hts, hE, hf1, hf2⟩ := id hC
  subst hq
  obtain ⟨ht0, ht1, ht2, ht3⟩ := ht
  have hM := mMet ht0.1 hm l b D cI cS aK aV
  have hcb := va_cnB (R := R) (own := j.1.cls) (index := idx) (host := host) na hts (mWs_good ht0) rfl rfl rfl (hE.2.1 _ hlk) (hts _ ht0.2.2.1) ht0.2.2.2.1 (rm := { frames := d, cells := mc, slots := ms, locals := 64 * d }) (mc := mc) (ms := ms) ⟨hf1, by have := ht0.2.2.2.2; show 8 + (y.2.2.1 + 11) + 64 * d ≤ R.locals; omega⟩
  rw [ht3] at hcb
  have hr := va_runIN (b := b + a) (As := as.map (mEm b aK)) (rest := rest.map (mEm b aK)) (g := F0 m pc ls ((as.reverse ++ .ref a :: rest).map (mEm b aK))) (cells := cells) (slots := slots) (locs := locs) (H := H) (e := e) (below := below) (meth := meth) (R := R) (index := idx) ⟨hx, hb, hml, hown, hts⟩ hM
    ⟨hcb, ht2, hts _ ht1⟩ ⟨mPc_blind _ _ _ _ _ _ _ _ _ _ _ _, fun U hU hW => ⟨rfl, hE.go hS hU hW, by rw [hU]; exact hR⟩⟩ rfl (by rw [List.length_map]; exact hna) hL.1 (by show List.map _ _ = _; rw [List.map_append, List.map_reverse]; rfl) (mRest hrest) hd ⟨by omega, by omega⟩
  refine mRunK hr hS fun v n' K' I' P' H1 locs1 hq hR1 hS1 => ?_
  have := kk v n' K' I' P' hq b D cI cS aK aV p l e R s m args below meth c H1 locs1 (cells + mc) (slots + ms) Tc Ts ls hC hR1 hS1 hL (by omega) (by omega) t3 t4
  cases v <;> exact this
end MVC

/-! ARRAYCOPY; A CALL WHOSE END IS KNOWN -/
def mCopyW (j : mMeth) (pc q : Nat) : Prop := ∃ idx : Nat, mD j pc (.invokestatic idx) 3 q ∧ Cond.methodLink j.1.cls idx arraycopyName ∈ mTb ∧ Cond.native arraycopyName ∈ mTb ∧ Cond.static arraycopyName ∈ mTb ∧ Cond.initialized "java/lang/System" ∈ mTb
theorem mNn {z : Int32} (hz : ¬ z < 0) : z.toInt = (z.toNatClampNeg : Int) := by
  have hz0 : (0 : Int) ≤ z.toInt := by
    have := Int32.not_lt.mp hz
    simpa using Int32.le_iff_toInt_le.mp this
  show z.toInt = ((z.toInt.toNat : Nat) : Int)
  omega
section MVA
variable {X : Nat × (Nat → Int32)} {j y : mMeth} {d bc bs pc q a a0 N0 N1 na : Nat} {L as st rest : List Value} {n : Nat} {K : mK} {I I1 : mI} {P P1 : mP} {Q : mQ}
theorem mV_copy {sp dp len : Int32} (hd : mCopyW j pc q) (ha0 : a0 < n) (ha : a < n) (hk0 : K a0 = (0, N0)) (hk : K a = (0, N1)) (h1 : ¬ sp < 0) (h2 : ¬ dp < 0) (h3 : ¬ len < 0) (h4 : sp.toNatClampNeg + len.toNatClampNeg ≤ N0) (h5 : dp.toNatClampNeg + len.toNatClampNeg ≤ N1) (hst : (st.map fun v => v.category).sum ≤ 8)
    (kk : mV X j (d + 1) bc bs q L st n K (mU I a (va_cpy (I a0) (I a) sp.toNatClampNeg dp.toNatClampNeg len.toNatClampNeg)) P Q) : mV X j (d + 1) bc bs pc L (.int len :: .int dp :: .ref a :: .int sp :: .ref a0 :: st) n K I P Q := by
  intro b D cI cS aK aV p l e R s m args below meth c H locs cells slots Tc Ts ls hC hR hS hL t1 t2 t3 t4
  obtain ⟨idx, ⟨hdg, rfl⟩, w1, w2, w3, w4⟩ := hd
  obtain ⟨hx, hb, -, hml, hown, -, -, hts, hE, hf1, hf2⟩ := id hC
  have he0 := mws_get (b := b) (cI := cI) (cS := cS) (K := K) (I := I) (P := P) ha0
  rw [hk0] at he0
  have he1 := mws_get (b := b) (cI := cI) (cS := cS) (K := K) (I := I) (P := P) ha
  rw [hk] at he1
  intro T hT Z
  have hc0 : H[b + a0]? = some (vp_cell cI (N0, .inl (I a0))) := hR.1 a0 _ he0
  have hc1 : H[b + a]? = some (vp_cell cI (N1, .inl (I a))) := hR.1 a _ he1
  obtain ⟨-, k0, hkk0, cm0, hkd0⟩ := (hE.1.2 0 _ rfl).1 N0 (fun j => .int (I a0 j))
  obtain ⟨-, k1, hkk1, cm1, hkd1⟩ := (hE.1.2 0 _ rfl).1 N1 (fun j => .int (I a j))
  obtain ⟨vm', X', step⟩ := Z.arraycopy hx hown (hts _ w1) (hts _ w2) (hts _ w3) (hts _ w4) (src := b + a0) (dst := b + a) (cs := vp_cell cI (N0, .inl (I a0))) (cd := vp_cell cI (N1, .inl (I a))) (srcPos := sp) (destPos := dp) (n := len) (by rw [hT]; exact hc0) (by rw [hT]; exact hc1)
    (fun _ h => by cases h) (fun _ h => by cases h) (fun h => by cases h) (fun h => by cases h) hkk0 hkk1 hkd0 hkd1 (by simp [refKind]) h1 h2 h3
    (by rw [mNn h1, mNn h3]; show ¬ _ > ((arrV cI N0 (fun j => .int (I a0 j))).slots.size : Int); rw [arrV_size]; omega)
    (by rw [mNn h2, mNn h3]; show ¬ _ > ((arrV cI N1 (fun j => .int (I a j))).slots.size : Int); rw [arrV_size]; omega)
    (fun vm₁ _ i hi => by
      have e : (vp_cell cI (N0, .inl (I a0))).slots.getD (sp.toNatClampNeg + i) .null = .int (I a0 (sp.toNatClampNeg + i)) := by
        show (arrV cI N0 (fun j => .int (I a0 j))).slots.getD _ _ = _
        rw [Array.getD_eq_getD_getElem?, arrV_read _ _ (by omega)]
        rfl
      rw [e]
      exact ⟨rfl, trivial⟩)
    (g := F0 m pc ls (.int len :: .int dp :: .ref (b + a) :: .int sp :: .ref (b + a0) :: st.map (mEm b aK))) rfl (by rw [hml]; exact hL.1) (rest := st.map (mEm b aK)) rfl (by rw [hb]; exact hdg) (by omega) (by
      have e9 : nativeFrameWords "java/lang/System" "arraycopy" 5 + 11 + 8 ≤ 64 := by decide
      show 2 * 0 + ((st.map (mEm b aK)).map fun v => v.category).sum + _ ≤ _
      rw [mEm_cats]
      omega)
  have e1 : copied (vp_cell cI (N0, .inl (I a0))) (vp_cell cI (N1, .inl (I a))) sp dp len = vp_cell cI (N1, .inl (va_cpy (I a0) (I a) sp.toNatClampNeg dp.toNatClampNeg len.toNatClampNeg)) := va_copied (fun z => .int z) cI cI (I a0) (I a) h4
  rw [e1] at X' step
  generalize hnew : vp_cell cI (N1, .inl (va_cpy (I a0) (I a) sp.toNatClampNeg dp.toNatClampNeg len.toNatClampNeg)) = cell at X' step
  have hl : b + a < H.size := (Array.getElem?_eq_some_iff.mp hc1).1
  have hheap : ((T.setVm vm').setCell (b + a) cell).heap = H.setIfInBounds (b + a) cell := by rw [← hT]; rfl
  have oq : ∀ q : Nat, q ≠ b + a → (H.setIfInBounds (b + a) cell)[q]? = H[q]? := fun q hq => by simp [Array.getElem?_setIfInBounds, Ne.symm hq]
  have hz : (H.setIfInBounds (b + a) cell).size = H.size := by simp
  have hR1 := hR.set (H1 := H.setIfInBounds (b + a) cell) ha (va_cpy (I a0) (I a) sp.toNatClampNeg dp.toNatClampNeg len.toNatClampNeg) (P a) (by
    rw [hk]
    show (H.setIfInBounds (b + a) cell)[b + a]? = some (vp_cell cI (N1, .inl _))
    rw [hnew]
    simp [Array.getElem?_setIfInBounds, hl]) hz oq
  rw [mU_self] at hR1
  obtain ⟨t, g1, g2⟩ := kk b D cI cS aK aV p l e R s m args below meth c _ _ cells slots Tc Ts ls hC hR1 ⟨by rw [hz]; exact hS.1, fun q g1 g2 => by
      rw [oq q (fun e => g2 (by rw [e]; exact Nat.le_add_right b a))]
      exact hS.2.1 q g1 g2, fun q hq => by
      rcases List.mem_append.mp hq with h | h
      · exact hS.2.2 q h
      · obtain ⟨z, -, hz⟩ := List.mem_map.mp h
        rw [← hz]
        exact Nat.le_add_right b a⟩ hL t1 t2 t3 t4 _ hheap X'
  exact ⟨t, step t g1, g2⟩
/-- the end is known -/
def mRet (v : Option Value) (n : Nat) (K : mK) (I : mI) (P : mP) : mQ := fun v' n' K' I' P' => v' = v ∧ n' = n ∧ K' = K ∧ I' = I ∧ P' = P
theorem mRet_ok (v : Option Value) (n : Nat) (K : mK) (I : mI) (P : mP) : mRet v n K I P v n K I P := ⟨rfl, rfl, rfl, rfl, rfl⟩
def mSiteS (j y : mMeth) (pc q : Nat) : Prop := ∃ idx : Nat, mD j pc (.invokestatic idx) 3 q ∧ Cond.methodLink j.1.cls idx y.1 ∈ mTb
def mSiteV (j y : mMeth) (pc q : Nat) : Prop := ∃ idx : Nat, mD j pc (.invokevirtual idx) 3 q ∧ Cond.methodLink j.1.cls idx y.1 ∈ mTb
theorem mV_sub {bc' bs' : Nat} {v : Option Value} (h : mV X j d bc bs pc L st n K I P Q) (e1 : bc = bc') (e2 : bs = bs') : mV X j d bc' bs' pc L st n K I P Q := by
  subst e1; subst e2; exact h
/-- a static call, its end known: 'sk' is the stack -/
theorem mV_cS {v : Option Value} {sk : List Value} (hd : mSiteS j y pc q) (ht : mTgS y na) (hm : mC X y d 0 0 as n K I P (mRet v n K I1 P1)) (hsk : as.reverse ++ rest = sk) (hna : as.length = na) (hrest : (rest.map fun v => v.category).sum ≤ 8) (kk : mV X j (d + 1) bc bs q L (v.toList ++ rest) n K I1 P1 Q) : mV X j (d + 1) bc bs pc L sk n K I P Q := by
  obtain ⟨idx, ⟨h1, h2⟩, h3⟩ := hd
  subst hsk
  refine mV_callS h1 h2 h3 ht hna hrest (Nat.zero_le _) (Nat.zero_le _) hm ?_
  rintro v' n' K' I' P' ⟨rfl, rfl, rfl, rfl, rfl⟩
  exact kk
theorem mV_cV {v : Option Value} {sk : List Value} {ci N : Nat} {T : u_T} (hd : mSiteV j y pc q) (ht : mTgV y na) (hc : mCls ci y.1.cls T N) (ha : a < n) (hk : K a = (ci + 2, N)) (hm : mC X y d 0 0 (.ref a :: as) n K I P (mRet v n K I1 P1)) (hsk : as.reverse ++ .ref a :: rest = sk) (hna : as.length = na) (hrest : (rest.map fun v => v.category).sum ≤ 8) (kk : mV X j (d + 1) bc bs q L (v.toList ++ rest) n K I1 P1 Q) : mV X j (d + 1) bc bs pc L sk n K I P Q := by
  obtain ⟨idx, ⟨h1, h2⟩, h3⟩ := hd
  subst hsk
  refine mV_callV h1 h2 h3 ht hna hc ha hk hrest (Nat.zero_le _) (Nat.zero_le _) hm ?_
  rintro v' n' K' I' P' ⟨rfl, rfl, rfl, rfl, rfl⟩
  exact kk
/-- a call, its end by a property -/
theorem mV_pV {sk : List Value} {ci N : Nat} {T : u_T} {Qc : mQ} (hd : mSiteV j y pc q) (ht : mTgV y na) (hc : mCls ci y.1.cls T N) (ha : a < n) (hk : K a = (ci + 2, N)) (hm : mC X y d 0 0 (.ref a :: as) n K I P Qc) (hsk : as.reverse ++ .ref a :: rest = sk) (hna : as.length = na) (hrest : (rest.map fun v => v.category).sum ≤ 8) (kk : ∀ v n' K' I' P', Qc v n' K' I' P' → mV X j (d + 1) bc bs q L (v.toList ++ rest) n' K' I' P' Q) : mV X j (d + 1) bc bs pc L sk n K I P Q := by
  obtain ⟨idx, ⟨h1, h2⟩, h3⟩ := hd
  subst hsk
  exact mV_callV h1 h2 h3 ht hna hc ha hk hrest (Nat.zero_le _) (Nat.zero_le _) hm kk
theorem mC_of {L0 : List Value} (hL : mArgs as ++ List.replicate (y.2.2.1 - (mArgs as).length) mX0 = L0) (hl : (mArgs as).length ≤ y.2.2.1) (h : mV X y d bc bs 0 L0 [] n K I P Q) : mC X y d bc bs as n K I P Q := ⟨hl, by rw [hL]; exact h⟩
theorem mV_post {Q' : mQ} (h : mV X j d bc bs pc L st n K I P Q) (hq : ∀ v n K I P, Q v n K I P → Q' v n K I P) : mV X j d bc bs pc L st n K I P Q' := by
  intro b D cI cS aK aV p l e R s m args below meth c H locs cells slots Tc Ts ls hC hR hS hL t1 t2 t3 t4 T hT Z
  obtain ⟨t, h1, o, h2, h3, ⟨⟨v, n', K', I', P', g1, g2, g3⟩, g4⟩, h5⟩ := h b D cI cS aK aV p l e R s m args below meth c H locs cells slots Tc Ts ls hC hR hS hL t1 t2 t3 t4 T hT Z
  exact ⟨t, h1, o, h2, h3, ⟨⟨v, n', K', I', P', g1, hq _ _ _ _ _ g2, g3⟩, g4⟩, h5⟩
theorem mC_post {Q' : mQ} (h : mC X y d bc bs as n K I P Q) (hq : ∀ v n K I P, Q v n K I P → Q' v n K I P) : mC X y d bc bs as n K I P Q' := ⟨h.1, mV_post h.2 hq⟩
theorem mV_deep {d' : Nat} (h : mV X j d bc bs pc L st n K I P Q) (hd : d ≤ d') : mV X j d' bc bs pc L st n K I P Q := by
  intro b D cI cS aK aV p l e R s m args below meth c H locs cells slots Tc Ts ls hC hR hS hL t1 t2 t3 t4
  obtain ⟨c1, c2, c3, c4, c5, c6, c7, c8, c9, c10, c11⟩ := hC
  exact h b D cI cS aK aV p l e R s m args below meth c H locs cells slots Tc Ts ls ⟨c1, c2, c3, c4, c5, c6, c7, c8, c9, Nat.le_trans hd c10, by omega⟩ hR hS hL t1 t2 t3 t4
theorem mC_deep {d' : Nat} (h : mC X y d bc bs as n K I P Q) (hd : d ≤ d') : mC X y d' bc bs as n K I P Q := ⟨h.1, mV_deep h.2 hd⟩
end MVA

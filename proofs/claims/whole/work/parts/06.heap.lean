/-! FIELDS, ARRAYS, NEW CELLS -/
theorem mRef_ok {ty : FieldType} (h : defaultValue ty = .null) (a : Nat) : narrow ty (.ref a) = .ref a ∧ fits ty (.ref a) = true := by
  cases ty <;> first | (exact ⟨rfl, rfl⟩) | (simp [defaultValue] at h)
theorem mNull_ok {ty : FieldType} (h : defaultValue ty = .null) : narrow ty .null = .null ∧ fits ty .null = true := by
  cases ty <;> first | (exact ⟨rfl, rfl⟩) | (simp [defaultValue] at h)
theorem mBit {x : Int32} (h : x &&& 1 = x) : x = 0 ∨ x = 1 := by
  have h1 : x.toBitVec &&& 1#32 = x.toBitVec := by
    have := congrArg Int32.toBitVec h
    simpa using this
  have h2 := congrArg BitVec.toNat h1
  rw [BitVec.toNat_and] at h2
  have h3 : x.toBitVec.toNat % 2 = x.toBitVec.toNat := by
    rw [← Nat.and_one_is_mod]
    simpa using h2
  have h4 : x.toBitVec.toNat = 0 ∨ x.toBitVec.toNat = 1 := by omega
  rcases h4 with h4 | h4
  · left
    apply Int32.toBitVec_inj.mp
    apply BitVec.eq_of_toNat_eq
    rw [h4]; rfl
  · right
    apply Int32.toBitVec_inj.mp
    apply BitVec.eq_of_toNat_eq
    rw [h4]; rfl
def mFs (b c N : Nat) (i : Nat → Int32) (p : Nat → Option Nat) : List Value := (List.range N).map (fun f => if mRf c f then va_rf (mSh b (p f)) else .int (i f))
theorem mFs_get {b c N k : Nat} {i : Nat → Int32} {p : Nat → Option Nat} (hk : k < N) : (mFs b c N i p)[k]? = some (if mRf c k then va_rf (mSh b (p k)) else .int (i k)) := by
  simp [mFs, hk]
theorem mFs_setI {b c N k : Nat} {i : Nat → Int32} {p : Nat → Option Nat} (x : Int32) (hr : mRf c k = false) : (mFs b c N i p).set k (.int x) = mFs b c N (mU i k x) p := by
  apply List.ext_getElem?
  intro f
  rw [List.getElem?_set]
  by_cases hf : f < N
  · rw [mFs_get hf, mFs_get hf]
    by_cases e : k = f
    · subst e
      rw [if_pos rfl, if_pos (by simp [mFs]; exact hf), hr, mU_eq]
      rfl
    · rw [if_neg e, mU_ne _ _ (Ne.symm e)]
  · have e1 : (mFs b c N i p)[f]? = none := by rw [List.getElem?_eq_none_iff]; simp [mFs]; omega
    have e2 : (mFs b c N (mU i k x) p)[f]? = none := by rw [List.getElem?_eq_none_iff]; simp [mFs]; omega
    rw [e1, e2]
    have hl : (mFs b c N i p).length = N := by simp [mFs]
    rw [hl]
    by_cases e : k = f
    · rw [if_pos e, if_neg (by omega)]
    · rw [if_neg e]
theorem mFs_setP {b c N k : Nat} {i : Nat → Int32} {p : Nat → Option Nat} (r : Option Nat) (hr : mRf c k = true) : (mFs b c N i p).set k (va_rf (mSh b r)) = mFs b c N i (mU p k r) := by
  apply List.ext_getElem?
  intro f
  rw [List.getElem?_set]
  by_cases hf : f < N
  · rw [mFs_get hf, mFs_get hf]
    by_cases e : k = f
    · subst e
      rw [if_pos rfl, if_pos (by simp [mFs]; exact hf), hr, mU_eq]
      rfl
    · rw [if_neg e, mU_ne _ _ (Ne.symm e)]
  · have e1 : (mFs b c N i p)[f]? = none := by rw [List.getElem?_eq_none_iff]; simp [mFs]; omega
    have e2 : (mFs b c N i (mU p k r))[f]? = none := by rw [List.getElem?_eq_none_iff]; simp [mFs]; omega
    rw [e1, e2]
    have hl : (mFs b c N i p).length = N := by simp [mFs]
    rw [hl]
    by_cases e : k = f
    · rw [if_pos e, if_neg (by omega)]
    · rw [if_neg e]
theorem mRel.set {b : Nat} {D : va_G} {cI cS : ClassId} {n : Nat} {K : mK} {I : mI} {P : mP} {H H1 : Heap} {a : Nat} (h : mRel b D cI cS n K I P H) (ha : a < n) (i : Nat → Int32) (p : Nat → Option Nat) (he : va_at D mcl (b + a, mE b cI cS (K a) i p) H1) (hz : H1.size = H.size) (oq : ∀ q : Nat, q ≠ b + a → H1[q]? = H[q]?) : mRel b D cI cS n K (mU I a i) (mU P a p) H1 := by
  refine ⟨?_, hz.trans h.2⟩
  have := h.1.set (mws_D b cI cS n K I P) (mws_get ha) he oq
  rwa [mws_set ha] at this
theorem mRel.push {b : Nat} {D : va_G} {cI cS : ClassId} {n : Nat} {K : mK} {I : mI} {P : mP} {H H1 : Heap} (h : mRel b D cI cS n K I P H) (k : Nat × Nat) (i : Nat → Int32) (p : Nat → Option Nat) (he : va_at D mcl (b + n, mE b cI cS k i p) H1) (hz : H1.size = H.size + 1) (oq : ∀ q : Nat, q < H.size → H1[q]? = H[q]?) : mRel b D cI cS (n + 1) (mU K n k) (mU I n i) (mU P n p) H1 := by
  refine ⟨?_, by rw [hz, h.2]; omega⟩
  rw [← mws_push]
  refine va_P.app (h.1.kept (fun k x hx => oq x.1 ((h.1 k x hx).lt))) (fun k x hx => ?_)
  have hz : k < 1 := (List.getElem?_eq_some_iff.mp hx).1
  rw [show k = 0 by omega] at hx
  cases hx
  exact he
theorem mS_grow {b : Nat} {H0 H H1 : Heap} {locs : List Loc} (h : va_S (fun q => b ≤ q) H0 H locs) (hz : H1.size = H.size + 1) (oq : ∀ q : Nat, q < H.size → H1[q]? = H[q]?) : va_S (fun q => b ≤ q) H0 H1 locs :=
  ⟨Nat.le_trans h.1 (by omega), fun q h1 h2 => (oq q (Nat.lt_of_lt_of_le h1 h.1)).trans (h.2.1 q h1 h2), h.2.2⟩
def mGet (j : mMeth) (pc ci N k q : Nat) : Prop := ∃ (idx : Nat) (C : String) (T : u_T), mD j pc (.getfield idx) 3 q ∧ mCls ci C T N ∧ k < N ∧ Cond.fieldLink j.1.cls idx (T k).1 (T k).2.1 (T k).2.2.1 ∈ mTb
def mPut (j : mMeth) (pc ci N k q : Nat) : Prop := ∃ (idx : Nat) (C : String) (T : u_T), mD j pc (.putfield idx) 3 q ∧ mCls ci C T N ∧ k < N ∧ Cond.fieldLink j.1.cls idx (T k).1 (T k).2.1 (T k).2.2.1 ∈ mTb ∧ ((T k).2.2.2 = false ∨ ((T k).2.2.2 = true ∧ j.1.name = "<init>" ∧ (T k).1 = j.1.cls))
section MVH
variable {X : Nat × (Nat → Int32)} {j : mMeth} {d bc bs pc q ci N k a r : Nat} {L st : List Value} {n : Nat} {K : mK} {I : mI} {P : mP} {Q : mQ} {x i : Int32}
theorem mV_getI (hd : mGet j pc ci N k q) (ha : a < n) (hk : K a = (ci + 2, N)) (hr : mRf ci k = false) (kk : mV X j d bc bs q L (.int (I a k) :: st) n K I P Q) : mV X j d bc bs pc L (.ref a :: st) n K I P Q := by
  intro b D cI cS aK aV p l e R s m args below meth c H locs cells slots Tc Ts ls hC hR hS hL t1 t2 t3 t4
  obtain ⟨idx, C, T, ⟨h1, rfl⟩, hcl, hkN, hlk⟩ := hd
  have he := mws_get (b := b) (cI := cI) (cS := cS) (K := K) (I := I) (P := P) ha
  rw [hk] at he
  exact va_get (C := C) (T := T) (N := N) (v := .int (I a k)) hC.1 hC.2.1 hC.2.2.2.2.2.2.2.1 hcl.2.1 hC.2.2.2.2.1 hC.2.2.2.2.2.2.2.2.1.1 hR.1 a he hcl.1 k hkN (hC.2.2.2.2.2.2.2.1 _ hlk) (fun _ h9 => h9) (by rw [show ∀ z, (List.range N).map z = (List.range N).map z from fun _ => rfl]; exact (mFs_get hkN).trans (by rw [hr]; rfl)) h1 (kk b D cI cS aK aV p l e R s m args below meth c H locs cells slots Tc Ts ls hC hR hS hL t1 t2 t3 t4)
theorem mV_getP (hd : mGet j pc ci N k q) (ha : a < n) (hk : K a = (ci + 2, N)) (hr : mRf ci k = true) (hp : P a k = some r) (kk : mV X j d bc bs q L (.ref r :: st) n K I P Q) : mV X j d bc bs pc L (.ref a :: st) n K I P Q := by
  intro b D cI cS aK aV p l e R s m args below meth c H locs cells slots Tc Ts ls hC hR hS hL t1 t2 t3 t4
  obtain ⟨idx, C, T, ⟨h1, rfl⟩, hcl, hkN, hlk⟩ := hd
  have he := mws_get (b := b) (cI := cI) (cS := cS) (K := K) (I := I) (P := P) ha
  rw [hk] at he
  exact va_get (C := C) (T := T) (N := N) (v := .ref (b + r)) hC.1 hC.2.1 hC.2.2.2.2.2.2.2.1 hcl.2.1 hC.2.2.2.2.1 hC.2.2.2.2.2.2.2.2.1.1 hR.1 a he hcl.1 k hkN (hC.2.2.2.2.2.2.2.1 _ hlk) (fun _ h9 => h9) ((mFs_get hkN).trans (by rw [hr, hp]; rfl)) h1 (kk b D cI cS aK aV p l e R s m args below meth c H locs cells slots Tc Ts ls hC hR hS hL t1 t2 t3 t4)
/-- a field is written: the machine's part -/
theorem mPutW {b : Nat} {D : va_G} {cI cS : ClassId} {aK aV : Nat → Nat} {p : Program} {l : Launch} {e : Env} {R : Room} {s : State} {m : MethodId} {args : Array Value} {below : List Frame} {meth : Method} {c : Code} {H : Heap} {locs : List Loc} {cells slots : Nat} {ls : Array Slot} {Z : State → Prop} {v : Value} {rest : List Value}
    (hd : mPut j pc ci N k q) (hC : mCtx X j d b D cI cS aK aV p R s m args meth c) (hR : mRel b D cI cS n K I P H) (hS : va_S (fun q => b ≤ q) s.heap H locs) (ha : a < n) (hk : K a = (ci + 2, N)) (hn : narrow (mY ci k) v = v) (hf : fits (mY ci k) v = true)
    (kk : ∀ (H1 : Heap) (locs1 : List Loc), va_at D mcl (b + a, .inr (ci, (mFs b ci N (I a) (P a)).set k v)) H1 → H1.size = H.size → (∀ q : Nat, q ≠ b + a → H1[q]? = H[q]?) → va_S (fun q => b ≤ q) s.heap H1 locs1 → W p l e R s m args below meth c H1 locs1 cells slots Z (F0 m q ls rest)) : W p l e R s m args below meth c H locs cells slots Z (F0 m pc ls (v :: .ref (b + a) :: rest)) := by
  obtain ⟨idx, C, T, ⟨h1, rfl⟩, hcl, hkN, hlk, hfin⟩ := hd
  obtain ⟨hx, hb, -, -, hown, -, hnm, hts, hE, -⟩ := hC
  have he := mws_get (b := b) (cI := cI) (cS := cS) (K := K) (I := I) (P := P) ha
  rw [hk] at he
  obtain ⟨hc, hin, hty, hne, -⟩ := hcl
  have hK := hE.1
  have hap := va_apart (own := j.1.cls) hts hin (mY ci) hty hne hK hc
  obtain ⟨r, hr1, cell, q1, q2, q3, q4⟩ := hR.1 a _ he
  have hr : r = (C, T, N) := Option.some.inj (hr1.symm.trans hc)
  subst hr
  obtain ⟨hSl, hfc, kC, hkC, hkind⟩ := hK.1 ci _ hc
  obtain ⟨cf, kf, fi, f, hi, hsl⟩ := hSl k hkN
  have hlay := hts _ (hin _ (u_in_lay hkN))
  unfold u_lay at hlay
  have hst := (u_facts hfc hkC (u_lays hts hin hkN) hi).1
  have hl : k < (mFs b ci N (I a) (P a)).length := by simp [mFs]; exact hkN
  have fin : ∀ H1 : Heap, H1[b + a]? = some (cell.setSlot (D.2 ci k) v) → va_at D mcl (b + a, .inr (ci, (mFs b ci N (I a) (P a)).set k v)) H1 := fun H1 e1 =>
    ⟨_, hc, t_OB.to (V := updV (vp_V (mFs b ci N (I a) (P a))) k v) ⟨_, e1, q2, q3, t_set q4 hap hkN v⟩ (fun j _ => vp_updV_set hl v j)⟩
  rcases hfin with hfin | ⟨hfin, hin2, hdecl⟩
  · rw [if_neg (by rw [hfin]; decide)] at hlay
    have h6 := u_store hfc hkC hkind hlay hi (hty k hkN) hn hf
    refine W.putK hx hb (f := f) ⟨hown, hts _ hlk, ⟨_, _, _, hi⟩, hst⟩ (by rw [q2]; exact h6) q1 q3 (by rw [hsl]; exact k2_hasslot (q4 k hkN)) rfl rfl h1 fun H' e1 e2 e3 => ?_
    rw [hsl] at e1 ⊢
    exact kk H' _ (fin H' e1) e2 e3 (hS.put e2 e3 (Nat.le_add_right b a))
  · rw [if_pos hfin] at hlay
    have hcf : m.cls = cf := by
      obtain ⟨_, _, c', _, _, _, -, -, hf', -, -, -, hown2, -⟩ := Cond.laysFinal_spec hlay
      have e1 : c' = cf := by have := hi.symm.trans hf'; simp at this; exact this.1.symm
      rw [hdecl] at hown2
      rw [← e1]; exact Option.some.inj (hown.symm.trans hown2)
    have h6 := u_fits hfc hkC hkind (Or.inr hlay) hi (hty k hkN) hn hf
    refine W.putFinK hx hb hown (hts _ hlk) hi hst hcf (hnm.trans hin2) (by rw [q2]; exact h6) q1 q3 (by rw [hsl]; exact k2_hasslot (q4 k hkN)) rfl rfl h1 fun H' e1 e2 e3 => ?_
    rw [hsl] at e1 ⊢
    exact kk H' _ (fin H' e1) e2 e3 (hS.put e2 e3 (Nat.le_add_right b a))
theorem mV_putI (hd : mPut j pc ci N k q) (ha : a < n) (hk : K a = (ci + 2, N)) (hr : mRf ci k = false) (hn : narrow (mY ci k) (.int x) = .int x) (kk : mV X j d bc bs q L st n K (mW I a k x) P Q) : mV X j d bc bs pc L (.int x :: .ref a :: st) n K I P Q := by
  intro b D cI cS aK aV p l e R s m args below meth c H locs cells slots Tc Ts ls hC hR hS hL t1 t2 t3 t4
  have hf : fits (mY ci k) (.int x) = true := by
    obtain ⟨idx, C, T, -, hcl, hkN, -⟩ := hd
    rcases hcl.2.2.2.2 k hkN with ⟨h, -⟩ | ⟨-, h | h⟩
    · rw [h] at hr; cases hr
    · rw [h]; rfl
    · rw [h] at hn ⊢
      first | rfl | (have := hn; simp [narrow, fits] at this ⊢; exact mBit this)
  refine mPutW (v := .int x) hd hC hR hS ha hk hn hf fun H1 locs1 h1 h2 h3 h4 => ?_
  rw [mFs_setI x hr] at h1
  have hR1 := hR.set ha (mU (I a) k x) (P a) (by rw [hk]; exact h1) h2 h3
  rw [mU_self] at hR1
  exact kk b D cI cS aK aV p l e R s m args below meth c H1 locs1 cells slots Tc Ts ls hC hR1 h4 hL t1 t2 t3 t4
theorem mV_putP (hd : mPut j pc ci N k q) (ha : a < n) (hk : K a = (ci + 2, N)) (hr : mRf ci k = true) (kk : mV X j d bc bs q L st n K I (mW P a k (some r)) Q) : mV X j d bc bs pc L (.ref r :: .ref a :: st) n K I P Q := by
  intro b D cI cS aK aV p l e R s m args below meth c H locs cells slots Tc Ts ls hC hR hS hL t1 t2 t3 t4
  have hdv : defaultValue (mY ci k) = .null := by
    obtain ⟨idx, C, T, -, hcl, hkN, -⟩ := hd
    rcases hcl.2.2.2.2 k hkN with ⟨-, h, -⟩ | ⟨h, -⟩
    · exact h
    · rw [h] at hr; cases hr
  refine mPutW (v := .ref (b + r)) hd hC hR hS ha hk (mRef_ok hdv _).1 (mRef_ok hdv _).2 fun H1 locs1 h1 h2 h3 h4 => ?_
  have e1 : (Value.ref (b + r)) = va_rf (mSh b (some r)) := rfl
  rw [e1, mFs_setP (some r) hr] at h1
  have hR1 := hR.set ha (I a) (mU (P a) k (some r)) (by rw [hk]; exact h1) h2 h3
  rw [mU_self] at hR1
  exact kk b D cI cS aK aV p l e R s m args below meth c H1 locs1 cells slots Tc Ts ls hC hR1 h4 hL t1 t2 t3 t4
theorem mV_iaload (hd : mD j pc .iaload 1 q) (ha : a < n) (hk : K a = (0, N)) (hin : vp_in i N) (kk : mV X j d bc bs q L (.int (I a i.toNatClampNeg) :: st) n K I P Q) : mV X j d bc bs pc L (.int i :: .ref a :: st) n K I P Q := by
  intro b D cI cS aK aV p l e R s m args below meth c H locs cells slots Tc Ts ls hC hR hS hL t1 t2 t3 t4
  obtain ⟨h1, rfl⟩ := hd
  have he := mws_get (b := b) (cI := cI) (cS := cS) (K := K) (I := I) (P := P) ha
  rw [hk] at he
  exact va_iald hC.1 hC.2.1 hC.2.2.2.2.2.2.2.2.1.1 hR.1 a 0 he rfl hin h1 (kk b D cI cS aK aV p l e R s m args below meth c H locs cells slots Tc Ts ls hC hR hS hL t1 t2 t3 t4)
theorem mV_aaload (hd : mD j pc .aaload 1 q) (ha : a < n) (hk : K a = (1, N)) (hin : vp_in i N) (hp : P a i.toNatClampNeg = some r) (kk : mV X j d bc bs q L (.ref r :: st) n K I P Q) : mV X j d bc bs pc L (.int i :: .ref a :: st) n K I P Q := by
  intro b D cI cS aK aV p l e R s m args below meth c H locs cells slots Tc Ts ls hC hR hS hL t1 t2 t3 t4
  obtain ⟨h1, rfl⟩ := hd
  have he := mws_get (b := b) (cI := cI) (cS := cS) (K := K) (I := I) (P := P) ha
  rw [hk] at he
  refine va_aldq hC.1 hC.2.1 hC.2.2.2.2.2.2.2.2.1.1 hR.1 a 1 he rfl hin h1 ?_
  rw [hp]
  exact kk b D cI cS aK aV p l e R s m args below meth c H locs cells slots Tc Ts ls hC hR hS hL t1 t2 t3 t4
theorem mV_alen (hd : mD j pc .arraylength 1 q) (ha : a < n) (hk : K a = (0, N)) (kk : mV X j d bc bs q L (.int (Int32.ofNat N) :: st) n K I P Q) : mV X j d bc bs pc L (.ref a :: st) n K I P Q := by
  intro b D cI cS aK aV p l e R s m args below meth c H locs cells slots Tc Ts ls hC hR hS hL t1 t2 t3 t4
  obtain ⟨h1, rfl⟩ := hd
  have he := mws_get (b := b) (cI := cI) (cS := cS) (K := K) (I := I) (P := P) ha
  rw [hk] at he
  exact va_alen hC.1 hC.2.1 hC.2.2.2.2.2.2.2.2.1.1 hR.1 a 0 he rfl rfl h1 (kk b D cI cS aK aV p l e R s m args below meth c H locs cells slots Tc Ts ls hC hR hS hL t1 t2 t3 t4)
theorem mV_iastore (hd : mD j pc .iastore 1 q) (ha : a < n) (hk : K a = (0, N)) (hin : vp_in i N) (kk : mV X j d bc bs q L st n K (mW I a i.toNatClampNeg x) P Q) : mV X j d bc bs pc L (.int x :: .int i :: .ref a :: st) n K I P Q := by
  intro b D cI cS aK aV p l e R s m args below meth c H locs cells slots Tc Ts ls hC hR hS hL t1 t2 t3 t4
  obtain ⟨h1, rfl⟩ := hd
  have he := mws_get (b := b) (cI := cI) (cS := cS) (K := K) (I := I) (P := P) ha
  rw [hk] at he
  refine W.iast hC.1 hC.2.1 (hR.1 a _ he) ((hC.2.2.2.2.2.2.2.2.1.1.2 0 _ rfl).1 N (fun j => .int (I a j))) (fun q => by cases q) (by show ¬ (i < 0 ∨ (arrV _ _ _).slots.size ≤ _); rw [arrV_size]; exact hin) rfl rfl h1 fun H1 e1 z oq => ?_
  have hat : va_at D mcl (b + a, mE b cI cS (K a) (mU (I a) i.toNatClampNeg x) (P a)) H1 := by
    rw [hk]
    show H1[b + a]? = some (vp_cell cI (N, .inl (mU (I a) i.toNatClampNeg x)))
    rw [e1, vp_cell_i, vp_cell_i, arrV_store]
    congr 2
    funext q
    by_cases hq : q = i.toNatClampNeg
    · subst hq
      simp [updV, mU]
    · simp [updV, mU, hq]
  have hR1 := hR.set ha _ _ hat z oq
  rw [mU_self] at hR1
  exact kk b D cI cS aK aV p l e R s m args below meth c H1 _ cells slots Tc Ts ls hC hR1 (hS.put z oq (Nat.le_add_right b a)) hL t1 t2 t3 t4
theorem mV_aastore {o : Nat} (hd : mD j pc .aastore 1 q) (ha : a < n) (hk : K a = (1, N)) (ho : o < n) (hko : K o = (9, 13)) (hin : vp_in i N) (kk : mV X j d bc bs q L st n K I (mW P a i.toNatClampNeg (some o)) Q) : mV X j d bc bs pc L (.ref o :: .int i :: .ref a :: st) n K I P Q := by
  intro b D cI cS aK aV p l e R s m args below meth c H locs cells slots Tc Ts ls hC hR hS hL t1 t2 t3 t4
  obtain ⟨h1, rfl⟩ := hd
  have he := mws_get (b := b) (cI := cI) (cS := cS) (K := K) (I := I) (P := P) ha
  rw [hk] at he
  have heo := mws_get (b := b) (cI := cI) (cS := cS) (K := K) (I := I) (P := P) ho
  rw [hko] at heo
  have hE := hC.2.2.2.2.2.2.2.2.1
  have hlt : i.toNatClampNeg < N := Nat.not_le.mp fun q => hin (Or.inr q)
  have h0 : ¬ i < 0 := fun q => hin (Or.inl q)
  obtain ⟨r', hr', cellV, g1, g2, g3, -⟩ := hR.1 o _ heo
  have hcls := (hE.1.1 7 _ mCls7.1).2
  obtain ⟨kA, comp, k1, k2, k3, -⟩ := (hE.1.2 1 _ rfl).2
  have hcomp : comp = D.1 7 := Option.some.inj (k3.symm.trans hcls.1)
  subst hcomp
  obtain ⟨kC, hkC, -⟩ := hcls.2
  refine W.aast hC.1 hC.2.1 (hR.1 a _ he) (fun q h => by cases h) (fun h => by cases h) k1 k2 rfl hkC ⟨h0, by show _ < (arrV _ _ _).slots.size; rw [arrV_size]; exact hlt⟩ g1 (fun q h => by rw [g3] at h; cases h) (by rw [g2]; exact hkC) (by rw [g2]; exact va_assign hcls) rfl rfl h1 fun H1 e1 z oq => ?_
  have hat : va_at D mcl (b + a, mE b cI cS (K a) (I a) (mU (P a) i.toNatClampNeg (some o))) H1 := by
    rw [hk]
    show H1[b + a]? = some (vp_cell cS (N, .inr (.inr (.inr (.inr (fun j => mSh b (mU (P a) i.toNatClampNeg (some o) j)))))))
    rw [e1, vp_cell_q, vp_cell_q, arrV_store]
    congr 2
    funext q
    by_cases hq : q = i.toNatClampNeg
    · subst hq
      simp [updV, mU, mSh, va_rf]
    · simp [updV, mU, hq]
  have hR1 := hR.set ha _ _ hat z oq
  rw [mU_self] at hR1
  exact kk b D cI cS aK aV p l e R s m args below meth c H1 _ cells slots Tc Ts ls hC hR1 (hS.put z oq (Nat.le_add_right b a)) hL t1 t2 t3 t4
def mNew (j : mMeth) (pc ci N q : Nat) : Prop := ∃ (idx : Nat) (C : String) (T : u_T), mD j pc (.new idx) 3 q ∧ mCls ci C T N ∧ Cond.classLink j.1.cls idx C ∈ mTb ∧ Cond.instantiable C N ∈ mTb ∧ Cond.initialized C ∈ mTb
theorem mV_new (hd : mNew j pc ci N q) (kk : mV X j d bc bs q L (.ref n :: st) (n + 1) (mU K n (ci + 2, N)) (mU I n (fun _ => 0)) (mU P n (fun _ => none)) Q) : mV X j d (bc + 1) (bs + N) pc L st n K I P Q := by
  intro b D cI cS aK aV p l e R s m args below meth c H locs cells slots Tc Ts ls hC hR hS hL t1 t2 t3 t4
  obtain ⟨idx, C, T, ⟨h1, rfl⟩, ⟨hc, hin, hty, hne, hkd⟩, hcl, hins, hini⟩ := hd
  have hts := hC.2.2.2.2.2.2.2.1
  have hKn := hC.2.2.2.2.2.2.2.2.1.1.1 ci _ hc
  refine W.newcK hC.1 hC.2.1 hC.2.2.2.2.1 (hts _ hcl) (hts _ hins) (hts _ hini) rfl h1 (by omega) (by omega) hKn.2.1 rfl fun H1 kC hkC e1 z1 o1 => ?_
  have hat : va_at D mcl (b + n, mE b cI cS (ci + 2, N) (fun _ => 0) (fun _ => none)) H1 := by
    refine ⟨_, hc, ?_⟩
    rw [← hR.2]
    refine (u_born (mY ci) hts hin hKn hkC e1 hty).to (fun f hf => ?_)
    have hV : vp_V (mFs b ci N (fun _ => 0) (fun _ => none)) f = if mRf ci f then .null else .int 0 := by
      show (mFs b ci N (fun _ => 0) (fun _ => none)).getD f .null = _
      rw [List.getD_eq_getElem?_getD, mFs_get hf]
      rfl
    show _ = vp_V (mFs b ci N (fun _ => 0) (fun _ => none)) f
    rw [hV]
    rcases hkd f hf with ⟨h, h2, -⟩ | ⟨h, h2 | h2⟩
    · rw [h, h2]; rfl
    · rw [h, h2]; rfl
    · rw [h, h2]; rfl
  have hR1 := hR.push _ _ _ hat z1 o1
  have := kk b D cI cS aK aV p l e R s m args below meth c H1 locs (cells + 1) (slots + N) Tc Ts ls hC hR1 (mS_grow hS z1 o1) hL (by omega) (by omega) t3 t4
  rw [hR.2]
  exact this
theorem mV_newa {N : Nat} (hd : mD j pc (.newarray .int) 2 q) (hw : Cond.arrayClass .int ∈ mTb) (hx : ¬ x < 0) (hN : x.toNatClampNeg = N) (hb : N ≤ 10000) (kk : mV X j d bc bs q L (.ref n :: st) (n + 1) (mU K n (0, N)) (mU I n (fun _ => 0)) (mU P n (fun _ => none)) Q) : mV X j d (bc + 1) (bs + N) pc L (.int x :: st) n K I P Q := by
  intro b D cI cS aK aV p l e R s m args below meth c H locs cells slots Tc Ts ls hC hR hS hL t1 t2 t3 t4
  obtain ⟨h1, rfl⟩ := hd
  have hts := hC.2.2.2.2.2.2.2.1
  have hE := hC.2.2.2.2.2.2.2.2.1
  refine va_newaK (atype := .int) hC.1 hC.2.1 (hts _ hw) rfl h1 rfl hx hN (by show N * 4 ≤ _; omega) (by omega) (by omega) rfl fun H1 cA e1 z1 o1 hAr hNm => ?_
  have hcA : cA = cI := by
    have h2 : s.vm.findClass ("[" ++ (FieldType.int).toString) = some cI := (hE.1.2 0 _ rfl).2
    exact Option.some.inj (hNm.symm.trans h2)
  subst hcA
  have hat : va_at D mcl (b + n, mE b cA cS (0, N) (fun _ => 0) (fun _ => none)) H1 := by
    show H1[b + n]? = some (vp_cell cA (N, .inl (fun _ => 0)))
    rw [vp_cell_i, ← hR.2]
    exact e1
  have hR1 := hR.push _ _ _ hat z1 o1
  have := kk b D cA cS aK aV p l e R s m args below meth c H1 locs (cells + 1) (slots + N) Tc Ts ls hC hR1 (mS_grow hS z1 o1) hL (by omega) (by omega) t3 t4
  show W p l e R s m args below meth c H1 locs (cells + 1) (slots + N) _ (F0 m (pc + 2) ls (.ref H.size :: _))
  rw [hR.2]
  exact this
theorem mV_newq {idx : Nat} (hd : mD j pc (.anewarray idx) 3 q) (hl : Cond.classLink j.1.cls idx "WeepingPiano$Stage" ∈ mTb) (hx : ¬ x < 0) (hN : x.toNatClampNeg = N) (hb : N ≤ 10000) (kk : mV X j d bc bs q L (.ref n :: st) (n + 1) (mU K n (1, N)) (mU I n (fun _ => 0)) (mU P n (fun _ => none)) Q) : mV X j d (bc + 1) (bs + N) pc L (.int x :: st) n K I P Q := by
  intro b D cI cS aK aV p l e R s m args below meth c H locs cells slots Tc Ts ls hC hR hS hL t1 t2 t3 t4
  obtain ⟨h1, rfl⟩ := hd
  have hts := hC.2.2.2.2.2.2.2.1
  have hE := hC.2.2.2.2.2.2.2.2.1
  subst hN
  refine W.anew hC.1 hC.2.1 hC.2.2.2.2.1 (hts _ hl) (va_AO.use hE.2.2.1) rfl h1 rfl hx (by omega) (by omega) (by omega) fun cA kA comp f1 f2 f3 f4 => ?_
  generalize hH1 : H.push ({ cls := cA, slots := Array.replicate x.toNatClampNeg .null, vm := .none } : Cell) = H1
  have z1 : H1.size = H.size + 1 := by rw [← hH1, Array.size_push]
  have e1 : H1[H.size]? = some (arrV cA x.toNatClampNeg (fun _ => .null)) := by rw [← hH1, Array.getElem?_push_size, ← arrV_new]
  have o1 : ∀ q : Nat, q < H.size → H1[q]? = H[q]? := fun q hq => by rw [← hH1, Array.getElem?_push, if_neg (Nat.ne_of_lt hq)]
  have hcA : cA = cS := by
    obtain ⟨_, _, _, _, _, h4⟩ := (hE.1.2 1 _ rfl).2
    exact Option.some.inj (f1.symm.trans h4)
  subst hcA
  have hat : va_at D mcl (b + n, mE b cI cA (1, x.toNatClampNeg) (fun _ => 0) (fun _ => none)) H1 := by
    show H1[b + n]? = some (vp_cell cA (x.toNatClampNeg, .inr (.inr (.inr (.inr (fun _ => none))))))
    rw [vp_cell_q, ← hR.2]
    exact e1
  have hR1 := hR.push _ _ _ hat z1 o1
  have := kk b D cI cA aK aV p l e R s m args below meth c H1 locs (cells + 1) (slots + x.toNatClampNeg) Tc Ts ls hC hR1 (mS_grow hS z1 o1) hL (by omega) (by omega) t3 t4
  show W p l e R s m args below meth c H1 locs (cells + 1) (slots + x.toNatClampNeg) _ (F0 m (pc + 3) ls (.ref H.size :: _))
  rw [hR.2]
  exact this
theorem mV_objInit {idx : Nat} (hd : mD j pc (.invokespecial idx) 3 q) (hl : Cond.methodLink j.1.cls idx objectInit ∈ mTb) (hi : Cond.instanceMethod objectInit ∈ mTb) (hco : Cond.code objectInit ⟨#[0xb1]⟩ 1 none ∈ mTb) (hst : (st.map fun v => v.category).sum ≤ 8) (kk : mV X j (d + 1) bc bs q L st n K I P Q) : mV X j (d + 1) bc bs pc L (.ref a :: st) n K I P Q := by
  intro b D cI cS aK aV p l e R s m args below meth c H locs cells slots Tc Ts ls hC hR hS hL t1 t2 t3 t4
  obtain ⟨h1, rfl⟩ := hd
  obtain ⟨hx, hb, -, hml, hown, -, -, hts, -, hf1, hf2⟩ := id hC
  refine W.objInit hx hb hown (hts _ hl) (hts _ hi) (hts _ hco) rfl (by rw [hml]; exact hL.1) rfl h1 (by omega) ?_ (kk b D cI cS aK aV p l e R s m args below meth c H locs cells slots Tc Ts ls hC hR hS hL t1 t2 t3 t4)
  show 2 * 0 + ((st.map (mEm b aK)).map fun v => v.category).sum + 12 ≤ R.locals
  rw [mEm_cats]
  omega
theorem mV_slen (hd : mD j pc .arraylength 1 q) (kk : mV X j d bc bs q L (.int (Int32.ofNat X.1) :: st) n K I P Q) : mV X j d bc bs pc L (.retAddr 2 :: st) n K I P Q := by
  intro b D cI cS aK aV p l e R s m args below meth c H locs cells slots Tc Ts ls hC hR hS hL t1 t2 t3 t4
  obtain ⟨h1, rfl⟩ := hd
  obtain ⟨-, -, -, -, -, -, -, hX, hlt, hle, -⟩ := hC.2.2.2.2.2.2.2.2.1
  exact va_slen hC.1 hC.2.1 hX (Nat.lt_of_lt_of_le hlt hle) (Nat.not_le.mpr hlt) hS h1 (kk b D cI cS aK aV p l e R s m args below meth c H locs cells slots Tc Ts ls hC hR hS hL t1 t2 t3 t4)
theorem mV_sload (hd : mD j pc .iaload 1 q) (hin : vp_in i X.1) (kk : mV X j d bc bs q L (.int (X.2 i.toNatClampNeg) :: st) n K I P Q) : mV X j d bc bs pc L (.int i :: .retAddr 2 :: st) n K I P Q := by
  intro b D cI cS aK aV p l e R s m args below meth c H locs cells slots Tc Ts ls hC hR hS hL t1 t2 t3 t4
  obtain ⟨h1, rfl⟩ := hd
  obtain ⟨-, -, -, -, -, -, -, hX, hlt, hle, -⟩ := hC.2.2.2.2.2.2.2.2.1
  exact va_sld hC.1 hC.2.1 hX (Nat.lt_of_lt_of_le hlt hle) (Nat.not_le.mpr hlt) hS hin h1 (kk b D cI cS aK aV p l e R s m args below meth c H locs cells slots Tc Ts ls hC hR hS hL t1 t2 t3 t4)
end MVH

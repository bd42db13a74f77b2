/-! WHAT A METHOD DOES, AS A FUNCTION: what may fail is an Option -/
def mLd (I : mI) (a N : Nat) (i : Int32) : Option Int32 := if i < 0 ∨ N ≤ i.toNatClampNeg then none else some (I a i.toNatClampNeg)
def mSto (I : mI) (a N : Nat) (i x : Int32) : Option mI := if i < 0 ∨ N ≤ i.toNatClampNeg then none else some (mW I a i.toNatClampNeg x)
def mRm (x y : Int32) : Int32 := x - x / y * y
def mRl (x y : Int64) : Int64 := x - x / y * y
def mDivO (x y : Int32) : Option Int32 := if y = 0 then none else some (x / y)
def mRemO (x y : Int32) : Option Int32 := if y = 0 then none else some (mRm x y)
def mDivL (x y : Int64) : Option Int64 := if y = 0 then none else some (x / y)
def mRemL (x y : Int64) : Option Int64 := if y = 0 then none else some (mRl x y)
def mUsh (x y : Int32) : Int32 := (x.toUInt32 >>> (y.toUInt32 &&& Int32.toUInt32 31)).toInt32
def mI2c (x : Int32) : Int32 := (x.toUInt32 % 65536).toInt32
def mMax (x y : Int32) : Int32 := if x < y then y else x
def mMin (x y : Int32) : Int32 := if y < x then y else x
def mAbs (x : Int32) : Int32 := if 0 ≤ x then x else 0 - x
def mBoO (x : Int32) : Option Unit := if x &&& 1 = x then some () else none
def mCpO (I : mI) (a0 N0 a N1 : Nat) (sp dp len : Int32) : Option mI := if sp < 0 ∨ dp < 0 ∨ len < 0 ∨ N0 < sp.toNatClampNeg + len.toNatClampNeg ∨ N1 < dp.toNatClampNeg + len.toNatClampNeg then none else some (mU I a (va_cpy (I a0) (I a) sp.toNatClampNeg dp.toNatClampNeg len.toNatClampNeg))
/-- the fuel of a loop: more than any run needs -/
def FU : Nat := 10000
theorem mBind {α β : Type} {x : Option α} {f : α → Option β} {r : β} (h : x.bind f = some r) : ∃ v, x = some v ∧ f v = some r := by
  cases x with
  | none => cases h
  | some v => exact ⟨v, rfl, h⟩
/-- a stage by its first cell -/
def mStg (a : Nat) : Prop := (a + 5 ≤ NN ∧ KK a = (9, 13) ∧ KK (a + 1) = (0, 12) ∧ KK (a + 2) = (0, 12) ∧ KK (a + 3) = (0, 6) ∧ KK (a + 4) = (0, 8)) ∧ (mPl.getD a []).getD 0 none = some (a + 1) ∧ (mPl.getD a []).getD 1 none = some (a + 2) ∧ (mPl.getD a []).getD 2 none = some (a + 3) ∧ (mPl.getD a []).getD 3 none = some (a + 4) ∧ a ≠ 1
theorem mStg.l {a k : Nat} (h : mStg a) (hk : k < 5) : a + k < NN := by have := h.1.1; omega
theorem mStg.l0 {a : Nat} (h : mStg a) : a < NN := h.l (k := 0) (by decide)
theorem mStg.p0 {a : Nat} (h : mStg a) (s : Nat) : PP s a 0 = some (a + 1) := by unfold PP; rw [if_neg (fun q => h.2.2.2.2.2 q.1)]; exact h.2.1
theorem mStg.p1 {a : Nat} (h : mStg a) (s : Nat) : PP s a 1 = some (a + 2) := by unfold PP; rw [if_neg (fun q => h.2.2.2.2.2 q.1)]; exact h.2.2.1
theorem mStg.p2 {a : Nat} (h : mStg a) (s : Nat) : PP s a 2 = some (a + 3) := by unfold PP; rw [if_neg (fun q => h.2.2.2.2.2 q.1)]; exact h.2.2.2.1
theorem mStg.p3 {a : Nat} (h : mStg a) (s : Nat) : PP s a 3 = some (a + 4) := by unfold PP; rw [if_neg (fun q => h.2.2.2.2.2 q.1)]; exact h.2.2.2.2.1
theorem mStg_3 : mStg 3 := by unfold mStg; decide
theorem mStg_35 : mStg 35 := by unfold mStg; decide
theorem mStg_45 : mStg 45 := by unfold mStg; decide
section MVO
variable {X : Nat × (Nat → Int32)} {j : mMeth} {d bc bs pc q ci N N0 N1 k a a0 r t : Nat} {L st : List Value} {n : Nat} {K : mK} {I I1 : mI} {P : mP} {Q : mQ} {x y i v : Int32} {z w u : Int64}
theorem mV_ldO (hd : mD j pc .iaload 1 q) (ha : a < n) (hk : K a = (0, N)) (hv : mLd I a N i = some x) (kk : mV X j d bc bs q L (.int x :: st) n K I P Q) : mV X j d bc bs pc L (.int i :: .ref a :: st) n K I P Q := by
  unfold mLd at hv
  split at hv
  · cases hv
  · cases hv
    exact mV_iaload hd ha hk (by assumption) kk
theorem mV_stO (hd : mD j pc .iastore 1 q) (ha : a < n) (hk : K a = (0, N)) (hv : mSto I a N i x = some I1) (kk : mV X j d bc bs q L st n K I1 P Q) : mV X j d bc bs pc L (.int x :: .int i :: .ref a :: st) n K I P Q := by
  unfold mSto at hv
  split at hv
  · cases hv
  · cases hv
    exact mV_iastore hd ha hk (by assumption) kk
theorem mV_divO (hd : mD j pc .idiv 1 q) (hv : mDivO x y = some v) (kk : mV X j d bc bs q L (.int v :: st) n K I P Q) : mV X j d bc bs pc L (.int y :: .int x :: st) n K I P Q := by
  unfold mDivO at hv
  split at hv
  · cases hv
  · cases hv
    exact mV_idiv hd (by assumption) kk
theorem mV_remO (hd : mD j pc .irem 1 q) (hv : mRemO x y = some v) (kk : mV X j d bc bs q L (.int v :: st) n K I P Q) : mV X j d bc bs pc L (.int y :: .int x :: st) n K I P Q := by
  unfold mRemO at hv
  split at hv
  · cases hv
  · cases hv
    exact mV_irem hd (by assumption) kk
theorem mV_divL (hd : mD j pc .ldiv 1 q) (hv : mDivL z w = some u) (kk : mV X j d bc bs q L (.long u :: st) n K I P Q) : mV X j d bc bs pc L (.long w :: .long z :: st) n K I P Q := by
  unfold mDivL at hv
  split at hv
  · cases hv
  · cases hv
    exact mV_ldiv hd (by assumption) kk
theorem mV_remL (hd : mD j pc .lrem 1 q) (hv : mRemL z w = some u) (kk : mV X j d bc bs q L (.long u :: st) n K I P Q) : mV X j d bc bs pc L (.long w :: .long z :: st) n K I P Q := by
  unfold mRemL at hv
  split at hv
  · cases hv
  · cases hv
    exact mV_lrem hd (by assumption) kk
theorem mV_remC (hd : mD j pc .irem 1 q) (hz : ¬ y = 0) (kk : mV X j d bc bs q L (.int (mRm x y) :: st) n K I P Q) : mV X j d bc bs pc L (.int y :: .int x :: st) n K I P Q := mV_irem hd hz kk
theorem mV_ushC (hd : mD j pc .iushr 1 q) (kk : mV X j d bc bs q L (.int (mUsh x y) :: st) n K I P Q) : mV X j d bc bs pc L (.int y :: .int x :: st) n K I P Q := mV_iushr hd kk
theorem mV_i2cC (hd : mD j pc .i2c 1 q) (kk : mV X j d bc bs q L (.int (mI2c x) :: st) n K I P Q) : mV X j d bc bs pc L (.int x :: st) n K I P Q := mV_i2c hd kk
theorem mV_maxC (hd : mMath j pc Lib.Math.max.name Lib.Math.max.code 2 q) (hst : (st.map fun v => v.category).sum ≤ 8) (k : mV X j (d + 1) bc bs q L (.int (mMax x y) :: st) n K I P Q) : mV X j (d + 1) bc bs pc L (.int y :: .int x :: st) n K I P Q := mV_max hd hst k
theorem mV_minC (hd : mMath j pc Lib.Math.min.name Lib.Math.min.code 2 q) (hst : (st.map fun v => v.category).sum ≤ 8) (k : mV X j (d + 1) bc bs q L (.int (mMin x y) :: st) n K I P Q) : mV X j (d + 1) bc bs pc L (.int y :: .int x :: st) n K I P Q := mV_min hd hst k
theorem mV_absC (hd : mMath j pc Lib.Math.abs.name Lib.Math.abs.code 1 q) (hst : (st.map fun v => v.category).sum ≤ 8) (k : mV X j (d + 1) bc bs q L (.int (mAbs x) :: st) n K I P Q) : mV X j (d + 1) bc bs pc L (.int x :: st) n K I P Q := mV_abs hd hst k
theorem mV_cpO {sp dp len : Int32} (hd : mCopyW j pc q) (ha0 : a0 < n) (ha : a < n) (hk0 : K a0 = (0, N0)) (hk : K a = (0, N1)) (hv : mCpO I a0 N0 a N1 sp dp len = some I1) (hst : (st.map fun v => v.category).sum ≤ 8)
    (kk : mV X j (d + 1) bc bs q L st n K I1 P Q) : mV X j (d + 1) bc bs pc L (.int len :: .int dp :: .ref a :: .int sp :: .ref a0 :: st) n K I P Q := by
  unfold mCpO at hv
  split at hv
  · cases hv
  · rename_i h
    cases hv
    simp only [not_or] at h
    exact mV_copy hd ha0 ha hk0 hk h.1 h.2.1 h.2.2.1 (Nat.not_lt.mp h.2.2.2.1) (Nat.not_lt.mp h.2.2.2.2) hst kk
theorem mV_putB (hd : mPut j pc ci N k q) (ha : a < n) (hk : K a = (ci + 2, N)) (hr : mRf ci k = false) (hy : mY ci k = .boolean) (hv : mBoO x = some ()) (kk : mV X j d bc bs q L st n K (mW I a k x) P Q) : mV X j d bc bs pc L (.int x :: .ref a :: st) n K I P Q := by
  unfold mBoO at hv
  split at hv
  · rename_i h
    refine mV_putI hd ha hk hr ?_ kk
    rw [hy]
    show Value.int (x &&& 1) = .int x
    rw [h]
  · cases hv
theorem mV_tabEq {v : Int32} {df lo hi : Int} {offs : Array Int} {len : Nat} {off : Int} (hd : mD j pc (.tableswitch df lo hi offs) len q) (hx : x = v) (h1 : ¬ v.toInt < lo) (h2 : ¬ hi < v.toInt) (ho : offs[(v.toInt - lo).toNat]? = some off) (ht : (pc : Int) + off = (t : Int)) (k : mV X j d bc bs t L st n K I P Q) : mV X j d bc bs pc L (.int x :: st) n K I P Q := by
  subst hx
  exact mV_tabIn hd.1 h1 h2 ho ht k
theorem mTabOut {lo hi : Int} {x : Int32} (cs : List Int32) (hcs : (List.range (hi - lo + 1).toNat).all (fun i => decide (Int32.ofInt (lo + (i : Int)) ∈ cs)) = true) (h : ∀ c ∈ cs, ¬ x = c) : x.toInt < lo ∨ hi < x.toInt := by
  by_cases h1 : x.toInt < lo
  · exact Or.inl h1
  · right
    apply Int.not_le.mp
    intro h2
    have h3 := List.all_eq_true.mp hcs (x.toInt - lo).toNat (List.mem_range.mpr (by omega))
    rw [decide_eq_true_eq] at h3
    refine h _ h3 ?_
    have e : lo + ((x.toInt - lo).toNat : Int) = x.toInt := by omega
    rw [e, Int32.ofInt_toInt]
theorem mV_tabNo {df lo hi : Int} {offs : Array Int} {len : Nat} (hd : mD j pc (.tableswitch df lo hi offs) len q) (cs : List Int32) (hcs : (List.range (hi - lo + 1).toNat).all (fun i => decide (Int32.ofInt (lo + (i : Int)) ∈ cs)) = true) (h : ∀ c ∈ cs, ¬ x = c) (ht : (pc : Int) + df = (t : Int)) (k : mV X j d bc bs t L st n K I P Q) : mV X j d bc bs pc L (.int x :: st) n K I P Q :=
  mV_tabOut hd.1 (mTabOut cs hcs h) ht k
theorem mV_zret (hty : j.2.2.2 = some .boolean) (hd : mD j pc .ireturn 1 q) (hq : Q (some (.int (x &&& 1))) n K I P) : mV X j d bc bs pc L [.int x] n K I P Q := by
  intro b D cI cS aK aV p l e R s m args below meth c H locs cells slots Tc Ts ls hC hR hS hL t1 t2 t3 t4
  obtain ⟨hx, hb, hr, hml, hown, hlocks, -⟩ := hC
  refine W.widen (k := Tc) (n := Ts) (by omega) (by omega) ?_
  have hr : meth.sig.returnType = some .boolean := hr.trans hty
  intro T hT Z
  obtain ⟨fs, hret, hrun, hended, hW, hframe⟩ := Z.leave (v := some (.int (x &&& 1))) (hlocks := hlocks) (fun h => by rw [hr] at h; cases h)
  have hmeth' : T.vm.method? m = some meth := Z.method'
  refine ⟨T.setFrames fs, ?_, .returned (some (.int (x &&& 1))), hrun, hended, ⟨⟨some (.int (x &&& 1)), n, K, I, P, rfl, hq, by show mRel b D cI cS n K I P T.heap; rw [hT]; exact hR⟩, hS.F (t := T.setFrames fs) hT⟩, locs, ⟨⟨_, rfl⟩, hW, hframe⟩, hS.2.2⟩
  show Steps p.tables e below (T.setTop (F0 m pc ls [.int x])) (T.setFrames fs)
  jvm_step Z.here [Z.here.top, hx, hb, hd.1, hmeth', hr, narrow]
  (try refine ⟨rfl, ?_⟩); (try refine ⟨rfl, ?_⟩)
  first | (intro acts; rw [hret _ acts rfl rfl rfl]) | rw [hret _ _ rfl rfl rfl]
  exact Steps.refl _
end MVO
/-- fewer locals known -/
def mSubL : List Value → List Value → Prop
  | [], _ => True
  | v :: L', L => (v = mX0 ∨ L.head? = some v) ∧ mSubL L' L.tail
theorem mSub_n {L : List Value} : mSubL [] L := trivial
theorem mSub_k {v : Value} {L L' : List Value} (t : mSubL L' L) : mSubL (v :: L') (v :: L) := ⟨Or.inr rfl, t⟩
theorem mSub_x {v : Value} {L L' : List Value} (t : mSubL L' L) : mSubL (mX0 :: L') (v :: L) := ⟨Or.inl rfl, t⟩
theorem mSubL.get : ∀ {L' L : List Value}, mSubL L' L → ∀ (i : Nat) (v : Value), L'[i]? = some v → v ≠ mX0 → L[i]? = some v
  | [], _, _, i, v, h, _ => by simp at h
  | w :: L', L, hs, i, v, h, hv => by
    obtain ⟨h1, h2⟩ := hs
    cases i with
    | zero =>
      have h : some w = some v := by simpa using h
      cases h
      rcases h1 with h1 | h1
      · exact absurd h1 hv
      · cases L with
        | nil => simp at h1
        | cons a L => simpa using h1
    | succ i =>
      have h : L'[i]? = some v := by simpa using h
      have := mSubL.get h2 i v h hv
      cases L with
      | nil => simp at this
      | cons a L => simpa using this
theorem mV_drop {X : Nat × (Nat → Int32)} {j : mMeth} {d bc bs pc : Nat} {L L' st : List Value} {n : Nat} {K : mK} {I : mI} {P : mP} {Q : mQ} (h : mSubL L' L) (k : mV X j d bc bs pc L' st n K I P Q) : mV X j d bc bs pc L st n K I P Q := by
  intro b D cI cS aK aV p l e R s m args below meth c H locs cells slots Tc Ts ls hC hR hS hL t1 t2 t3 t4
  exact k b D cI cS aK aV p l e R s m args below meth c H locs cells slots Tc Ts ls hC hR hS ⟨hL.1, hL.2.1, fun i v hv hx => hL.2.2 i v (h.get i v hv hx) hx⟩ t1 t2 t3 t4

/-! A SMALL MACHINE OVER A MEMORY OF INTS AND REFERENCES. Its cells are the new cells, in the order of their making: cell k lies at b + k. -/
abbrev mMeth : Type := MethodName × ByteArray × Nat × Option FieldType
abbrev mK : Type := Nat → Nat × Nat
abbrev mI : Type := Nat → Nat → Int32
abbrev mP : Type := Nat → Nat → Option Nat
abbrev mQ : Type := Option Value → Nat → mK → mI → mP → Prop
def mU {α : Type} (f : Nat → α) (k : Nat) (x : α) : Nat → α := fun j => if j = k then x else f j
def mW {α : Type} (I : Nat → Nat → α) (a i : Nat) (x : α) : Nat → Nat → α := mU I a (mU (I a) i x)
theorem mU_eq {α : Type} (f : Nat → α) (k : Nat) (x : α) : mU f k x k = x := by simp [mU]
theorem mU_ne {α : Type} (f : Nat → α) {k j : Nat} (x : α) (h : j ≠ k) : mU f k x j = f j := by simp [mU, h]
theorem mU_self {α : Type} (f : Nat → α) (k : Nat) : mU f k (f k) = f := by
  funext j
  by_cases h : j = k
  · rw [h, mU_eq]
  · rw [mU_ne _ _ h]
def mSh (b : Nat) (r : Option Nat) : Option Nat := r.map (b + ·)
/-- a small value at the machine: references are shifted, 'retAddr i' is the i-th old cell -/
def mEm (b : Nat) (aK : Nat → Nat) : Value → Value
  | .ref k => .ref (b + k)
  | .retAddr i => .ref (aK i)
  | v => v
theorem mEm_cat (b : Nat) (aK : Nat → Nat) (v : Value) : (mEm b aK v).category = v.category := by cases v <;> rfl
theorem mEm_cats (b : Nat) (aK : Nat → Nat) (st : List Value) : ((st.map (mEm b aK)).map fun v => v.category) = st.map fun v => v.category := by
  rw [List.map_map]
  exact List.map_congr_left (fun v _ => mEm_cat b aK v)
theorem mEm_rf (b : Nat) (aK : Nat → Nat) (r : Option Nat) : va_rf (mSh b r) = mEm b aK (va_rf r) := by cases r <;> rfl
/-- a cell: (0, n): n ints; (1, n): n references; (c + 2, n): an object of class c with n fields -/
def mE (b : Nat) (cI cS : ClassId) (k : Nat × Nat) (i : Nat → Int32) (p : Nat → Option Nat) : va_E := match k.1 with
  | 0 => .inl (cI, k.2, .inl i)
  | 1 => .inl (cS, k.2, .inr (.inr (.inr (.inr (fun j => mSh b (p j))))))
  | c + 2 => .inr (c, (List.range k.2).map (fun f => if mRf c f then va_rf (mSh b (p f)) else .int (i f)))
def mws (b : Nat) (cI cS : ClassId) (n : Nat) (K : mK) (I : mI) (P : mP) : va_W := (List.range n).map (fun k => (b + k, mE b cI cS (K k) (I k) (P k)))
theorem mws_get {b : Nat} {cI cS : ClassId} {n : Nat} {K : mK} {I : mI} {P : mP} {k : Nat} (h : k < n) : (mws b cI cS n K I P)[k]? = some (b + k, mE b cI cS (K k) (I k) (P k)) := by
  simp [mws, h]
theorem mws_inv {b : Nat} {cI cS : ClassId} {n : Nat} {K : mK} {I : mI} {P : mP} {k : Nat} {q : Nat × va_E} (h : (mws b cI cS n K I P)[k]? = some q) : k < n ∧ q = (b + k, mE b cI cS (K k) (I k) (P k)) := by
  have hk : k < n := by
    have := (List.getElem?_eq_some_iff.mp h).1
    simpa [mws] using this
  rw [mws_get hk] at h
  exact ⟨hk, (Option.some.inj h).symm⟩
theorem mws_set {b : Nat} {cI cS : ClassId} {n : Nat} {K : mK} {I : mI} {P : mP} {k : Nat} (h : k < n) (i : Nat → Int32) (p : Nat → Option Nat) : (mws b cI cS n K I P).set k (b + k, mE b cI cS (K k) i p) = mws b cI cS n K (mU I k i) (mU P k p) := by
  apply List.ext_getElem?
  intro j
  by_cases hj : j < n
  · rw [mws_get hj, List.getElem?_set]
    by_cases hk : k = j
    · subst hk
      rw [if_pos rfl, if_pos (by simp [mws]; exact h), mU_eq, mU_eq]
    · rw [if_neg hk, mws_get hj, mU_ne _ _ (Ne.symm hk), mU_ne _ _ (Ne.symm hk)]
  · have e1 : ((mws b cI cS n K I P).set k (b + k, mE b cI cS (K k) i p))[j]? = none := by
      rw [List.getElem?_eq_none_iff]
      simp [mws]; omega
    have e2 : (mws b cI cS n K (mU I k i) (mU P k p))[j]? = none := by
      rw [List.getElem?_eq_none_iff]
      simp [mws]; omega
    rw [e1, e2]
theorem mws_push {b : Nat} {cI cS : ClassId} {n : Nat} {K : mK} {I : mI} {P : mP} (k : Nat × Nat) (i : Nat → Int32) (p : Nat → Option Nat) : mws b cI cS n K I P ++ [(b + n, mE b cI cS k i p)] = mws b cI cS (n + 1) (mU K n k) (mU I n i) (mU P n p) := by
  unfold mws
  rw [List.range_succ, List.map_append]
  congr 1
  · apply List.map_congr_left
    intro j hj
    have hj : j < n := List.mem_range.mp hj
    rw [mU_ne _ _ (by omega), mU_ne _ _ (by omega), mU_ne _ _ (by omega)]
  · simp [mU_eq]
/-- the heap holds the memory -/
def mRel (b : Nat) (D : va_G) (cI cS : ClassId) (n : Nat) (K : mK) (I : mI) (P : mP) (H : Heap) : Prop := va_P D mcl (mws b cI cS n K I P) H ∧ H.size = b + n
theorem mws_D (b : Nat) (cI cS : ClassId) (n : Nat) (K : mK) (I : mI) (P : mP) : va_D (fun q => b ≤ q) (mws b cI cS n K I P) := by
  refine ⟨fun i j p q hi hj e => ?_, fun k q hk => ?_⟩
  · obtain ⟨-, rfl⟩ := mws_inv hi
    obtain ⟨-, rfl⟩ := mws_inv hj
    have e : b + i = b + j := e
    omega
  · obtain ⟨-, rfl⟩ := mws_inv hk
    exact Nat.le_add_right b k
/-- the locals, by their places; 'float 0' says nothing -/
abbrev mX0 : Value := .float 0
def mLoc (b : Nat) (aK : Nat → Nat) (ls : Array Slot) (nL : Nat) (L : List Value) : Prop := ls.size = nL ∧ lv_wf ls ∧ ∀ (i : Nat) (v : Value), L[i]? = some v → v ≠ mX0 → ls[i]? = some (.val (mEm b aK v))
def mLl (b : Nat) (aK : Nat → Nat) (L : List Value) : List (Nat × Value) := (List.range L.length).filterMap (fun i => match L[i]? with
  | some v => if v = mX0 then none else some (i, mEm b aK v)
  | none => none)
theorem mLl_mem {b : Nat} {aK : Nat → Nat} {L : List Value} {q : Nat × Value} : q ∈ mLl b aK L ↔ ∃ v, L[q.1]? = some v ∧ v ≠ mX0 ∧ q.2 = mEm b aK v := by
  obtain ⟨i, w⟩ := q
  constructor
  · intro h
    obtain ⟨k, -, hk⟩ := List.mem_filterMap.mp h
    cases hL : L[k]? with
    | none => simp [hL] at hk
    | some v =>
      by_cases hv : v = mX0
      · simp [hL, hv] at hk
      · simp [hL, hv] at hk
        obtain ⟨rfl, rfl⟩ := hk
        exact ⟨v, hL, hv, rfl⟩
  · rintro ⟨v, h1, h2, h3⟩
    refine List.mem_filterMap.mpr ⟨i, List.mem_range.mpr (List.getElem?_eq_some_iff.mp h1).1, ?_⟩
    have h1 : L[i]? = some v := h1
    have h3 : w = mEm b aK v := h3
    simp [h1, h2, h3]
theorem mLoc.lv {b : Nat} {aK : Nat → Nat} {ls : Array Slot} {nL : Nat} {L : List Value} (h : mLoc b aK ls nL L) : lv_has ls nL (mLl b aK L) := by
  refine ⟨h.1, h.2.1, fun q hq => ?_⟩
  obtain ⟨v, h1, h2, h3⟩ := mLl_mem.mp hq
  rw [h3]
  exact h.2.2 q.1 v h1 h2
/-- nothing of two slots ends where a store begins -/
def mOk (L : List Value) : Nat → Bool
  | 0 => true
  | i + 1 => match L[i]? with
    | some v => v.category == 1
    | none => true
theorem mLoc.set1 {b : Nat} {aK : Nat → Nat} {ls : Array Slot} {nL : Nat} {L : List Value} {i : Nat} {v : Value} (hok : mOk L i = true) (h : lv_has ls nL ((i, mEm b aK v) :: (mLl b aK L).filter (fun q => !(q.1 == i) && !(q.1 + 1 == i && q.2.category == 2)))) : mLoc b aK ls nL (L.set i v) := by
  refine ⟨h.1, h.2.1, fun j w hj hw => ?_⟩
  rw [List.getElem?_set] at hj
  by_cases hij : i = j
  · subst hij
    rw [if_pos rfl] at hj
    by_cases hl : i < L.length
    · rw [if_pos hl] at hj
      cases hj
      exact h.2.2 (i, mEm b aK v) List.mem_cons_self
    · rw [if_neg hl] at hj
      cases hj
  · rw [if_neg hij] at hj
    refine h.2.2 (j, mEm b aK w) (List.mem_cons_of_mem _ (List.mem_filter.mpr ⟨mLl_mem.mpr ⟨w, hj, hw, rfl⟩, ?_⟩))
    have h1 : (j == i) = false := by simp; exact fun e => hij e.symm
    have h2 : (j + 1 == i && (mEm b aK w).category == 2) = false := by
      by_cases e : j + 1 = i
      · subst e
        have hok : (match L[j]? with | some v => v.category == 1 | none => true) = true := hok
        rw [hj] at hok
        have hc : w.category = 1 := by simpa using hok
        rw [mEm_cat, hc]
        simp
      · simp [e]
    show (!(j == i) && !(j + 1 == i && (mEm b aK w).category == 2)) = true
    rw [h1, h2]
    rfl
theorem mLoc.set2 {b : Nat} {aK : Nat → Nat} {ls : Array Slot} {nL : Nat} {L : List Value} {i : Nat} {v : Value} (hok : mOk L i = true) (h : lv_has ls nL ((i, mEm b aK v) :: (mLl b aK L).filter (fun q => !(q.1 == i) && (!(q.1 == i + 1) && !(q.1 + 1 == i && q.2.category == 2))))) : mLoc b aK ls nL ((L.set i v).set (i + 1) mX0) := by
  refine ⟨h.1, h.2.1, fun j w hj hw => ?_⟩
  rw [List.getElem?_set] at hj
  by_cases h0 : i + 1 = j
  · rw [if_pos h0] at hj
    by_cases hl : i + 1 < (L.set i v).length
    · rw [if_pos hl] at hj
      cases hj
      exact absurd rfl hw
    · rw [if_neg hl] at hj
      cases hj
  rw [if_neg h0, List.getElem?_set] at hj
  by_cases hij : i = j
  · subst hij
    rw [if_pos rfl] at hj
    by_cases hl : i < L.length
    · rw [if_pos hl] at hj
      cases hj
      exact h.2.2 (i, mEm b aK v) List.mem_cons_self
    · rw [if_neg hl] at hj
      cases hj
  · rw [if_neg hij] at hj
    refine h.2.2 (j, mEm b aK w) (List.mem_cons_of_mem _ (List.mem_filter.mpr ⟨mLl_mem.mpr ⟨w, hj, hw, rfl⟩, ?_⟩))
    have h1 : (j == i) = false := by simp; exact fun e => hij e.symm
    have h3 : (j == i + 1) = false := by simp; exact fun e => h0 e.symm
    have h2 : (j + 1 == i && (mEm b aK w).category == 2) = false := by
      by_cases e : j + 1 = i
      · subst e
        have hok : (match L[j]? with | some v => v.category == 1 | none => true) = true := hok
        rw [hj] at hok
        have hc : w.category = 1 := by simpa using hok
        rw [mEm_cat, hc]
        simp
      · simp [e]
    show (!(j == i) && (!(j == i + 1) && !(j + 1 == i && (mEm b aK w).category == 2))) = true
    rw [h1, h2, h3]
    rfl
theorem mLoc.at {b : Nat} {aK : Nat → Nat} {ls : Array Slot} {nL : Nat} {L : List Value} {i : Nat} {v : Value} (h : mLoc b aK ls nL L) (hv : L[i]? = some v) (hx : v ≠ mX0) : ls[i]? = some (.val (mEm b aK v)) := h.2.2 i v hv hx
/-- a method's arguments in their places -/
def mArgs (as : List Value) : List Value := as.flatMap fun v => if v.category = 2 then [v, mX0] else [v]
theorem mArgs_lv (b : Nat) (aK : Nat → Nat) : ∀ (as : List Value) (k i : Nat) (v : Value), (mArgs as)[i]? = some v → v ≠ mX0 → (k + i, mEm b aK v) ∈ lv_args k (as.map (mEm b aK))
  | [], k, i, v, h, _ => by simp [mArgs] at h
  | a :: as, k, i, v, h, hv => by
    have ih := mArgs_lv b aK as
    by_cases hc : a.category = 2
    · have e : mArgs (a :: as) = a :: mX0 :: mArgs as := by simp [mArgs, hc]
      rw [e] at h
      have e2 : lv_args k ((a :: as).map (mEm b aK)) = (k, mEm b aK a) :: lv_args (k + 2) (as.map (mEm b aK)) := by simp [lv_args, mEm_cat, hc]
      rw [e2]
      match i, h with
      | 0, h => cases h; exact List.mem_cons_self
      | 1, h => cases h; exact absurd rfl hv
      | i + 2, h =>
        have := ih (k + 2) i v h hv
        rw [show k + (i + 2) = k + 2 + i by omega]
        exact List.mem_cons_of_mem _ this
    · have e : mArgs (a :: as) = a :: mArgs as := by simp [mArgs, hc]
      rw [e] at h
      have e2 : lv_args k ((a :: as).map (mEm b aK)) = (k, mEm b aK a) :: lv_args (k + 1) (as.map (mEm b aK)) := by simp [lv_args, mEm_cat, hc]
      rw [e2]
      match i, h with
      | 0, h => cases h; exact List.mem_cons_self
      | i + 1, h =>
        have := ih (k + 1) i v h hv
        rw [show k + (i + 1) = k + 1 + i by omega]
        exact List.mem_cons_of_mem _ this
theorem mArgs_len (b : Nat) (aK : Nat → Nat) (as : List Value) : (lg_sl (as.map (mEm b aK))).length = (mArgs as).length := by
  induction as with
  | nil => rfl
  | cons a as ih =>
    by_cases hc : a.category = 2
    · simp [lg_sl, mArgs, mEm_cat, hc] at ih ⊢
      omega
    · simp [lg_sl, mArgs, mEm_cat, hc] at ih ⊢
      omega

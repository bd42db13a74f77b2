/-! TEXT: the law's code on both sides -/
def CR (C M : mI) (u c : Nat) : Prop := C 114 3 = nI u ∧ M 119 29 = nI c ∧ cMi (C 116) u = c ∧ (∀ i, i < u → cOne (C 116) (fun k => M 136 (800 + k)) (fun k => M 137 (800 + k)) i) ∧ c ≤ 400
theorem wd_op {op arg : Nat} (ho : op < 16) (ha : arg ≤ 9999) : nI (arg * 16 + op) &&& 15 = nI op ∧ nI (arg * 16 + op) >>> (4 &&& 31) = nI arg := by
  constructor
  · rw [pk_andN (by omega) 4 (by decide)]
    congr 1
    show (arg * 16 + op) % 16 = op
    omega
  · rw [pk_shrN (by omega) _ 4 (by decide)]
    congr 1
    show (arg * 16 + op) / 16 = arg
    omega
theorem CR_u {C M : mI} {u c : Nat} (h : CR C M u c) : u ≤ c := by
  have := cMi_mono (C 116) u 0
  rw [Nat.zero_add, h.2.2.1] at this
  have e : cMi (C 116) 0 = 0 := rfl
  omega
theorem emitC {C : mI} {u : Nat} (hu : u < 400) (e3 : C 114 3 = nI u) {x y : Int32} {op arg : Nat} (hx : x = nI op) (hy : y = nI arg) : r6_emit_114 C x y = some (mW (mW C 116 u (nI (arg * 16 + op))) 114 3 (nI (u + 1))) := by
  unfold r6_emit_114
  rw [e3, hx, hy, if_neg (show ¬ (400 : Int32) ≤ nI u from nI_ge (b := 400) hu (by decide)), show (16 : Int32) = nI 16 from rfl, nI_mul, nI_add, mSto_n hu (by decide), Option.bind_some, mW_ne _ _ _ (show 114 ≠ 116 by decide), e3, nI_1, Option.bind_some]
theorem emitM {M : mI} {c : Nat} (hc : c < 400) (e29 : M 119 29 = nI c) (x y : Int32) : r10_emits M x y = some (mW (mW (mW M 136 (800 + c) x) 137 (800 + c) y) 119 29 (nI (c + 1))) := by
  unfold r10_emits
  rw [e29, nI_addl (show (800 : Int32) = nI 800 by decide), mSto_n (by omega) (by decide), Option.bind_some, mW_ne _ _ _ (show 119 ≠ 136 by decide), e29, nI_addl (show (800 : Int32) = nI 800 by decide), mSto_n (by omega) (by decide), Option.bind_some, mW_ne _ _ _ (show 119 ≠ 137 by decide), mW_ne _ _ _ (show 119 ≠ 136 by decide), e29, nI_1]
theorem cMi_off {f : Nat → Int32} {u : Nat} {x : Int32} : ∀ i, i ≤ u → cMi (mU f u x) i = cMi f i := fun i hi => cMi_rg (code := f) (code' := mU f u x) (u := u) (fun k hk => mU_ne _ _ (by omega)) i hi
theorem cOne_off {f op ar op' ar' : Nat → Int32} {u c : Nat} {x : Int32} (hc : cMi f u ≤ c) (h1 : ∀ k, k < c → op' k = op k) (h2 : ∀ k, k < c → ar' k = ar k) {i : Nat} (hi : i < u) (h : cOne f op ar i) : cOne (mU f u x) op' ar' i := by
  unfold cOne at *
  have lt := cMi_lt (code := f) hi
  rw [cMi_off i (by omega), mU_ne _ _ (by omega)]
  by_cases z : f i &&& 15 = 5
  · have le := cMi_le (code := f) (show i + 1 ≤ u by omega)
    have e : cMi f (i + 1) = cMi f i + 2 := by rw [cMi, if_pos z]
    rw [if_pos z] at h ⊢
    rw [h1 _ (by omega), h2 _ (by omega), h1 _ (by omega)]
    exact h
  · rw [if_neg z] at h ⊢
    rw [h1 _ (by omega), h2 _ (by omega)]
    exact h
/-- what an emission leaves -/
theorem emit_s {C M : mI} {u c : Nat} (h : CR C M u c) (hc : c < 400) {op arg : Nat} (ho : op < 16) (h5 : op ≠ 5) (ha : arg ≤ 9999) {x y x' y' : Int32} (hx : x = nI op) (hy : y = nI arg) (hx' : x' = nI op) (hy' : y' = nI arg) : ∃ C' M', r6_emit_114 C x y = some C' ∧ r10_emits M x' y' = some M' ∧ CR C' M' (u + 1) (c + 1) ∧ C' 116 = mU (C 116) u (nI (arg * 16 + op)) ∧ (∀ a, a ≠ 114 → a ≠ 116 → C' a = C a) ∧ (∀ k, k ≠ 3 → C' 114 k = C 114 k) ∧ (∀ a, a ≠ 119 → a ≠ 136 → a ≠ 137 → M' a = M a) ∧ (∀ k, k ≠ 29 → M' 119 k = M 119 k) ∧ FrM M M' := by
  have hu := CR_u h
  obtain ⟨e3, e29, em, ho1, hc4⟩ := h
  obtain ⟨w1, w2⟩ := wd_op ho ha
  have r116 : (mW (mW C 116 u (nI (arg * 16 + op))) 114 3 (nI (u + 1))) 116 = mU (C 116) u (nI (arg * 16 + op)) := by rw [mW_ne _ _ _ (by decide), mW_row]
  have r136 : ∀ k, (mW (mW (mW M 136 (800 + c) x') 137 (800 + c) y') 119 29 (nI (c + 1))) 136 (800 + k) = if k = c then x' else M 136 (800 + k) := fun k => by
    rw [mW_ne _ _ _ (by decide), mW_ne _ _ _ (by decide), mW_rd, if_pos rfl]
    by_cases e : k = c
    · rw [if_pos (by omega), if_pos e]
    · rw [if_neg (by omega), if_neg e]
  have r137 : ∀ k, (mW (mW (mW M 136 (800 + c) x') 137 (800 + c) y') 119 29 (nI (c + 1))) 137 (800 + k) = if k = c then y' else M 137 (800 + k) := fun k => by
    rw [mW_ne _ _ _ (by decide), mW_rd, if_pos rfl, mW_ne _ _ _ (by decide)]
    by_cases e : k = c
    · rw [if_pos (by omega), if_pos e]
    · rw [if_neg (by omega), if_neg e]
  have n5 : ¬ nI (arg * 16 + op) &&& 15 = 5 := by
    rw [w1, nI_eqk 5 5 rfl (by decide) (by omega)]; exact h5
  refine ⟨_, _, emitC (by omega) e3 hx hy, emitM hc e29 x' y', ⟨mW_at _ _ _ _, mW_at _ _ _ _, ?_, fun i hi => ?_, by omega⟩, r116, fun a h4 h6 => by rw [mW_ne _ _ _ h4, mW_ne _ _ _ h6], fun k hk => by rw [mW_off _ _ hk, mW_ne _ _ _ (by decide)], fun a h9 h6 h7 => by rw [mW_ne _ _ _ h9, mW_ne _ _ _ h7, mW_ne _ _ _ h6], fun k hk => by rw [mW_off _ _ hk, mW_ne _ _ _ (by decide), mW_ne _ _ _ (by decide)], FrM_t (FrM_w (.inr (.inr (.inr (.inr (.inl ⟨.inl rfl, by omega⟩))))) (by decide)) (FrM_t (FrM_w (.inr (.inr (.inr (.inr (.inl ⟨.inr rfl, by omega⟩))))) (by decide)) (FrM_9 (by omega)))⟩
  · rw [r116]
    show cMi (mU (C 116) u _) u + (if (mU (C 116) u (nI (arg * 16 + op))) u &&& 15 = 5 then 2 else 1) = c + 1
    rw [cMi_off u (Nat.le_refl _), em, mU_eq, if_neg n5]
  · rw [r116]
    by_cases ei : i = u
    · subst ei
      unfold cOne
      rw [mU_eq, if_neg n5, cMi_off i (Nat.le_refl _), em]
      show (mW (mW (mW M 136 (800 + c) x') 137 (800 + c) y') 119 29 (nI (c + 1))) 136 (800 + c) = _ ∧ (mW (mW (mW M 136 (800 + c) x') 137 (800 + c) y') 119 29 (nI (c + 1))) 137 (800 + c) = _
      rw [r136, r137, if_pos rfl, if_pos rfl, w1, w2, hx', hy']
      exact ⟨rfl, rfl⟩
    · refine cOne_off (c := c) (by omega) (fun k hk => ?_) (fun k hk => ?_) (show i < u by omega) (ho1 i (by omega))
      · show (mW (mW (mW M 136 (800 + c) x') 137 (800 + c) y') 119 29 (nI (c + 1))) 136 (800 + k) = _
        rw [r136, if_neg (by omega)]
      · show (mW (mW (mW M 136 (800 + c) x') 137 (800 + c) y') 119 29 (nI (c + 1))) 137 (800 + k) = _
        rw [r137, if_neg (by omega)]
/-- a part: one of the class's, two of the reference's -/
theorem part_s {C M : mI} {u c : Nat} (h : CR C M u c) (hc : c + 1 < 400) {arg : Nat} (ha : arg ≤ 9999) {y : Int32} (hy : y = nI arg) : ∃ C', r6_emit_114 C 5 y = some C' ∧ C' 116 = mU (C 116) u (nI (arg * 16 + 5)) ∧ (∀ a, a ≠ 114 → a ≠ 116 → C' a = C a) ∧ (∀ k, k ≠ 3 → C' 114 k = C 114 k) ∧ ∃ M1, r10_emits M 0 y = some M1 ∧ (∀ a, a ≠ 119 → a ≠ 136 → a ≠ 137 → M1 a = M a) ∧ (∀ k, k ≠ 29 → M1 119 k = M 119 k) ∧ FrM M M1 ∧ ∀ M2 : mI, M2 119 29 = M1 119 29 → (∀ a, a ≠ 119 → M2 a = M1 a) → ∃ M3, r10_emits M2 5 0 = some M3 ∧ CR C' M3 (u + 1) (c + 2) ∧ (∀ a, a ≠ 119 → a ≠ 136 → a ≠ 137 → M3 a = M2 a) ∧ (∀ k, k ≠ 29 → M3 119 k = M2 119 k) ∧ FrM M2 M3 := by
  have hu := CR_u h
  obtain ⟨e3, e29, em, ho1, hc4⟩ := h
  obtain ⟨w1, w2⟩ := wd_op (op := 5) (by decide) ha
  have is5 : nI (arg * 16 + 5) &&& 15 = 5 := w1
  have r116 : (mW (mW C 116 u (nI (arg * 16 + 5))) 114 3 (nI (u + 1))) 116 = mU (C 116) u (nI (arg * 16 + 5)) := by rw [mW_ne _ _ _ (by decide), mW_row]
  have fr : ∀ (M : mI) (c : Nat) (x y z : Int32), FrM M (mW (mW (mW M 136 (800 + c) x) 137 (800 + c) y) 119 29 z) := fun M c x y z => FrM_t (FrM_w (.inr (.inr (.inr (.inr (.inl ⟨.inl rfl, by omega⟩))))) (by decide)) (FrM_t (FrM_w (.inr (.inr (.inr (.inr (.inl ⟨.inr rfl, by omega⟩))))) (by decide)) (FrM_9 (by omega)))
  refine ⟨_, emitC (by omega) e3 (op := 5) rfl hy, r116, fun a h4 h6 => by rw [mW_ne _ _ _ h4, mW_ne _ _ _ h6], fun k hk => by rw [mW_off _ _ hk, mW_ne _ _ _ (by decide)], _, emitM (by omega) e29 0 y, fun a h9 h6 h7 => by rw [mW_ne _ _ _ h9, mW_ne _ _ _ h7, mW_ne _ _ _ h6], fun k hk => by rw [mW_off _ _ hk, mW_ne _ _ _ (by decide), mW_ne _ _ _ (by decide)], fr _ _ _ _ _, fun M2 h29 hrow => ?_⟩
  have e29' : M2 119 29 = nI (c + 1) := by rw [h29, mW_at]
  have p136 : ∀ k, M2 136 (800 + k) = if k = c then 0 else M 136 (800 + k) := fun k => by
    rw [hrow 136 (by decide), mW_ne _ _ _ (by decide), mW_ne _ _ _ (by decide), mW_rd, if_pos rfl]
    by_cases e : k = c
    · rw [if_pos (by omega), if_pos e]
    · rw [if_neg (by omega), if_neg e]
  have p137 : ∀ k, M2 137 (800 + k) = if k = c then y else M 137 (800 + k) := fun k => by
    rw [hrow 137 (by decide), mW_ne _ _ _ (by decide), mW_rd, if_pos rfl, mW_ne _ _ _ (by decide)]
    by_cases e : k = c
    · rw [if_pos (by omega), if_pos e]
    · rw [if_neg (by omega), if_neg e]
  have r136 : ∀ k, (mW (mW (mW M2 136 (800 + (c + 1)) 5) 137 (800 + (c + 1)) 0) 119 29 (nI (c + 1 + 1))) 136 (800 + k) = if k = c + 1 then 5 else M2 136 (800 + k) := fun k => by
    rw [mW_ne _ _ _ (by decide), mW_ne _ _ _ (by decide), mW_rd, if_pos rfl]
    by_cases e : k = c + 1
    · rw [if_pos (by omega), if_pos e]
    · rw [if_neg (by omega), if_neg e]
  have r137 : ∀ k, (mW (mW (mW M2 136 (800 + (c + 1)) 5) 137 (800 + (c + 1)) 0) 119 29 (nI (c + 1 + 1))) 137 (800 + k) = if k = c + 1 then 0 else M2 137 (800 + k) := fun k => by
    rw [mW_ne _ _ _ (by decide), mW_rd, if_pos rfl, mW_ne _ _ _ (by decide)]
    by_cases e : k = c + 1
    · rw [if_pos (by omega), if_pos e]
    · rw [if_neg (by omega), if_neg e]
  refine ⟨_, emitM (by omega) e29' 5 0, ⟨mW_at _ _ _ _, mW_at _ _ _ _, ?_, fun i hi => ?_, by omega⟩, fun a h9 h6 h7 => by rw [mW_ne _ _ _ h9, mW_ne _ _ _ h7, mW_ne _ _ _ h6], fun k hk => by rw [mW_off _ _ hk, mW_ne _ _ _ (by decide), mW_ne _ _ _ (by decide)], fr _ _ _ _ _⟩
  · rw [r116]
    show cMi (mU (C 116) u _) u + (if (mU (C 116) u (nI (arg * 16 + 5))) u &&& 15 = 5 then 2 else 1) = c + 2
    rw [cMi_off u (Nat.le_refl _), em, mU_eq, if_pos is5]
  · rw [r116]
    by_cases ei : i = u
    · subst ei
      unfold cOne
      rw [mU_eq, if_pos is5, cMi_off i (Nat.le_refl _), em]
      show (mW (mW (mW M2 136 (800 + (c + 1)) 5) 137 (800 + (c + 1)) 0) 119 29 (nI (c + 1 + 1))) 136 (800 + c) = 0 ∧ (mW (mW (mW M2 136 (800 + (c + 1)) 5) 137 (800 + (c + 1)) 0) 119 29 (nI (c + 1 + 1))) 137 (800 + c) = _ ∧ (mW (mW (mW M2 136 (800 + (c + 1)) 5) 137 (800 + (c + 1)) 0) 119 29 (nI (c + 1 + 1))) 136 (800 + (c + 1)) = 5
      rw [r136, r137, r136, if_neg (by omega), if_neg (by omega), if_pos rfl, p136, p137, if_pos rfl, if_pos rfl, w2, hy]
      exact ⟨rfl, rfl, rfl⟩
    · refine cOne_off (c := c) (by omega) (fun k hk => ?_) (fun k hk => ?_) (show i < u by omega) (ho1 i (by omega))
      · show (mW (mW (mW M2 136 (800 + (c + 1)) 5) 137 (800 + (c + 1)) 0) 119 29 (nI (c + 1 + 1))) 136 (800 + k) = _
        rw [r136, if_neg (by omega), p136, if_neg (by omega)]
      · show (mW (mW (mW M2 136 (800 + (c + 1)) 5) 137 (800 + (c + 1)) 0) 119 29 (nI (c + 1 + 1))) 137 (800 + k) = _
        rw [r137, if_neg (by omega), p137, if_neg (by omega)]
/-! what the code leaves on the heap -/
theorem cTyp_snoc (code : Nat → Int32) : ∀ n i L, cTyp code (n + 1) i L = (cTyp code n i L).bind fun T => cTy (code (i + n)) T
  | 0, i, L => by
    show (cTy (code i) L).bind (fun T => some T) = cTy (code (i + 0)) L
    rw [Nat.add_zero]
    cases cTy (code i) L <;> rfl
  | n + 1, i, L => by
    show (cTy (code i) L).bind (fun T => cTyp code (n + 1) (i + 1) T) = ((cTy (code i) L).bind fun T => cTyp code n (i + 1) T).bind fun T => cTy (code (i + (n + 1))) T
    cases cTy (code i) L with
    | none => rfl
    | some T =>
      show cTyp code (n + 1) (i + 1) T = (cTyp code n (i + 1) T).bind fun T => cTy (code (i + (n + 1))) T
      rw [cTyp_snoc code n (i + 1) T, show i + 1 + n = i + (n + 1) by omega]
/-- from u0 to u the code takes the heap L to T -/
def Ty (f : Nat → Int32) (u0 u : Nat) (L T : List Bool) : Prop := u0 ≤ u ∧ cTyp f (u - u0) u0 L = some T
theorem Ty_0 (f : Nat → Int32) (u : Nat) (L : List Bool) : Ty f u u L L := ⟨Nat.le_refl _, by rw [Nat.sub_self]; rfl⟩
theorem Ty_emit {f : Nat → Int32} {u0 u : Nat} {L T T' : List Bool} {w : Int32} (h : Ty f u0 u L T) (hw : cTy w T = some T') : Ty (mU f u w) u0 (u + 1) L T' := by
  refine ⟨by have := h.1; omega, ?_⟩
  have le := h.1
  rw [show u + 1 - u0 = (u - u0) + 1 by omega, cTyp_snoc, cTyp_rg (code := f) (code' := mU f u w) (u := u) (fun k hk => mU_ne _ _ (by omega)) _ _ _ (by omega), h.2, Option.bind_some, show u0 + (u - u0) = u by omega, mU_eq, hw]
theorem Ty_ext {f f' : Nat → Int32} {u0 u : Nat} {L T : List Bool} (h : Ty f u0 u L T) (he : ∀ i, i < u → f' i = f i) : Ty f' u0 u L T := ⟨h.1, by rw [cTyp_rg (code := f) (code' := f') (u := u) (fun k hk => he k hk) _ _ _ (by have := h.1; omega)]; exact h.2⟩
theorem cTy_num {arg : Nat} (ha : arg ≤ 9999) {L : List Bool} (hL : L.length < 31) : cTy (nI (arg * 16 + 0)) L = some (false :: L) := by
  unfold cTy
  rw [(wd_op (op := 0) (by decide) ha).1, if_pos nI_0, if_pos hL]
theorem cTy_val {arg : Nat} (ha : arg < 12) {L : List Bool} (hL : L.length < 31) : cTy (nI (arg * 16 + 1)) L = some (false :: L) := by
  obtain ⟨w1, w2⟩ := wd_op (op := 1) (arg := arg) (by decide) (by omega)
  unfold cTy
  rw [w1, if_neg (by decide), if_pos (show nI 1 = 1 from rfl), if_pos ⟨hL, by rw [w2]; exact nI_pos (by omega), by rw [w2]; exact nI_ge (b := 12) ha (by decide)⟩]
theorem cTy_part {arg : Nat} (ha : arg ≤ 9999) (h0 : arg ≠ 0) {a : Bool} {L : List Bool} : cTy (nI (arg * 16 + 5)) (a :: L) = some (false :: L) := by
  obtain ⟨w1, w2⟩ := wd_op (op := 5) (arg := arg) (by decide) ha
  unfold cTy
  rw [w1, if_neg (by decide), if_neg (by decide), if_pos (show nI 5 = 5 from rfl)]
  show (if nI (arg * 16 + 5) >>> (4 &&& 31) = 0 then none else some (false :: L)) = _
  rw [w2, if_neg (nI_ne0 (by omega) (by omega))]
theorem cTy_sum {op : Nat} (ho : op = 2 ∨ op = 3 ∨ op = 4) {a b : Bool} {L : List Bool} : cTy (nI (0 * 16 + op)) (a :: b :: L) = some (false :: L) := by
  rcases ho with rfl | rfl | rfl <;> rfl
theorem cTy_cmp {op : Nat} (ho : op = 6 ∨ op = 7 ∨ op = 8) {a b : Bool} {L : List Bool} : cTy (nI (0 * 16 + op)) (a :: b :: L) = some (true :: L) := by
  rcases ho with rfl | rfl | rfl <;> rfl
theorem cTy_not {L : List Bool} : cTy (nI (0 * 16 + 9)) (true :: L) = some (true :: L) := rfl
theorem cTy_jn {op : Nat} (ho : op = 10 ∨ op = 11) {L : List Bool} : cTy (nI (0 * 16 + op)) (true :: true :: L) = some (true :: L) := by
  rcases ho with rfl | rfl <;> rfl

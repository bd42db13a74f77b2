/-! TUNE: twice, rises, fingers -/
def alk (t : Nat → Int32) (n i j : Nat) : Nat → Nat → Nat
  | 0, y => y
  | f + 1, y => if n ≤ max i j + y then y else if t (i + y) - t i = t (j + y) - t j then alk t n i j f (y + 1) else y
theorem alk_sym (t : Nat → Int32) (n i j : Nat) : ∀ f y, alk t n i j f y = alk t n j i f y
  | 0, y => rfl
  | f + 1, y => by
    unfold alk
    rw [Nat.max_comm, alk_sym t n i j f (y + 1)]
    by_cases w : n ≤ max j i + y
    · rw [if_pos w, if_pos w]
    rw [if_neg w, if_neg w]
    by_cases z : t (i + y) - t i = t (j + y) - t j
    · rw [if_pos z, if_pos z.symm]
    · rw [if_neg z, if_neg (fun q => z q.symm)]
theorem alk_le (t : Nat → Int32) (n i j : Nat) : ∀ f y, max i j + y ≤ n → y ≤ alk t n i j f y ∧ max i j + alk t n i j f y ≤ n
  | 0, y, h => ⟨Nat.le_refl _, h⟩
  | f + 1, y, h => by
    unfold alk
    by_cases a : n ≤ max i j + y
    · rw [if_pos a]; omega
    · rw [if_neg a]
      by_cases z : t (i + y) - t i = t (j + y) - t j
      · rw [if_pos z]
        have := alk_le t n i j f (y + 1) (by omega)
        omega
      · rw [if_neg z]; omega
theorem alk_fuel (t : Nat → Int32) (n i j : Nat) : ∀ f y, n ≤ max i j + y + f → ∀ d, alk t n i j (f + d) y = alk t n i j f y
  | 0, y, h, d => by
    cases d with
    | zero => rfl
    | succ d =>
      rw [Nat.zero_add]
      show (if n ≤ max i j + y then y else _) = y
      rw [if_pos (by omega)]
  | f + 1, y, h, d => by
    rw [show f + 1 + d = (f + d) + 1 by omega]
    unfold alk
    rw [alk_fuel t n i j f (y + 1) (by omega) d]
def Alk (t : Nat → Int32) (n i j : Nat) : Nat := alk t n i j 20 1
theorem alkM {M : mI} {n i j : Nat} (hn : n ≤ 16) (e : M 119 48 = nI n) (hi : i < n) (hj : j < n) : r10_alikeFrom M (nI i) (nI j) = some (nI (Alk (M 146) n i j)) := by
  have go : ∀ f y, 1 ≤ y → max i j + y ≤ n → n ≤ max i j + y + f → l10_alikeFrom_2 M (nI i) (nI j) (f + 1) (nI y) = some (nI (alk (M 146) n i j (f + 1) y)) := by
    intro f
    induction f with
    | zero =>
      intro y h1 h2 h3
      unfold alk
      rw [l10_alikeFrom_2, e, nI_add, nI_add]
      by_cases a : n ≤ i + y
      · rw [if_pos (nI_le a (by omega)), if_pos (by omega)]
      · rw [if_neg (nI_ge (by omega) (by omega)), if_pos (nI_le (by omega) (by omega)), if_pos (by omega)]
    | succ f ih =>
      intro y h1 h2 h3
      have un : alk (M 146) n i j (f + 1 + 1) y = if n ≤ max i j + y then y else if M 146 (i + y) - M 146 i = M 146 (j + y) - M 146 j then alk (M 146) n i j (f + 1) (y + 1) else y := rfl
      rw [un, l10_alikeFrom_2, e, nI_add, nI_add]
      by_cases a : n ≤ i + y
      · rw [if_pos (nI_le a (by omega)), if_pos (by omega)]
      · rw [if_neg (nI_ge (by omega) (by omega))]
        by_cases b : n ≤ j + y
        · rw [if_pos (nI_le b (by omega)), if_pos (by omega)]
        · rw [if_neg (nI_ge (by omega) (by omega)), if_neg (by omega), mLd_n (by omega) (by decide), Option.bind_some, mLd_n (by omega) (by decide), Option.bind_some, mLd_n (by omega) (by decide), Option.bind_some, mLd_n (by omega) (by decide), Option.bind_some]
          by_cases z : M 146 (i + y) - M 146 i = M 146 (j + y) - M 146 j
          · rw [if_pos z, if_pos z, nI_1]
            by_cases c : max i j + (y + 1) ≤ n
            · exact ih (y + 1) (by omega) c (by omega)
            · omega
          · rw [if_neg z, if_neg z]
  have := go (FU - 1) 1 (by omega) (by omega) (by have := FU_lt (n := 100) (by omega); omega)
  unfold r10_alikeFrom
  have fu := FU_lt (n := 100) (by omega)
  rw [show FU - 1 + 1 = FU by omega] at this
  rw [show l10_alikeFrom_2 M (nI i) (nI j) FU 1 = _ from this, Option.bind_some]
  unfold Alk
  rw [show FU = 20 + (FU - 20) by omega, alk_fuel _ _ _ _ 20 1 (by omega)]
theorem alkC {C : mI} {n i j : Nat} (hn : n ≤ 16) (e : C 27 5 = nI n) (hij : i < j) (hj : j < n) : r1_goAlike C (nI i) (nI j) = some (nI (Alk (C 28) n i j)) := by
  have go : ∀ f y, j + y ≤ n → n ≤ j + y + f → l1_goAlike_2 C (nI i) (nI j) (f + 1) (nI y) = some (nI (alk (C 28) n i j (f + 1) y)) := by
    intro f
    induction f with
    | zero =>
      intro y h2 h3
      unfold alk
      rw [l1_goAlike_2, e, nI_add, if_pos (nI_le (by omega) (by omega)), if_pos (by omega)]
    | succ f ih =>
      intro y h2 h3
      have un : alk (C 28) n i j (f + 1 + 1) y = if n ≤ max i j + y then y else if C 28 (i + y) - C 28 i = C 28 (j + y) - C 28 j then alk (C 28) n i j (f + 1) (y + 1) else y := rfl
      rw [un, l1_goAlike_2, e, nI_add, nI_add]
      by_cases b : n ≤ j + y
      · rw [if_pos (nI_le b (by omega)), if_pos (by omega)]
      · rw [if_neg (nI_ge (by omega) (by omega)), if_neg (by omega), mLd_n (by omega) (by decide), Option.bind_some, mLd_n (by omega) (by decide), Option.bind_some, mLd_n (by omega) (by decide), Option.bind_some, mLd_n (by omega) (by decide), Option.bind_some]
        by_cases z : C 28 (i + y) - C 28 i = C 28 (j + y) - C 28 j
        · rw [if_pos z, if_pos z, nI_1]
          exact ih (y + 1) (by omega) (by omega)
        · rw [if_neg z, if_neg z]
  have fu := FU_lt (n := 100) (by omega)
  have := go (FU - 1) 0 (by omega) (by omega)
  rw [show FU - 1 + 1 = FU by omega] at this
  unfold r1_goAlike
  rw [show l1_goAlike_2 C (nI i) (nI j) FU 0 = _ from this, Option.bind_some]
  have st : alk (C 28) n i j FU 0 = alk (C 28) n i j (FU - 1) 1 := by
    rw [show FU = (FU - 1) + 1 by omega]
    show (if n ≤ max i j + 0 then 0 else if C 28 (i + 0) - C 28 i = C 28 (j + 0) - C 28 j then alk (C 28) n i j (FU - 1 + 1 - 1) (0 + 1) else 0) = _
    rw [if_neg (by omega), Nat.add_zero, Nat.add_zero, if_pos (by rw [Int32.sub_self, Int32.sub_self])]
  unfold Alk
  rw [st, show FU - 1 = 20 + (FU - 21) by omega, alk_fuel _ _ _ _ 20 1 (by omega)]
theorem Alk_eq {t t' : Nat → Int32} {n i j : Nat} (hn : n ≤ 16) (h : eqOn 16 t t') (hi : i < n) (hj : j < n) : Alk t n i j = Alk t' n i j := by
  have go : ∀ f y, alk t n i j f y = alk t' n i j f y := by
    intro f
    induction f with
    | zero => intro y; rfl
    | succ f ih =>
      intro y
      unfold alk
      by_cases a : n ≤ max i j + y
      · rw [if_pos a, if_pos a]
      · rw [if_neg a, if_neg a, h (i + y) (by omega), h i (by omega), h (j + y) (by omega), h j (by omega), ih]
  exact go 20 1
theorem Alk_le {t : Nat → Int32} {n i j : Nat} (hi : i < n) (hj : j < n) : 1 ≤ Alk t n i j ∧ Alk t n i j ≤ n := by
  have := alk_le t n i j 20 1 (by omega)
  unfold Alk
  omega
def ins (A : Nat → Nat → Nat) (i j : Nat) (s : Nat × Int32) : Nat × Int32 := if A i j ≤ s.1 then s else (A i j, nI i)
def inF (A : Nat → Nat → Nat) (i a : Nat) (s : Nat × Int32) : Nat → Nat × Int32
  | 0 => s
  | c + 1 => ins A i (a + c) (inF A i a s c)
def outF (A : Nat → Nat → Nat) (n : Nat) : Nat → Nat × Int32
  | 0 => (1, -1)
  | k + 1 => inF A k (k + 1) (outF A n k) (n - (k + 1))
theorem ins_ge (A : Nat → Nat → Nat) (i j : Nat) (s : Nat × Int32) : s.1 ≤ (ins A i j s).1 ∧ A i j ≤ (ins A i j s).1 := by
  unfold ins
  by_cases z : A i j ≤ s.1
  · rw [if_pos z]; exact ⟨Nat.le_refl _, z⟩
  · rw [if_neg z]
    show s.1 ≤ A i j ∧ A i j ≤ A i j
    omega
theorem inF_ge (A : Nat → Nat → Nat) (i a : Nat) (s : Nat × Int32) : ∀ c, s.1 ≤ (inF A i a s c).1 ∧ ∀ j, a ≤ j → j < a + c → A i j ≤ (inF A i a s c).1
  | 0 => ⟨Nat.le_refl _, fun j h1 h2 => absurd h1 (by omega)⟩
  | c + 1 => by
    obtain ⟨h1, h2⟩ := inF_ge A i a s c
    have g := ins_ge A i (a + c) (inF A i a s c)
    show s.1 ≤ (ins A i (a + c) (inF A i a s c)).1 ∧ ∀ j, a ≤ j → j < a + (c + 1) → A i j ≤ (ins A i (a + c) (inF A i a s c)).1
    refine ⟨by omega, fun j h3 h4 => ?_⟩
    by_cases e : j = a + c
    · rw [e]; exact g.2
    · have := h2 j h3 (by omega)
      omega
theorem outF_ge (A : Nat → Nat → Nat) (n : Nat) : ∀ k, ∀ j, j < k → ∀ l, j < l → l < n → A j l ≤ (outF A n k).1
  | 0 => fun j hj => absurd hj (Nat.not_lt_zero _)
  | k + 1 => fun j hj l h1 h2 => by
    obtain ⟨g1, g2⟩ := inF_ge A k (k + 1) (outF A n k) (n - (k + 1))
    show A j l ≤ (inF A k (k + 1) (outF A n k) (n - (k + 1))).1
    by_cases e : j = k
    · subst e; exact g2 l (by omega) (by omega)
    · have := outF_ge A n k j (by omega) l h1 h2
      omega
theorem inF_le {A : Nat → Nat → Nat} {i a : Nat} {s : Nat × Int32} {B : Nat} (hs : s.1 ≤ B) : ∀ c, (∀ j, a ≤ j → j < a + c → A i j ≤ B) → (inF A i a s c).1 ≤ B
  | 0, _ => hs
  | c + 1, h => by
    have ih := inF_le (A := A) (i := i) (a := a) hs c (fun j h1 h2 => h j h1 (by omega))
    show (ins A i (a + c) (inF A i a s c)).1 ≤ B
    unfold ins
    by_cases z : A i (a + c) ≤ (inF A i a s c).1
    · rw [if_pos z]; exact ih
    · rw [if_neg z]; exact h (a + c) (by omega) (by omega)
theorem outF_le {A : Nat → Nat → Nat} {n : Nat} (h : ∀ i j, i < n → j < n → A i j ≤ 16) : ∀ k, k ≤ n → (outF A n k).1 ≤ 16
  | 0, _ => by show 1 ≤ 16; omega
  | k + 1, hk => inF_le (outF_le h k (by omega)) _ (fun j h1 h2 => h k j (by omega) (by omega))
/-- how the numbers meet -/
theorem ins_i {A : Nat → Nat → Nat} {i j : Nat} {s : Nat × Int32} (ha : A i j < 2 ^ 31) (hs : s.1 < 2 ^ 31) : (if nI (A i j) ≤ nI s.1 then (nI s.1, s.2) else (nI (A i j), nI i)) = (nI (ins A i j s).1, (ins A i j s).2) := by
  unfold ins
  by_cases z : A i j ≤ s.1
  · rw [if_pos z, if_pos ((nI_leI ha hs).mpr z)]
  · rw [if_neg z, if_neg (fun q => z ((nI_leI ha hs).mp q))]
theorem twLen {C : mI} {n : Nat} (hn : n ≤ 16) (e : C 27 5 = nI n) : l1_twiceLength_4 C FU 1 0 = some (nI (outF (Alk (C 28) n) n n).1) := by
  have hA : ∀ i j, i < n → j < n → Alk (C 28) n i j ≤ 16 := fun i j hi hj => by have := Alk_le (t := C 28) hi hj; omega
  obtain ⟨u, q1, q2⟩ := loop1 (fun f k (a : Int32) => l1_twiceLength_4 C f a (nI k)) (fun k a => a = nI (outF (Alk (C 28) n) n k).1) (fun a => a = nI (outF (Alk (C 28) n) n n).1) n
    (fun a h => ⟨a, fun f => by show l1_twiceLength_4 _ (f + 1) _ _ = _; rw [l1_twiceLength_4, e, if_pos (by rw [i32_le]; omega)], h⟩)
    (fun k a hk h => by
      have ob := outF_le hA k (by omega)
      obtain ⟨v, r1, r2⟩ := loop1 (fun f l (a : Int32) => l1_twiceLength_16 C (nI k) f a (nI (k + 1 + l))) (fun l a => a = nI (inF (Alk (C 28) n) k (k + 1) (outF (Alk (C 28) n) n k) l).1) (fun a => a = nI (outF (Alk (C 28) n) n (k + 1)).1) (n - (k + 1))
        (fun a h => ⟨a, fun f => by show l1_twiceLength_16 _ _ (f + 1) _ _ = _; rw [l1_twiceLength_16, e, if_pos (nI_le (by omega) (by omega))], h⟩)
        (fun l a hl h => by
          have b1 := inF_le (i := k) (a := k + 1) ob l (fun j h1 h2 => hA k j hk (by omega))
          have b2 := hA k (k + 1 + l) hk (by omega)
          have ii := ins_i (A := Alk (C 28) n) (i := k) (j := k + 1 + l) (s := inF (Alk (C 28) n) k (k + 1) (outF (Alk (C 28) n) n k) l) (by omega) (by omega)
          refine .inr ⟨mMax a (nI (Alk (C 28) n k (k + 1 + l))), fun f _ => ?_, ?_⟩
          · show l1_twiceLength_16 _ _ (f + 1) _ _ = _
            rw [l1_twiceLength_16, e, if_neg (nI_ge (by omega) (by omega)), alkC hn e (by omega) (by omega), Option.bind_some, nI_1, Nat.add_assoc (k + 1)]
          · show _ = nI (ins (Alk (C 28) n) k (k + 1 + l) (inF (Alk (C 28) n) k (k + 1) (outF (Alk (C 28) n) n k) l)).1
            rw [h]
            have := congrArg Prod.fst ii
            refine Eq.trans ?_ this
            unfold mMax
            by_cases z : nI (Alk (C 28) n k (k + 1 + l)) ≤ nI (inF (Alk (C 28) n) k (k + 1) (outF (Alk (C 28) n) n k) l).1
            · rw [if_pos z, if_neg (i32_nlt.mpr z)]
            · rw [if_neg z, if_pos (i32_nle.mp z)]) (n - (k + 1)) 0 FU a (by omega) (FU_lt (by omega)) h
      refine .inr ⟨v, fun f _ => ?_, r2⟩
      show l1_twiceLength_4 _ (f + 1) _ _ = _
      rw [l1_twiceLength_4, e, if_neg (nI_ge hk (by omega)), nI_1, show l1_twiceLength_16 C (nI k) FU a (nI (k + 1)) = some v from r1, Option.bind_some]) n 0 FU 1 (by omega) (FU_lt (by omega)) rfl
  rw [← q2]
  exact q1
theorem twPl {C : mI} {n : Nat} (hn : n ≤ 16) (e : C 27 5 = nI n) : l1_twicePlace_6 C FU 1 (-1) 0 = some (outF (Alk (C 28) n) n n).2 := by
  have hA : ∀ i j, i < n → j < n → Alk (C 28) n i j ≤ 16 := fun i j hi hj => by have := Alk_le (t := C 28) hi hj; omega
  obtain ⟨u, q1, q2⟩ := loop1 (fun f k (a : Int32 × Int32) => l1_twicePlace_6 C f a.1 a.2 (nI k)) (fun k a => a = (nI (outF (Alk (C 28) n) n k).1, (outF (Alk (C 28) n) n k).2)) (fun a => a = (outF (Alk (C 28) n) n n).2) n
    (fun a h => ⟨a.2, fun f => by show l1_twicePlace_6 _ (f + 1) _ _ _ = _; rw [l1_twicePlace_6, e, if_pos (by rw [i32_le]; omega)], by rw [h]⟩)
    (fun k a hk h => by
      have ob := outF_le hA k (by omega)
      obtain ⟨v, r1, r2⟩ := loop1 (fun f l (a : Int32 × Int32) => l1_twicePlace_19 C (nI k) f a.1 a.2 (nI (k + 1 + l))) (fun l a => a = (nI (inF (Alk (C 28) n) k (k + 1) (outF (Alk (C 28) n) n k) l).1, (inF (Alk (C 28) n) k (k + 1) (outF (Alk (C 28) n) n k) l).2)) (fun a => a = (nI (outF (Alk (C 28) n) n (k + 1)).1, (outF (Alk (C 28) n) n (k + 1)).2)) (n - (k + 1))
        (fun a h => ⟨a, fun f => by show l1_twicePlace_19 _ _ (f + 1) _ _ _ = _; rw [l1_twicePlace_19, e, if_pos (nI_le (by omega) (by omega))], h⟩)
        (fun l a hl h => by
          have b1 := inF_le (i := k) (a := k + 1) ob l (fun j h1 h2 => hA k j hk (by omega))
          have b2 := hA k (k + 1 + l) hk (by omega)
          have ii := ins_i (A := Alk (C 28) n) (i := k) (j := k + 1 + l) (s := inF (Alk (C 28) n) k (k + 1) (outF (Alk (C 28) n) n k) l) (by omega) (by omega)
          refine .inr ⟨_, fun f _ => ?_, rfl⟩
          show l1_twicePlace_19 _ _ (f + 1) _ _ _ = l1_twicePlace_19 _ _ f (nI (ins (Alk (C 28) n) k (k + 1 + l) (inF (Alk (C 28) n) k (k + 1) (outF (Alk (C 28) n) n k) l)).1) (ins (Alk (C 28) n) k (k + 1 + l) (inF (Alk (C 28) n) k (k + 1) (outF (Alk (C 28) n) n k) l)).2 _
          rw [l1_twicePlace_19, e, if_neg (nI_ge (by omega) (by omega)), alkC hn e (by omega) (by omega), Option.bind_some, ite_some, Option.bind_some, nI_1, Nat.add_assoc (k + 1), h]
          dsimp only
          rw [ii]) (n - (k + 1)) 0 FU a (by omega) (FU_lt (by omega)) h
      refine .inr ⟨v, fun f _ => ?_, r2⟩
      show l1_twicePlace_6 _ (f + 1) _ _ _ = _
      rw [l1_twicePlace_6, e, if_neg (nI_ge hk (by omega)), nI_1, show l1_twicePlace_19 C (nI k) FU a.1 a.2 (nI (k + 1)) = some v from r1, Option.bind_some]) n 0 FU (1, -1) (by omega) (FU_lt (by omega)) rfl
  rw [← q2]
  exact q1
theorem twM {M : mI} {n : Nat} (hn : n ≤ 16) (e : M 119 48 = nI n) : l10_twice_7 M FU 1 (-1) 0 = some (nI (outF (Alk (M 146) n) n n).1, (outF (Alk (M 146) n) n n).2) := by
  have hA : ∀ i j, i < n → j < n → Alk (M 146) n i j ≤ 16 := fun i j hi hj => by have := Alk_le (t := M 146) hi hj; omega
  obtain ⟨u, q1, q2⟩ := loop1 (fun f k (a : Int32 × Int32) => l10_twice_7 M f a.1 a.2 (nI k)) (fun k a => a = (nI (outF (Alk (M 146) n) n k).1, (outF (Alk (M 146) n) n k).2)) (fun a => a = (nI (outF (Alk (M 146) n) n n).1, (outF (Alk (M 146) n) n n).2)) n
    (fun a h => ⟨a, fun f => by show l10_twice_7 _ (f + 1) _ _ _ = _; rw [l10_twice_7, e, if_pos (by rw [i32_le]; omega)], h⟩)
    (fun k a hk h => by
      have ob := outF_le hA k (by omega)
      obtain ⟨v, r1, r2⟩ := loop1 (fun f j (a : Int32 × Int32) => l10_twice_19 M (nI k) f a.1 a.2 (nI j)) (fun j a => a = (nI (inF (Alk (M 146) n) k (k + 1) (outF (Alk (M 146) n) n k) (j - (k + 1))).1, (inF (Alk (M 146) n) k (k + 1) (outF (Alk (M 146) n) n k) (j - (k + 1))).2)) (fun a => a = (nI (outF (Alk (M 146) n) n (k + 1)).1, (outF (Alk (M 146) n) n (k + 1)).2)) n
        (fun a h => ⟨a, fun f => by show l10_twice_19 _ _ (f + 1) _ _ _ = _; rw [l10_twice_19, e, if_pos (by rw [i32_le]; omega)], h⟩)
        (fun j a hj h => by
          have n1 : ¬ nI n ≤ nI j := nI_ge hj (by omega)
          by_cases jk : j = k
          · refine .inr ⟨a, fun f _ => ?_, ?_⟩
            · show l10_twice_19 _ _ (f + 1) _ _ _ = _
              rw [l10_twice_19, e, if_neg n1, if_pos (by rw [jk]), Option.bind_some, nI_1]
            · rw [h, show j - (k + 1) = 0 by omega, show j + 1 - (k + 1) = 0 by omega]
          · have nk : ¬ nI j = nI k := fun q => jk ((nI_eq (by omega) (by omega)).mp q)
            have b2 := hA k j hk hj
            by_cases lt : j < k
            · have dom := outF_ge (Alk (M 146) n) n k j lt k lt hk
              have sy : Alk (M 146) n k j = Alk (M 146) n j k := alk_sym _ _ _ _ _ _
              rw [← sy] at dom
              rw [show j - (k + 1) = 0 by omega] at h
              refine .inr ⟨a, fun f _ => ?_, by rw [show j + 1 - (k + 1) = 0 by omega]; exact h⟩
              show l10_twice_19 _ _ (f + 1) _ _ _ = _
              rw [l10_twice_19, e, if_neg n1, if_neg nk, alkM hn e hk hj, Option.bind_some, h]
              dsimp only
              rw [if_neg (show ¬ nI (inF (Alk (M 146) n) k (k + 1) (outF (Alk (M 146) n) n k) 0).1 < nI (Alk (M 146) n k j) from nI_nlt dom (by show (outF (Alk (M 146) n) n k).1 < _; omega)), Option.bind_some, nI_1]
            · obtain ⟨l, rfl⟩ : ∃ l, j = k + 1 + l := ⟨j - (k + 1), by omega⟩
              rw [show k + 1 + l - (k + 1) = l by omega] at h
              have b1 := inF_le (i := k) (a := k + 1) ob l (fun j h1 h2 => hA k j hk (by omega))
              have ii := ins_i (A := Alk (M 146) n) (i := k) (j := k + 1 + l) (s := inF (Alk (M 146) n) k (k + 1) (outF (Alk (M 146) n) n k) l) (by omega) (by omega)
              refine .inr ⟨_, fun f _ => ?_, rfl⟩
              rw [show k + 1 + l + 1 - (k + 1) = l + 1 by omega]
              show l10_twice_19 _ _ (f + 1) _ _ _ = l10_twice_19 _ _ f (nI (ins (Alk (M 146) n) k (k + 1 + l) (inF (Alk (M 146) n) k (k + 1) (outF (Alk (M 146) n) n k) l)).1) (ins (Alk (M 146) n) k (k + 1 + l) (inF (Alk (M 146) n) k (k + 1) (outF (Alk (M 146) n) n k) l)).2 _
              rw [l10_twice_19, e, if_neg n1, if_neg nk, alkM hn e hk hj, Option.bind_some, Option.bind_some, h]
              dsimp only
              have ii1 := congrArg Prod.fst ii
              have ii2 := congrArg Prod.snd ii
              by_cases z : nI (Alk (M 146) n k (k + 1 + l)) ≤ nI (inF (Alk (M 146) n) k (k + 1) (outF (Alk (M 146) n) n k) l).1
              · rw [if_pos z] at ii1 ii2
                dsimp only at ii1 ii2
                rw [if_neg (i32_nlt.mpr z), Option.bind_some, nI_1, ← ii1, ← ii2]
              · rw [if_neg z] at ii1 ii2
                dsimp only at ii1 ii2
                rw [if_pos (i32_nle.mp z), Option.bind_some, nI_1, ← ii1, ← ii2]) n 0 FU a (by omega) (FU_lt (by omega)) (by rw [h]; rw [show 0 - (k + 1) = 0 by omega]; rfl)
      refine .inr ⟨v, fun f _ => ?_, r2⟩
      show l10_twice_7 _ (f + 1) _ _ _ = _
      rw [l10_twice_7, e, if_neg (nI_ge hk (by omega)), show l10_twice_19 M (nI k) FU a.1 a.2 0 = some v from r1, Option.bind_some, nI_1]) n 0 FU (1, -1) (by omega) (FU_lt (by omega)) rfl
  rw [← q2]
  exact q1
theorem outF_eq {A A' : Nat → Nat → Nat} {n : Nat} (h : ∀ i j, i < n → j < n → A i j = A' i j) : ∀ k, k ≤ n → outF A n k = outF A' n k
  | 0, _ => rfl
  | k + 1, hk => by
    have ih := outF_eq h k (by omega)
    show inF A k (k + 1) (outF A n k) (n - (k + 1)) = inF A' k (k + 1) (outF A' n k) (n - (k + 1))
    rw [ih]
    have : ∀ c, k + 1 + c ≤ n → inF A k (k + 1) (outF A' n k) c = inF A' k (k + 1) (outF A' n k) c := by
      intro c
      induction c with
      | zero => intro _; rfl
      | succ c ih2 =>
        intro hc
        show ins A k (k + 1 + c) _ = ins A' k (k + 1 + c) _
        unfold ins
        rw [ih2 (by omega), h k (k + 1 + c) (by omega) (by omega)]
    exact this _ (by omega)
/-! rises -/
theorem rises_e {C M : mI} {n : Nat} (hn : n ≤ 16) (e : C 27 5 = nI n) (e' : M 119 48 = nI n) (ht : eqOn 16 (C 28) (M 146)) : ∃ v, r1_longestRise C = some v ∧ r10_rises M = some v := by
  unfold r1_longestRise r10_rises
  by_cases n0 : n = 0
  · subst n0
    refine ⟨0, ?_, ?_⟩
    · have fu := FU_lt (n := 100) (by omega)
      rw [show FU = (FU - 1) + 1 by omega, l1_longestRise_6, e, if_pos (by decide), Option.bind_some]
    · have fu := FU_lt (n := 100) (by omega)
      rw [e', show FU = (FU - 1) + 1 by omega, l10_rises_14, e', if_pos (by decide), Option.bind_some]
      rfl
  · obtain ⟨u, v, q1, q2, q3⟩ := loop2x (fun f k (a : Int32 × Int32) => l1_longestRise_6 C f a.1 a.2 (nI (k + 1))) (fun f k (b : Int32 × Int32) => l10_rises_14 M f b.1 b.2 (nI (k + 1))) (fun k a b => a = b) (fun a b => a = b) (n - 1)
      (fun a b h => ⟨a.1, b.1, fun f => by show l1_longestRise_6 _ (f + 1) _ _ _ = _; rw [l1_longestRise_6, e, if_pos (nI_le (by omega) (by omega))], fun f => by show l10_rises_14 _ (f + 1) _ _ _ = _; rw [l10_rises_14, e', if_pos (nI_le (by omega) (by omega))], by rw [h]⟩)
      (fun k a b hk h => by
        subst h
        refine .inr ⟨(mMax a.1 (if M 146 (k + 1) ≤ M 146 k then 1 else a.2 + 1), if M 146 (k + 1) ≤ M 146 k then 1 else a.2 + 1), (mMax a.1 (if M 146 (k + 1) ≤ M 146 k then 1 else a.2 + 1), if M 146 (k + 1) ≤ M 146 k then 1 else a.2 + 1), fun f _ => ?_, fun f _ => ?_, rfl⟩
        · show l1_longestRise_6 _ (f + 1) _ _ _ = _
          rw [l1_longestRise_6, e, if_neg (nI_ge (by omega) (by omega)), if_neg (nI_nle (by omega) (by omega)), mLd_n (by omega) (by decide), Option.bind_some, nI_pred, mLd_n (by omega) (by decide), Option.bind_some, ht (k + 1) (by omega), ht k (by omega), ite_some, Option.bind_some, nI_1]
        · show l10_rises_14 _ (f + 1) _ _ _ = _
          rw [l10_rises_14, e', if_neg (nI_ge (by omega) (by omega)), mLd_n (by omega) (by decide), Option.bind_some, nI_pred, mLd_n (by omega) (by decide), Option.bind_some, ite_some, Option.bind_some, nI_1, greater_max]) (n - 1) 0 (FU - 1) FU (1, 1) (1, 1) (by omega) (by have := FU_lt (n := 100) (by omega); omega) (FU_lt (by omega)) rfl
    have q3 : u = v := q3
    subst q3
    refine ⟨u, ?_, ?_⟩
    · have fu := FU_lt (n := 100) (by omega)
      have q1 : l1_longestRise_6 C (FU - 1) 1 1 1 = some u := q1
      have st : l1_longestRise_6 C (FU - 1 + 1) 0 0 0 = l1_longestRise_6 C (FU - 1) 1 1 1 := by
        rw [l1_longestRise_6, e, if_neg (show ¬ nI n ≤ 0 from nI_nle (by omega) (by omega)), if_pos (by decide), Option.bind_some]
        rfl
      rw [show FU - 1 + 1 = FU by omega] at st
      rw [st, q1, Option.bind_some]
    · have l1 : r10_lesser 1 (nI n) = 1 := by
        unfold r10_lesser
        by_cases z : n = 1
        · rw [z]; decide
        · rw [if_neg (show ¬ nI n ≤ (1 : Int32) from nI_ge (a := 1) (by omega) (by omega))]
      rw [e', l1, show l10_rises_14 M FU 1 1 1 = some u from q2, Option.bind_some]
/-! fingers -/
theorem apart_s {x y : Int32} {a b : Int} (hx : x.toInt = a) (hy : y.toInt = b) (ha : -1000 ≤ a ∧ a ≤ 1000) (hb : -1000 ≤ b ∧ b ≤ 1000) : mAbs (x - y) = nI (a - b).natAbs ∧ r10_apart x y = nI (a - b).natAbs := by
  have s1 : (x - y).toInt = a - b := sub_small hx hy (by omega) (by omega)
  have s2 : (y - x).toInt = b - a := sub_small hy hx (by omega) (by omega)
  have n : (nI (a - b).natAbs).toInt = ((a - b).natAbs : Int) := nI_toInt (by omega)
  constructor
  · unfold mAbs
    by_cases z : (0 : Int32) ≤ x - y
    · rw [if_pos z, i32_eq, s1, n]
      rw [i32_le, s1, show (0 : Int32).toInt = 0 by decide] at z
      omega
    · rw [if_neg z, i32_eq, n, sub_small (a := 0) (b := a - b) (by decide) s1 (by omega) (by omega)]
      rw [i32_le, s1, show (0 : Int32).toInt = 0 by decide] at z
      omega
  · unfold r10_apart
    by_cases z : x ≤ y
    · rw [if_pos z, i32_eq, s2, n]
      rw [i32_le, hx, hy] at z
      omega
    · rw [if_neg z, i32_eq, s1, n]
      rw [i32_le, hx, hy] at z
      omega
def stp (t : Nat → Nat) (i f g : Nat) : Nat := (((t (i + 1) : Int) - t i) - 2 * ((g : Int) - f)).natAbs + (if f = g ∧ ¬ t (i + 1) = t i then 9 else 0)
theorem stp_le {t : Nat → Nat} {i f g : Nat} (h1 : t (i + 1) ≤ 60) (h0 : t i ≤ 60) (hf : f < 5) (hg : g < 5) : stp t i f g ≤ 77 := by
  unfold stp
  split <;> omega
theorem step_e {C M : mI} {n : Nat} {t : Nat → Nat} (hn : n ≤ 16) (ht : ∀ i, i < 16 → t i ≤ 60 ∧ C 28 i = nI (t i) ∧ M 146 i = nI (t i)) {i f g : Nat} (hi : i + 1 < n) (hf : f < 5) (hg : g < 5) : r1_stepCost C (nI i) (nI f) (nI g) = some (nI (stp t i f g)) ∧ r10_stepCost M (nI i) (nI (f + 1)) (nI (g + 1)) = some (nI (stp t i f g)) := by
  obtain ⟨a1, a2, a3⟩ := ht i (by omega)
  obtain ⟨b1, b2, b3⟩ := ht (i + 1) (by omega)
  have d1 : (nI (t (i + 1)) - nI (t i)).toInt = (t (i + 1) : Int) - t i := sub_small (nI_toInt (by omega)) (nI_toInt (by omega)) (by omega) (by omega)
  have small : ∀ f, f < 5 → ∀ g, g < 5 → ((2 : Int32) * (nI g - nI f)).toInt = 2 * ((g : Int) - f) ∧ ((2 : Int32) * (nI (g + 1) - nI (f + 1))).toInt = 2 * ((g : Int) - f) := by decide +kernel
  obtain ⟨c1, c2⟩ := small f hf g hg
  have p1 := (apart_s d1 c1 (by omega) (by omega)).1
  have p2 := (apart_s d1 c2 (by omega) (by omega)).2
  have z0 : nI (t (i + 1)) - nI (t i) = 0 ↔ t (i + 1) = t i := by
    rw [i32_eq, d1, show (0 : Int32).toInt = 0 by decide]; omega
  have fg : nI f = nI g ↔ f = g := nI_eq (by omega) (by omega)
  have fg2 : nI (f + 1) = nI (g + 1) ↔ f = g := by rw [nI_eq (by omega) (by omega)]; omega
  constructor
  · unfold r1_stepCost stp
    rw [nI_1, mLd_n (by omega) (by decide), Option.bind_some, mLd_n (by omega) (by decide), Option.bind_some, a2, b2, p1]
    by_cases q : f = g
    · rw [if_pos (fg.mpr q)]
      by_cases w : t (i + 1) = t i
      · rw [if_pos (z0.mpr w), if_neg (show ¬ (f = g ∧ ¬ t (i + 1) = t i) from fun k => k.2 w), Option.bind_some]
        rfl
      · rw [if_neg (fun k => w (z0.mp k)), if_pos (show (f = g ∧ ¬ t (i + 1) = t i) from ⟨q, w⟩), Option.bind_some, show (9 : Int32) = nI 9 from rfl, nI_add]
    · rw [if_neg (fun k => q (fg.mp k)), if_neg (show ¬ (f = g ∧ ¬ t (i + 1) = t i) from fun k => q k.1), Option.bind_some]
      rfl
  · unfold r10_stepCost stp
    rw [nI_1, mLd_n (by omega) (by decide), Option.bind_some, mLd_n (by omega) (by decide), Option.bind_some, a3, b3, p2]
    by_cases q : f = g
    · rw [if_pos (fg2.mpr q)]
      by_cases w : t (i + 1) = t i
      · rw [if_pos (z0.mpr w), if_neg (show ¬ (f = g ∧ ¬ t (i + 1) = t i) from fun k => k.2 w), Option.bind_some, show (0 : Int32) = nI 0 from rfl, nI_add]
      · rw [if_neg (fun k => w (z0.mp k)), if_pos (show (f = g ∧ ¬ t (i + 1) = t i) from ⟨q, w⟩), Option.bind_some, show (9 : Int32) = nI 9 from rfl, nI_add]
    · rw [if_neg (fun k => q (fg2.mp k)), if_neg (show ¬ (f = g ∧ ¬ t (i + 1) = t i) from fun k => q k.1), Option.bind_some, show (0 : Int32) = nI 0 from rfl, nI_add]
def mk (B : Nat) (h : Nat → Nat) : Nat → Nat
  | 0 => B
  | k + 1 => min (mk B h k) (h k)
theorem mk_le (B : Nat) (h : Nat → Nat) : ∀ k, mk B h k ≤ B ∧ ∀ g, g < k → mk B h k ≤ h g
  | 0 => ⟨Nat.le_refl _, fun g hg => absurd hg (Nat.not_lt_zero _)⟩
  | k + 1 => by
    obtain ⟨a, b⟩ := mk_le B h k
    refine ⟨by unfold mk; omega, fun g hg => ?_⟩
    unfold mk
    by_cases e : g = k
    · rw [e]; omega
    · have := b g (by omega)
      omega
theorem mk_at (B : Nat) (h : Nat → Nat) : ∀ k, mk B h k = B ∨ ∃ g, g < k ∧ mk B h k = h g
  | 0 => .inl rfl
  | k + 1 => by
    unfold mk
    by_cases z : h k ≤ mk B h k
    · exact .inr ⟨k, by omega, by omega⟩
    · rcases mk_at B h k with e | ⟨g, hg, e⟩
      · exact .inl (by omega)
      · exact .inr ⟨g, by omega, by omega⟩
theorem mk_B {B B' : Nat} {h : Nat → Nat} (h1 : h 0 ≤ B) (h2 : h 0 ≤ B') : mk B h 5 = mk B' h 5 := by
  show min (min (min (min (min B (h 0)) (h 1)) (h 2)) (h 3)) (h 4) = min (min (min (min (min B' (h 0)) (h 1)) (h 2)) (h 3)) (h 4)
  omega
/-- the cost from the r-th tone ahead of the last -/
def Fr (t : Nat → Nat) (n : Nat) : Nat → Nat → Nat
  | 0, _ => 0
  | r + 1, f => mk 1000000 (fun g => stp t (n - 2 - r) f g + Fr t n r g) 5
theorem Fr_le {t : Nat → Nat} {n : Nat} (ht : ∀ i, i < 16 → t i ≤ 60) (hn : n ≤ 16) : ∀ r f, r < n → f < 5 → Fr t n r f ≤ 77 * r
  | 0, f, _, _ => Nat.le_refl 0
  | r + 1, f, hr, hf => by
    have ih := Fr_le ht hn r 0 (by omega) (by omega)
    have s := stp_le (t := t) (i := n - 2 - r) (f := f) (g := 0) (ht _ (by omega)) (ht _ (by omega)) hf (by omega)
    have := (mk_le 1000000 (fun g => stp t (n - 2 - r) f g + Fr t n r g) 5).2 0 (by omega)
    show mk 1000000 (fun g => stp t (n - 2 - r) f g + Fr t n r g) 5 ≤ 77 * (r + 1)
    have this : mk 1000000 (fun g => stp t (n - 2 - r) f g + Fr t n r g) 5 ≤ stp t (n - 2 - r) f 0 + Fr t n r 0 := this
    omega

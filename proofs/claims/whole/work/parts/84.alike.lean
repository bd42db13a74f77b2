/-! ALIKE: groups of pieces -/
theorem cell24 {I : mI} {l c : Nat} (hl : l < 16) (hc : c < 9) {k : Int32} (hk : k = nI c) : r6_cell_24 I (nI l) k = some (I 25 (9 * l + c)) := by
  unfold r6_cell_24
  rw [hk, show (9 : Int32) = nI 9 from rfl, nI_mul, nI_add, Nat.mul_comm l 9, if_neg (nI_pos (by omega)), if_neg (show ¬ (144 : Int32) ≤ nI (9 * l + c) from nI_ge (b := 144) (by omega) (by decide)), mLd_n (by omega) (by decide), Option.bind_some, Option.bind_some]
/-- how many of the first n hold -/
def cntB (f : Nat → Bool) : Nat → Nat
  | 0 => 0
  | n + 1 => cntB f n + (if f n then 1 else 0)
theorem cntB_le (f : Nat → Bool) : ∀ n, cntB f n ≤ n
  | 0 => Nat.le_refl 0
  | n + 1 => by
    have := cntB_le f n
    unfold cntB
    split <;> omega
theorem cntB_mono {f g : Nat → Bool} (h : ∀ i, f i = true → g i = true) : ∀ n, cntB f n ≤ cntB g n
  | 0 => Nat.le_refl 0
  | n + 1 => by
    have := cntB_mono h n
    unfold cntB
    by_cases a : f n = true
    · rw [if_pos a, if_pos (h n a)]; omega
    · rw [if_neg a]; omega
theorem cntB_lt {f g : Nat → Bool} (h : ∀ i, f i = true → g i = true) {j : Nat} (h1 : ¬ f j = true) (h2 : g j = true) : ∀ n, j < n → cntB f n < cntB g n
  | 0 => fun h => absurd h (Nat.not_lt_zero _)
  | n + 1 => fun hj => by
    unfold cntB
    by_cases e : j = n
    · subst e
      have := cntB_mono h j
      rw [if_neg h1, if_pos h2]; omega
    · have := cntB_lt h h1 h2 n (by omega)
      by_cases a : f n = true
      · rw [if_pos a, if_pos (h n a)]; omega
      · rw [if_neg a]; omega
theorem cntB_full {f : Nat → Bool} : ∀ n, cntB f n = n → ∀ i, i < n → f i = true
  | 0 => fun _ i hi => absurd hi (Nat.not_lt_zero _)
  | n + 1 => fun h i hi => by
    have le := cntB_le f n
    unfold cntB at h
    by_cases a : f n = true
    · rw [if_pos a] at h
      by_cases e : i = n
      · rw [e]; exact a
      · exact cntB_full n (by omega) i (by omega)
    · rw [if_neg a] at h; omega
/-- closed under E -/
def Clo (E : Nat → Nat → Prop) (T : Nat → Prop) : Prop := ∀ a b, E a b → T a → T b
/-- a round from x to y -/
def Rnd (E : Nat → Nat → Prop) (x y : Int32) : Prop := (∀ i, bt x i = true → bt y i = true) ∧ (∀ a b, E a b → bt x a = true → bt y b = true) ∧ (∀ T : Nat → Prop, Clo E T → (∀ i, bt x i = true → T i) → ∀ i, bt y i = true → T i)
/-- within: x0's closure, n rounds on -/
def Sat (E : Nat → Nat → Prop) (x0 : Int32) (n : Nat) (y : Int32) : Prop := (∀ i, bt x0 i = true → bt y i = true) ∧ (∀ T : Nat → Prop, Clo E T → (∀ i, bt x0 i = true → T i) → ∀ i, bt y i = true → T i) ∧ (Clo E (fun i => bt y i = true) ∨ n + 1 ≤ cntB (fun i => bt y i) 12)
theorem Sat_step {E : Nat → Nat → Prop} (hE : ∀ a b, E a b → a < 12 ∧ b < 12) {x0 y z : Int32} {n : Nat} (h : Sat E x0 n y) (r : Rnd E y z) : Sat E x0 (n + 1) z := by
  obtain ⟨h1, h2, h3⟩ := h
  obtain ⟨r1, r2, r3⟩ := r
  refine ⟨fun i hi => r1 i (h1 i hi), fun T hT h0 i hi => r3 T hT (h2 T hT h0) i hi, ?_⟩
  by_cases c : Clo E (fun i => bt y i = true)
  · refine .inl (fun a b e ha => ?_)
    exact r1 b (c a b e (r3 _ c (fun i hi => hi) a ha))
  · refine .inr ?_
    have h3 := h3.resolve_left c
    have : ∃ a b, E a b ∧ bt y a = true ∧ ¬ bt y b = true := by
      apply Classical.byContradiction
      intro hn
      refine c (fun a b e ha => Classical.byContradiction fun hb => hn ⟨a, b, e, ha, hb⟩)
    obtain ⟨a, b, e, ha, hb⟩ := this
    have := cntB_lt (f := fun i => bt y i) (g := fun i => bt z i) r1 hb (r2 a b e ha) 12 (hE a b e).2
    omega
theorem Sat_clo {E : Nat → Nat → Prop} (hE : ∀ a b, E a b → a < 12 ∧ b < 12) {x0 y : Int32} {n : Nat} (hn : 11 ≤ n) (h : Sat E x0 n y) : Clo E (fun i => bt y i = true) := by
  rcases h.2.2 with c | c
  · exact c
  · have le := cntB_le (fun i => bt y i) 12
    intro a b e _
    exact cntB_full (f := fun i => bt y i) 12 (by omega) b (hE a b e).2
theorem Sat_0 {E : Nat → Nat → Prop} {p : Nat} (hp : p < 12) {x0 : Int32} (h : bt x0 p = true) : Sat E x0 0 x0 := by
  refine ⟨fun i hi => hi, fun T hT h0 i hi => h0 i hi, .inr ?_⟩
  have := cntB_lt (f := fun _ => false) (g := fun i => bt x0 i) (fun i hi => absurd hi (by decide)) (by decide) h 12 hp
  omega
/-- in the group -/
def InG (E : Nat → Nat → Prop) (p i : Nat) : Prop := ∀ T : Nat → Prop, Clo E T → T p → T i
theorem InG_sym {E : Nat → Nat → Prop} (hs : ∀ a b, E a b → E b a) {p q : Nat} (h : InG E p q) : InG E q p := by
  intro T hT hq
  apply Classical.byContradiction
  intro hp
  exact h (fun i => ¬ T i) (fun a b e ha hb => ha (hT b a (hs a b e) hb)) hp hq
theorem sh1 {p i : Nat} (hp : p < 32) (hi : i < 32) : bt ((1 : Int32) <<< (nI p &&& 31)) i = decide (i = p) := by
  rw [b_shl p hp _ hi]
  by_cases e : p ≤ i
  · rw [bt_1 _ (by omega)]
    by_cases e2 : i = p
    · subst e2; simp
    · have : ¬ i - p = 0 := by omega
      simp [e, e2, this]
  · have : ¬ i = p := by omega
    simp [e, this]
theorem Sat_in {E : Nat → Nat → Prop} (hE : ∀ a b, E a b → a < 12 ∧ b < 12) {p : Nat} (hp : p < 12) {y : Int32} {n : Nat} (hn : 11 ≤ n) (h : Sat E ((1 : Int32) <<< (nI p &&& 31)) n y) (i : Nat) : bt y i = true ↔ InG E p i := by
  have c := Sat_clo hE hn h
  have bp : bt ((1 : Int32) <<< (nI p &&& 31)) p = true := by rw [sh1 (by omega) (by omega)]; simp
  refine ⟨fun hi T hT hTp => h.2.1 T hT (fun j hj => ?_) i hi, fun hi => hi (fun i => bt y i = true) c (h.1 p bp)⟩
  by_cases j32 : j < 32
  · rw [sh1 (by omega) j32] at hj
    have : j = p := by simpa using hj
    rw [this]; exact hTp
  · rw [b_big (by omega)] at hj; exact absurd hj (by decide)
/-- the couples -/
def Edg (c : Nat → Int32) (n : Nat) (a b : Nat) : Prop := ∃ l, l < n ∧ ((c (9 * l) = nI a ∧ c (9 * l + 1) = nI b) ∨ (c (9 * l) = nI b ∧ c (9 * l + 1) = nI a)) ∧ a < 12 ∧ b < 12
theorem Edg_sym {c : Nat → Int32} {n a b : Nat} (h : Edg c n a b) : Edg c n b a := by
  obtain ⟨l, hl, e, ha, hb⟩ := h
  exact ⟨l, hl, e.symm, hb, ha⟩
theorem ne0_bt {x : Int32} (h : ¬ x = 0) : ∃ i, i < 32 ∧ bt x i = true := by
  apply Classical.byContradiction
  intro hn
  refine h (b_ext (fun i hi => ?_))
  rw [b_0]
  cases e : bt x i with
  | false => rfl
  | true => exact absurd ⟨i, hi, e⟩ hn
theorem couple_e {a b i : Nat} (ha : a < 12) (hb : b < 12) : bt (((1 : Int32) <<< (nI a &&& 31)) ||| ((1 : Int32) <<< (nI b &&& 31))) i = true ↔ i = a ∨ i = b := by
  rw [b_or]
  by_cases hi : i < 32
  · rw [sh1 (by omega) hi, sh1 (by omega) hi]; simp
  · rw [b_big (by omega), b_big (by omega)]
    simp
    omega
theorem roundC {I : mI} {n : Nat} (hn : n ≤ 16) (e2 : I 24 2 = nI n) (hl : ∀ l, l < n → ∃ a b, a < 12 ∧ b < 12 ∧ I 25 (9 * l) = nI a ∧ I 25 (9 * l + 1) = nI b) (x : Int32) : ∃ y, l8_groupOf_15 I FU x 0 = some y ∧ Rnd (Edg (I 25) n) x y := by
  obtain ⟨y, q1, q2⟩ := loop1 (fun f k (a : Int32) => l8_groupOf_15 I f a (nI k)) (fun k y => (∀ i, bt x i = true → bt y i = true) ∧ (∀ a b, Edg (I 25) k a b → bt x a = true → bt y b = true) ∧ (∀ T : Nat → Prop, Clo (Edg (I 25) n) T → (∀ i, bt x i = true → T i) → ∀ i, bt y i = true → T i)) (fun y => Rnd (Edg (I 25) n) x y) n
    (fun a h => ⟨a, fun f => by show l8_groupOf_15 _ (f + 1) _ _ = _; rw [l8_groupOf_15, e2, if_pos (by rw [i32_le]; omega)], h⟩)
    (fun k y hk ⟨h1, h2, h3⟩ => by
      obtain ⟨a, b, ha, hb, ea, eb⟩ := hl k hk
      have c0 : r6_cell_24 I (nI k) 0 = some (nI a) := by rw [cell24 (c := 0) (k := 0) (by omega) (by decide) rfl]; exact congrArg some ea
      have c1 : r6_cell_24 I (nI k) 1 = some (nI b) := by rw [cell24 (c := 1) (k := 1) (by omega) (by decide) rfl, eb]
      have key : ∀ cp, cp = ((1 : Int32) <<< (nI a &&& 31)) ||| ((1 : Int32) <<< (nI b &&& 31)) → ∀ z, z = (if y &&& cp = 0 then 0 else cp) → (∀ i, bt (y ||| z) i = true ↔ (bt y i = true ∨ ((bt y a = true ∨ bt y b = true) ∧ (i = a ∨ i = b)))) := by
        intro cp hcp z hz i
        have hc : ∀ j, bt cp j = true ↔ j = a ∨ j = b := fun j => by rw [hcp]; exact couple_e ha hb
        rw [b_or, Bool.or_eq_true]
        by_cases e : y &&& cp = 0
        · rw [if_pos e] at hz
          rw [hz, b_0]
          have na : ¬ bt y a = true := fun q => by
            have : bt (y &&& cp) a = true := by rw [b_and, q, (hc a).mpr (.inl rfl)]; rfl
            rw [e, b_0] at this; exact absurd this (by decide)
          have nb : ¬ bt y b = true := fun q => by
            have : bt (y &&& cp) b = true := by rw [b_and, q, (hc b).mpr (.inr rfl)]; rfl
            rw [e, b_0] at this; exact absurd this (by decide)
          constructor
          · intro q; exact .inl (q.resolve_right (by decide))
          · intro q
            rcases q with q | ⟨q | q, _⟩
            · exact .inl q
            · exact absurd q na
            · exact absurd q nb
        · rw [if_neg e] at hz
          rw [hz]
          obtain ⟨j, hj, bj⟩ := ne0_bt e
          rw [b_and, Bool.and_eq_true, hc] at bj
          have some1 : bt y a = true ∨ bt y b = true := by
            rcases bj with ⟨q, rfl | rfl⟩
            · exact .inl q
            · exact .inr q
          rw [hc]
          constructor
          · intro q
            rcases q with q | q
            · exact .inl q
            · exact .inr ⟨some1, q⟩
          · intro q
            rcases q with q | ⟨_, q⟩
            · exact .inl q
            · exact .inr q
      have key := key _ rfl _ rfl
      refine .inr ⟨y ||| (if y &&& (((1 : Int32) <<< (nI a &&& 31)) ||| ((1 : Int32) <<< (nI b &&& 31))) = 0 then 0 else ((1 : Int32) <<< (nI a &&& 31)) ||| ((1 : Int32) <<< (nI b &&& 31))), fun f _ => ?_, fun i hi => (key i).mpr (.inl (h1 i hi)), fun u v huv hu => ?_, fun T hT h0 i hi => ?_⟩
      · show l8_groupOf_15 _ (f + 1) _ _ = _
        rw [l8_groupOf_15, e2, if_neg (nI_ge hk (by omega)), c0, Option.bind_some, c1, Option.bind_some, ite_some, Option.bind_some, nI_1]
      · rw [key]
        obtain ⟨l, hl', e, hu12, hv12⟩ := huv
        by_cases lk : l < k
        · exact .inl (h2 u v ⟨l, lk, e, hu12, hv12⟩ hu)
        · have : l = k := by omega
          subst this
          rw [ea, eb] at e
          rw [nI_eq (by omega) (by omega), nI_eq (by omega) (by omega), nI_eq (by omega) (by omega), nI_eq (by omega) (by omega)] at e
          rcases e with ⟨rfl, rfl⟩ | ⟨rfl, rfl⟩
          · exact .inr ⟨.inl (h1 _ hu), .inr rfl⟩
          · exact .inr ⟨.inr (h1 _ hu), .inl rfl⟩
      · rcases (key i).mp hi with q | ⟨q, q2⟩
        · exact h3 T hT h0 i q
        · have ab : Edg (I 25) n a b := ⟨k, hk, .inl ⟨ea, eb⟩, ha, hb⟩
          have Tab : T a ∧ T b := by
            rcases q with q | q
            · have := h3 T hT h0 a q
              exact ⟨this, hT a b ab this⟩
            · have := h3 T hT h0 b q
              exact ⟨hT b a (Edg_sym ab) this, this⟩
          rcases q2 with rfl | rfl
          · exact Tab.1
          · exact Tab.2) n 0 FU x (by omega) (FU_lt (by omega)) ⟨fun i hi => hi, fun a b ⟨l, hl, _⟩ => absurd hl (Nat.not_lt_zero _), fun T hT h0 i hi => h0 i hi⟩
  exact ⟨y, q1, q2⟩
theorem bt_like {c : Nat → Int32} {p i : Nat} (hp : p < 12) (hi : i < 32) : ∀ n, n ≤ 16 → (∀ l, l < n → ∃ a b, a < 12 ∧ b < 12 ∧ a ≠ b ∧ c (9 * l) = nI a ∧ c (9 * l + 1) = nI b) → (bt (likeSet c (nI p) n) i = true ↔ Edg c n p i)
  | 0 => fun _ _ => by
    unfold likeSet
    rw [b_0]
    constructor
    · intro h; exact absurd h (by decide)
    · intro ⟨l, hl, _⟩; exact absurd hl (Nat.not_lt_zero _)
  | n + 1 => fun hn hl => by
    have ih := bt_like (c := c) (i := i) hp hi n (by omega) (fun l h => hl l (by omega))
    obtain ⟨a, b, ha, hb, hab, ea, eb⟩ := hl n (by omega)
    unfold likeSet
    rw [b_or, Bool.or_eq_true, ih, ea, eb]
    have one : (bt (if nI a = nI p then (1 : Int32) <<< (nI b &&& 31) else if nI b = nI p then (1 : Int32) <<< (nI a &&& 31) else 0) i = true) ↔ ((a = p ∧ i = b) ∨ (b = p ∧ i = a)) := by
      have n1 := nI_eq (a := a) (b := p) (by omega) (by omega)
      have n2 := nI_eq (a := b) (b := p) (by omega) (by omega)
      by_cases q1 : a = p
      · rw [if_pos (n1.mpr q1), sh1 (by omega) hi]
        simp only [decide_eq_true_eq]
        omega
      · rw [if_neg (fun q => q1 (n1.mp q))]
        by_cases q2 : b = p
        · rw [if_pos (n2.mpr q2), sh1 (by omega) hi]
          simp only [decide_eq_true_eq]
          omega
        · rw [if_neg (fun q => q2 (n2.mp q)), b_0]
          constructor
          · intro h; exact absurd h (by decide)
          · intro h; omega
    rw [one]
    constructor
    · rintro (⟨l, h1, h2⟩ | h)
      · exact ⟨l, by omega, h2⟩
      · refine ⟨n, by omega, ?_, hp, by omega⟩
        rcases h with ⟨rfl, rfl⟩ | ⟨rfl, rfl⟩
        · exact .inl ⟨ea, eb⟩
        · exact .inr ⟨ea, eb⟩
    · rintro ⟨l, h1, h2, h3, h4⟩
      by_cases e : l = n
      · subst e
        refine .inr ?_
        rw [ea, eb, nI_eq (by omega) (by omega), nI_eq (by omega) (by omega), nI_eq (by omega) (by omega), nI_eq (by omega) (by omega)] at h2
        omega
      · exact .inl ⟨l, by omega, h2, h3, h4⟩
theorem roundM {M : mI} {c : Nat → Int32} {n np : Nat} (hnp : np ≤ 12) (e6 : M 119 6 = nI np) (hE : ∀ a b, Edg c n a b → a < np) (hg : ∀ p i, p < 12 → i < 32 → (bt (M 141 p) i = true ↔ Edg c n p i)) (x : Int32) : ∃ y, l10_groupOf_15 M FU x 0 = some y ∧ Rnd (Edg c n) x y := by
  obtain ⟨y, q1, q2⟩ := loop1 (fun f k (a : Int32) => l10_groupOf_15 M f a (nI k)) (fun k y => (∀ i, bt x i = true → bt y i = true) ∧ (∀ a b, a < k → Edg c n a b → bt x a = true → bt y b = true) ∧ (∀ T : Nat → Prop, Clo (Edg c n) T → (∀ i, bt x i = true → T i) → ∀ i, bt y i = true → T i)) (fun y => Rnd (Edg c n) x y) np
    (fun a h => ⟨a, fun f => by show l10_groupOf_15 _ (f + 1) _ _ = _; rw [l10_groupOf_15, e6, if_pos (by rw [i32_le]; omega)], h.1, fun u v huv hu => h.2.1 u v (hE u v huv) huv hu, h.2.2⟩)
    (fun k y hk ⟨h1, h2, h3⟩ => by
      refine .inr ?_
      by_cases z : bt y k = true
      · have hb : ∀ i, bt (y ||| M 141 k) i = true ↔ bt y i = true ∨ Edg c n k i := fun i => by
          rw [b_or, Bool.or_eq_true]
          by_cases hi : i < 32
          · rw [hg k i (by omega) hi]
          · rw [b_big (by omega), b_big (by omega)]
            constructor
            · rintro (q | q) <;> exact absurd q (by decide)
            · rintro (q | ⟨_, _, _, _, q⟩)
              · exact absurd q (by decide)
              · omega
        refine ⟨y ||| M 141 k, fun f _ => ?_, fun i hi => (hb i).mpr (.inl (h1 i hi)), fun u v huk huv hu => ?_, fun T hT h0 i hi => ?_⟩
        · show l10_groupOf_15 _ (f + 1) _ _ = _
          rw [l10_groupOf_15, e6, if_neg (nI_ge hk (by omega)), has_bt _ (by omega), if_pos z, if_neg one_n0, mLd_n (by omega) (by decide), Option.bind_some, Option.bind_some, nI_1]
        · by_cases e : u = k
          · subst e; exact (hb v).mpr (.inr huv)
          · exact (hb v).mpr (.inl (h2 u v (by omega) huv hu))
        · rcases (hb i).mp hi with q | q
          · exact h3 T hT h0 i q
          · exact hT k i q (h3 T hT h0 k z)
      · refine ⟨y, fun f _ => ?_, h1, fun u v huk huv hu => ?_, h3⟩
        · show l10_groupOf_15 _ (f + 1) _ _ = _
          rw [l10_groupOf_15, e6, if_neg (nI_ge hk (by omega)), has_bt _ (by omega), if_neg z, if_pos rfl, Option.bind_some, nI_1]
        · by_cases e : u = k
          · subst e; exact absurd (h1 u hu) z
          · exact h2 u v (by omega) huv hu) np 0 FU x (by omega) (FU_lt (by omega)) ⟨fun i hi => hi, fun a b h => absurd h (Nat.not_lt_zero _), fun T hT h0 i hi => h0 i hi⟩
  exact ⟨y, q1, q2⟩
theorem groupC {I : mI} {n : Nat} (hn : n ≤ 16) (e2 : I 24 2 = nI n) (hl : ∀ l, l < n → ∃ a b, a < 12 ∧ b < 12 ∧ I 25 (9 * l) = nI a ∧ I 25 (9 * l + 1) = nI b) {p : Nat} (hp : p < 12) : ∃ y, r8_groupOf I (nI p) = some y ∧ Sat (Edg (I 25) n) ((1 : Int32) <<< (nI p &&& 31)) 11 y := by
  have bp : bt ((1 : Int32) <<< (nI p &&& 31)) p = true := by rw [sh1 (by omega) (by omega)]; simp
  obtain ⟨y, q1, q2⟩ := loop1 (fun f k (a : Int32) => l8_groupOf_6 I f a (nI (k + 1))) (fun k y => Sat (Edg (I 25) n) ((1 : Int32) <<< (nI p &&& 31)) k y) (fun y => Sat (Edg (I 25) n) ((1 : Int32) <<< (nI p &&& 31)) 11 y) 11
    (fun a h => ⟨a, fun f => by show l8_groupOf_6 _ (f + 1) _ _ = _; rw [l8_groupOf_6, if_pos (by decide)], h⟩)
    (fun k y hk h => by
      obtain ⟨z, r1, r2⟩ := roundC hn e2 hl y
      refine .inr ⟨z, fun f _ => ?_, Sat_step (fun a b ⟨l, _, _, ha, hb⟩ => ⟨ha, hb⟩) h r2⟩
      show l8_groupOf_6 _ (f + 1) _ _ = _
      rw [l8_groupOf_6, if_neg (show ¬ (12 : Int32) ≤ nI (k + 1) from nI_ge (b := 12) (by omega) (by decide)), r1, Option.bind_some, nI_1]) 11 0 FU _ (by omega) (FU_lt (by omega)) (Sat_0 hp bp)
  refine ⟨y, ?_, q2⟩
  unfold r8_groupOf
  rw [show l8_groupOf_6 I FU ((1 : Int32) <<< (nI p &&& 31)) 1 = some y from q1, Option.bind_some]
theorem groupM {M : mI} {c : Nat → Int32} {n np : Nat} (hnp : np ≤ 12) (e6 : M 119 6 = nI np) (hE : ∀ a b, Edg c n a b → a < np) (hg : ∀ p i, p < 12 → i < 32 → (bt (M 141 p) i = true ↔ Edg c n p i)) {p : Nat} (hp : p < 12) : ∃ y, r10_groupOf M (nI p) = some y ∧ Sat (Edg c n) ((1 : Int32) <<< (nI p &&& 31)) 12 y := by
  have bp : bt ((1 : Int32) <<< (nI p &&& 31)) p = true := by rw [sh1 (by omega) (by omega)]; simp
  obtain ⟨y, q1, q2⟩ := loop1 (fun f k (a : Int32) => l10_groupOf_6 M f a (nI k)) (fun k y => Sat (Edg c n) ((1 : Int32) <<< (nI p &&& 31)) k y) (fun y => Sat (Edg c n) ((1 : Int32) <<< (nI p &&& 31)) 12 y) 12
    (fun a h => ⟨a, fun f => by show l10_groupOf_6 _ (f + 1) _ _ = _; rw [l10_groupOf_6, if_pos (by decide)], h⟩)
    (fun k y hk h => by
      obtain ⟨z, r1, r2⟩ := roundM hnp e6 hE hg y
      refine .inr ⟨z, fun f _ => ?_, Sat_step (fun a b ⟨l, _, _, ha, hb⟩ => ⟨ha, hb⟩) h r2⟩
      show l10_groupOf_6 _ (f + 1) _ _ = _
      rw [l10_groupOf_6, if_neg (show ¬ (12 : Int32) ≤ nI k from nI_ge (b := 12) (by omega) (by decide)), r1, Option.bind_some, nI_1]) 12 0 FU _ (by omega) (FU_lt (by omega)) (Sat_0 hp bp)
  refine ⟨y, ?_, q2⟩
  unfold r10_groupOf
  rw [show l10_groupOf_6 M FU ((1 : Int32) <<< (nI p &&& 31)) 0 = some y from q1, Option.bind_some]
theorem ahead_bt : ∀ p, p < 12 → ∀ i, i < 32 → bt (((1 : Int32) <<< (nI p &&& 31)) - 1) i = decide (i < p) := by decide +kernel
theorem and0_bt {x y : Int32} : x &&& y = 0 ↔ ∀ i, i < 32 → ¬ (bt x i = true ∧ bt y i = true) := by
  constructor
  · intro h i _ q
    have : bt (x &&& y) i = true := by rw [b_and, q.1, q.2]; rfl
    rw [h, b_0] at this
    exact absurd this (by decide)
  · intro h
    refine b_ext (fun i hi => ?_)
    rw [b_0, b_and]
    have := h i hi
    cases e1 : bt x i <;> cases e2 : bt y i <;> simp_all
theorem op_alike : S_alike Inv := by
  intro I s h x0
  obtain ⟨np, nq, hnp, hnq, en1, en2, en3, en4⟩ := RelC_n h.1
  obtain ⟨n, hn, em, ef, hl, hg⟩ := h.1.2.2.2.2.1
  have hl2 : ∀ l, l < n → ∃ a b, a < 12 ∧ b < 12 ∧ I 25 (9 * l) = nI a ∧ I 25 (9 * l + 1) = nI b := fun l h' => by
    obtain ⟨a, b, h1, h2, h3, h4, h5, h6, h7⟩ := hl l h'
    exact ⟨a, b, h1, h2, h6, h7⟩
  have hl3 : ∀ l, l < n → ∃ a b, a < 12 ∧ b < 12 ∧ a ≠ b ∧ I 25 (9 * l) = nI a ∧ I 25 (9 * l + 1) = nI b := fun l h' => by
    obtain ⟨a, b, h1, h2, h3, h4, h5, h6, h7⟩ := hl l h'
    exact ⟨a, b, h1, h2, h3, h6, h7⟩
  have hE : ∀ a b, Edg (I 25) n a b → a < 12 ∧ b < 12 := fun a b ⟨l, _, _, ha, hb⟩ => ⟨ha, hb⟩
  have hEp : ∀ a b, Edg (I 25) n a b → a < np := fun a b ⟨l, hl', e, ha, hb⟩ => by
    obtain ⟨u, v, h1, h2, h3, h4, h5, h6, h7⟩ := hl l hl'
    rw [en2, nI_ltI (by omega) (by omega)] at h4 h5
    rw [h6, h7, nI_eq (by omega) (by omega), nI_eq (by omega) (by omega), nI_eq (by omega) (by omega), nI_eq (by omega) (by omega)] at e
    omega
  have m6 : (mW I 119 0 0) 119 6 = nI np := by rw [mW_off _ _ (by decide), en2]
  have hg2 : ∀ p i, p < 12 → i < 32 → (bt ((mW I 119 0 0) 141 p) i = true ↔ Edg (I 25) n p i) := fun p i hp hi => by
    rw [mW_ne _ _ _ (by decide), hg p hp]
    exact bt_like hp hi n hn hl3
  have gC : ∀ p, p < 12 → ∃ y, r8_groupOf I (nI p) = some y ∧ ∀ i, bt y i = true ↔ InG (Edg (I 25) n) p i := fun p hp => by
    obtain ⟨y, q, r⟩ := groupC hn ef hl2 hp
    exact ⟨y, q, Sat_in hE hp (by omega) r⟩
  have gM : ∀ p, p < 12 → ∃ y, r10_groupOf (mW I 119 0 0) (nI p) = some y ∧ ∀ i, bt y i = true ↔ InG (Edg (I 25) n) p i := fun p hp => by
    obtain ⟨y, q, r⟩ := groupM hnp m6 hEp hg2 hp
    exact ⟨y, q, Sat_in hE hp (by omega) r⟩
  by_cases z : x0 = -1
  · subst z
    obtain ⟨x, ⟨y, t⟩, q1, q2, e⟩ := loop2x (fun f k (a : Int32) => l8_groups_4 I f a (nI k)) (fun f k (b : Int32 × Int32) => (l10_alike_35 (mW I 119 0 0) f b.1 b.2 (nI k)).bind fun v => some (v, (0 : Int32))) (fun k a b => a = b.1 ∧ ∀ i, i < 32 → (bt b.2 i = true ↔ ∃ q, q < k ∧ InG (Edg (I 25) n) q i)) (fun a b => a = b.1) np
      (fun a b ⟨e, _⟩ => ⟨a, (b.1, 0), fun f => by show l8_groups_4 _ (f + 1) _ _ = _; rw [l8_groups_4, en1, if_pos (by rw [i32_le]; omega)], fun f => by show (l10_alike_35 _ (f + 1) _ _ _).bind _ = _; rw [l10_alike_35, m6, if_pos (by rw [i32_le]; omega), Option.bind_some], e⟩)
      (fun k a b hk ⟨e, hb⟩ => by
        obtain ⟨b, u⟩ := b
        have e : a = b := e
        subst e
        have hb : ∀ i, i < 32 → (bt u i = true ↔ ∃ q, q < k ∧ InG (Edg (I 25) n) q i) := hb
        obtain ⟨g, g1, g2⟩ := gC k (by omega)
        obtain ⟨g', g1', g2'⟩ := gM k (by omega)
        have test : g &&& (((1 : Int32) <<< (nI k &&& 31)) - 1) = 0 ↔ ¬ bt u k = true := by
          rw [and0_bt, hb k (by omega)]
          constructor
          · rintro h' ⟨q, hq, hi⟩
            exact h' q (by omega) ⟨(g2 q).mpr (InG_sym (fun a b => Edg_sym) hi), by rw [ahead_bt k (by omega) q (by omega)]; simpa using hq⟩
          · rintro h' i hi ⟨q1, q2⟩
            rw [ahead_bt k (by omega) i hi] at q2
            exact h' ⟨i, by simpa using q2, InG_sym (fun a b => Edg_sym) ((g2 i).mp q1)⟩
        refine .inr ⟨if bt u k = true then a else a + 1, (if bt u k = true then a else a + 1, u ||| g'), fun f _ => ?_, fun f _ => ?_, rfl, fun i hi => ?_⟩
        · show l8_groups_4 _ (f + 1) _ _ = _
          rw [l8_groups_4, en1, if_neg (nI_ge hk (by omega)), g1, Option.bind_some]
          by_cases w : bt u k = true
          · rw [if_neg (fun q => test.mp q w), if_pos w, Option.bind_some, nI_1]
          · rw [if_pos (test.mpr w), if_neg w, Option.bind_some, nI_1]
        · show (l10_alike_35 _ (f + 1) _ _ _).bind _ = _
          rw [l10_alike_35, m6, if_neg (nI_ge hk (by omega)), has_bt _ (by omega)]
          by_cases w : bt u k = true
          · rw [if_pos w, if_neg one_n0, if_pos w, Option.bind_some, g1', Option.bind_some, nI_1]
          · rw [if_neg w, if_pos rfl, if_neg w, Option.bind_some, g1', Option.bind_some, nI_1]
        · show bt (u ||| g') i = true ↔ _
          rw [b_or, Bool.or_eq_true, hb i hi, g2' i]
          constructor
          · rintro (⟨q, hq, h'⟩ | h')
            · exact ⟨q, by omega, h'⟩
            · exact ⟨k, by omega, h'⟩
          · rintro ⟨q, hq, h'⟩
            by_cases e : q = k
            · subst e; exact .inr h'
            · exact .inl ⟨q, by omega, h'⟩) np 0 FU FU 0 (0, 0) (by omega) (FU_lt (by omega)) (FU_lt (by omega)) ⟨rfl, fun i _ => by
        show bt 0 i = true ↔ _
        rw [b_0]
        constructor
        · intro h'; exact absurd h' (by decide)
        · rintro ⟨q, hq, _⟩; exact absurd hq (Nat.not_lt_zero _)⟩
    have e : x = y := e
    subst e
    have q1 : l8_groups_4 I FU 0 0 = some x := q1
    have q2 : ((l10_alike_35 (mW I 119 0 0) FU 0 0 0).bind fun v => some (v, (0 : Int32))) = some (x, t) := q2
    have q3 : l10_alike_35 (mW I 119 0 0) FU 0 0 0 = some x := by
      cases hz : l10_alike_35 (mW I 119 0 0) FU 0 0 0 with
      | none => rw [hz] at q2; exact absurd q2 (by simp)
      | some w =>
        rw [hz, Option.bind_some] at q2
        exact congrArg some (congrArg Prod.fst (Option.some.inj q2))
    refine ex1 (v := x) (v' := x) (I2 := mW I 119 0 0) ?_ ?_ rfl (Inv_told 0 h)
    · unfold r9_alike r8_groups
      rw [if_pos rfl, q1, Option.bind_some, Option.bind_some]
    · unfold r10_alike
      rw [if_pos rfl, q3, Option.bind_some]
  by_cases b : r0_hasPiece I x0 = 0
  · refine ex1 (v := -1) (v' := -1) (I2 := mW I 119 0 0) ?_ ?_ rfl (Inv_told 0 h)
    · unfold r9_alike
      rw [if_neg z, if_pos b, Option.bind_some]
    · unfold r10_alike
      rw [if_neg z, isPiece_e hnp en1 m6, if_pos b, Option.bind_some]
  obtain ⟨p, hp, rfl⟩ := hasPiece_t hnp en1 b
  obtain ⟨g, g1, g2⟩ := gC p (by omega)
  obtain ⟨g', g1', g2'⟩ := gM p (by omega)
  have e : g' = g := b_ext (fun i _ => by
    have := (g2 i).trans (g2' i).symm
    cases e1 : bt g i <;> cases e2 : bt g' i <;> simp_all)
  subst e
  refine ex1 (v := g') (v' := g') (I2 := mW I 119 0 0) ?_ ?_ rfl (Inv_told 0 h)
  · unfold r9_alike
    rw [if_neg z, if_neg b, g1, Option.bind_some, Option.bind_some]
  · unfold r10_alike
    rw [if_neg z, isPiece_e hnp en1 m6, if_neg b, g1', Option.bind_some, Option.bind_some]

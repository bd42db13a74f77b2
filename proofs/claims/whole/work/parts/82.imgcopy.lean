/-! AN IMAGE: the class's copies -/
theorem cpO_u (I : mI) (a0 a N : Nat) {u : Nat} (hu : u ≤ N) (hN : N < 2 ^ 31) : mCpO I a0 N a N 0 0 (nI u) = some (mU I a (va_cpy (I a0) (I a) 0 0 u)) := by
  unfold mCpO
  rw [if_neg (by
    have := nI_pos (n := u) (by omega)
    rw [nI_clamp (by omega)]
    simp [this]
    omega), nI_clamp (by omega)]
  rfl
theorem min400 {u : Nat} (hu : u ≤ 400) : mMin (mMin (nI u) 400) 400 = nI u := by
  have e : mMin (nI u) 400 = nI u := by
    unfold mMin
    by_cases z : u = 400
    · subst z; decide
    · rw [if_neg (show ¬ (400 : Int32) < nI u from nI_nlt (a := 400) (by omega) (by decide))]
  rw [e, e]
theorem min0 : mMin (mMin 0 0) 0 = 0 := by decide
theorem cp_r0_copyFrom_50 (I : mI) : ∃ J, r0_copyFrom_50_8 I = some J ∧ (∀ a, ¬ (50 ≤ a ∧ a ≤ 55) → J a = I a) ∧ J 50 6 = I 8 6 ∧ J 50 7 = I 8 7 ∧ eqOn 12 (J 51) (I 9) ∧ eqOn 12 (J 52) (I 10) ∧ eqOn 12 (J 53) (I 11) ∧ eqOn 6 (J 54) (I 12) ∧ eqOn 6 (J 55) (I 13) := by
  unfold r0_copyFrom_50_8
  rw [cpO_e _ _ _ 12 (n := 12) rfl (by decide), Option.bind_some, cpO_e _ _ _ 12 (n := 12) rfl (by decide), Option.bind_some, cpO_e _ _ _ 12 (n := 12) rfl (by decide), Option.bind_some, cpO_e _ _ _ 6 (n := 6) rfl (by decide), Option.bind_some, cpO_e _ _ _ 6 (n := 6) rfl (by decide), Option.bind_some]
  refine ⟨_, rfl, fun a ha => ?_, rfl, rfl, fun k hk => cpy_in hk, fun k hk => cpy_in hk, fun k hk => cpy_in hk, fun k hk => cpy_in hk, fun k hk => cpy_in hk⟩
  rw [mW_ne _ _ _ (by omega), mW_ne _ _ _ (by omega), mU_ne _ _ (by omega), mU_ne _ _ (by omega), mU_ne _ _ (by omega), mU_ne _ _ (by omega), mU_ne _ _ (by omega)]
theorem cp_r0_copyFrom_8 (I : mI) : ∃ J, r0_copyFrom_8_50 I = some J ∧ (∀ a, ¬ (8 ≤ a ∧ a ≤ 13) → J a = I a) ∧ J 8 6 = I 50 6 ∧ J 8 7 = I 50 7 ∧ eqOn 12 (J 9) (I 51) ∧ eqOn 12 (J 10) (I 52) ∧ eqOn 12 (J 11) (I 53) ∧ eqOn 6 (J 12) (I 54) ∧ eqOn 6 (J 13) (I 55) := by
  unfold r0_copyFrom_8_50
  rw [cpO_e _ _ _ 12 (n := 12) rfl (by decide), Option.bind_some, cpO_e _ _ _ 12 (n := 12) rfl (by decide), Option.bind_some, cpO_e _ _ _ 12 (n := 12) rfl (by decide), Option.bind_some, cpO_e _ _ _ 6 (n := 6) rfl (by decide), Option.bind_some, cpO_e _ _ _ 6 (n := 6) rfl (by decide), Option.bind_some]
  refine ⟨_, rfl, fun a ha => ?_, rfl, rfl, fun k hk => cpy_in hk, fun k hk => cpy_in hk, fun k hk => cpy_in hk, fun k hk => cpy_in hk, fun k hk => cpy_in hk⟩
  rw [mW_ne _ _ _ (by omega), mW_ne _ _ _ (by omega), mU_ne _ _ (by omega), mU_ne _ _ (by omega), mU_ne _ _ (by omega), mU_ne _ _ (by omega), mU_ne _ _ (by omega)]
theorem cp_r1_copyFrom_69 (I : mI) : ∃ J, r1_copyFrom_69_27 I = some J ∧ (∀ a, ¬ (69 ≤ a ∧ a ≤ 74) → J a = I a) ∧ J 69 5 = I 27 5 ∧ J 69 6 = I 27 6 ∧ eqOn 16 (J 70) (I 28) ∧ eqOn 8 (J 71) (I 29) ∧ eqOn 9 (J 72) (I 30) ∧ eqOn 9 (J 73) (I 31) ∧ eqOn 9 (J 74) (I 32) := by
  unfold r1_copyFrom_69_27
  rw [cpO_e _ _ _ 16 (n := 16) rfl (by decide), Option.bind_some, cpO_e _ _ _ 8 (n := 8) rfl (by decide), Option.bind_some, cpO_e _ _ _ 9 (n := 9) rfl (by decide), Option.bind_some, cpO_e _ _ _ 9 (n := 9) rfl (by decide), Option.bind_some, cpO_e _ _ _ 9 (n := 9) rfl (by decide), Option.bind_some]
  refine ⟨_, rfl, fun a ha => ?_, rfl, rfl, fun k hk => cpy_in hk, fun k hk => cpy_in hk, fun k hk => cpy_in hk, fun k hk => cpy_in hk, fun k hk => cpy_in hk⟩
  rw [mW_ne _ _ _ (by omega), mW_ne _ _ _ (by omega), mU_ne _ _ (by omega), mU_ne _ _ (by omega), mU_ne _ _ (by omega), mU_ne _ _ (by omega), mU_ne _ _ (by omega)]
theorem cp_r1_copyFrom_27 (I : mI) : ∃ J, r1_copyFrom_27_69 I = some J ∧ (∀ a, ¬ (27 ≤ a ∧ a ≤ 32) → J a = I a) ∧ J 27 5 = I 69 5 ∧ J 27 6 = I 69 6 ∧ eqOn 16 (J 28) (I 70) ∧ eqOn 8 (J 29) (I 71) ∧ eqOn 9 (J 30) (I 72) ∧ eqOn 9 (J 31) (I 73) ∧ eqOn 9 (J 32) (I 74) := by
  unfold r1_copyFrom_27_69
  rw [cpO_e _ _ _ 16 (n := 16) rfl (by decide), Option.bind_some, cpO_e _ _ _ 8 (n := 8) rfl (by decide), Option.bind_some, cpO_e _ _ _ 9 (n := 9) rfl (by decide), Option.bind_some, cpO_e _ _ _ 9 (n := 9) rfl (by decide), Option.bind_some, cpO_e _ _ _ 9 (n := 9) rfl (by decide), Option.bind_some]
  refine ⟨_, rfl, fun a ha => ?_, rfl, rfl, fun k hk => cpy_in hk, fun k hk => cpy_in hk, fun k hk => cpy_in hk, fun k hk => cpy_in hk, fun k hk => cpy_in hk⟩
  rw [mW_ne _ _ _ (by omega), mW_ne _ _ _ (by omega), mU_ne _ _ (by omega), mU_ne _ _ (by omega), mU_ne _ _ (by omega), mU_ne _ _ (by omega), mU_ne _ _ (by omega)]
theorem cp_r6_57 (I : mI) {u : Nat} (hu : u ≤ 400) (e : I 15 3 = nI u) : ∃ J, r6_copyFrom_57_15 I = some J ∧ (∀ a, ¬ (57 ≤ a ∧ a ≤ 59) → J a = I a) ∧ J 57 2 = I 15 2 ∧ J 57 3 = nI u ∧ eqOn 144 (J 58) (I 16) ∧ eqOn u (J 59) (I 17) := by
  unfold r6_copyFrom_57_15
  rw [cpO_e _ _ _ 144 (n := 144) rfl (by decide), Option.bind_some, mU_ne _ _ (show 15 ≠ 58 by decide), e, min400 hu, cpO_u _ _ _ 400 hu (by decide), Option.bind_some]
  refine ⟨_, rfl, fun a ha => ?_, rfl, rfl, fun k hk => cpy_in hk, fun k hk => cpy_in hk⟩
  rw [mW_ne _ _ _ (by omega), mU_ne _ _ (by omega), mW_ne _ _ _ (by omega), mU_ne _ _ (by omega)]
theorem cp_r6_15 (I : mI) {u : Nat} (hu : u ≤ 400) (e : I 57 3 = nI u) : ∃ J, r6_copyFrom_15_57 I = some J ∧ (∀ a, ¬ (15 ≤ a ∧ a ≤ 17) → J a = I a) ∧ J 15 2 = I 57 2 ∧ J 15 3 = nI u ∧ eqOn 144 (J 16) (I 58) ∧ eqOn u (J 17) (I 59) := by
  unfold r6_copyFrom_15_57
  rw [cpO_e _ _ _ 144 (n := 144) rfl (by decide), Option.bind_some, mU_ne _ _ (show 57 ≠ 16 by decide), e, min400 hu, cpO_u _ _ _ 400 hu (by decide), Option.bind_some]
  refine ⟨_, rfl, fun a ha => ?_, rfl, rfl, fun k hk => cpy_in hk, fun k hk => cpy_in hk⟩
  rw [mW_ne _ _ _ (by omega), mU_ne _ _ (by omega), mW_ne _ _ _ (by omega), mU_ne _ _ (by omega)]
theorem cp_r6_60 (I : mI) (e : I 18 3 = 0) : ∃ J, r6_copyFrom_60_18 I = some J ∧ (∀ a, ¬ (60 ≤ a ∧ a ≤ 62) → J a = I a) ∧ J 60 2 = I 18 2 ∧ J 60 3 = 0 ∧ eqOn 144 (J 61) (I 19) := by
  unfold r6_copyFrom_60_18
  rw [cpO_e _ _ _ 144 (n := 144) rfl (by decide), Option.bind_some, mU_ne _ _ (show 18 ≠ 61 by decide), e, min0, cpO_e _ _ _ 0 (n := 0) rfl (by decide), Option.bind_some]
  refine ⟨_, rfl, fun a ha => ?_, rfl, rfl, fun k hk => cpy_in hk⟩
  rw [mW_ne _ _ _ (by omega), mU_ne _ _ (by omega), mW_ne _ _ _ (by omega), mU_ne _ _ (by omega)]
theorem cp_r6_63 (I : mI) (e : I 21 3 = 0) : ∃ J, r6_copyFrom_63_21 I = some J ∧ (∀ a, ¬ (63 ≤ a ∧ a ≤ 65) → J a = I a) ∧ J 63 2 = I 21 2 ∧ J 63 3 = 0 ∧ eqOn 144 (J 64) (I 22) := by
  unfold r6_copyFrom_63_21
  rw [cpO_e _ _ _ 144 (n := 144) rfl (by decide), Option.bind_some, mU_ne _ _ (show 21 ≠ 64 by decide), e, min0, cpO_e _ _ _ 0 (n := 0) rfl (by decide), Option.bind_some]
  refine ⟨_, rfl, fun a ha => ?_, rfl, rfl, fun k hk => cpy_in hk⟩
  rw [mW_ne _ _ _ (by omega), mU_ne _ _ (by omega), mW_ne _ _ _ (by omega), mU_ne _ _ (by omega)]
theorem cp_r6_66 (I : mI) (e : I 24 3 = 0) : ∃ J, r6_copyFrom_66_24 I = some J ∧ (∀ a, ¬ (66 ≤ a ∧ a ≤ 68) → J a = I a) ∧ J 66 2 = I 24 2 ∧ J 66 3 = 0 ∧ eqOn 144 (J 67) (I 25) := by
  unfold r6_copyFrom_66_24
  rw [cpO_e _ _ _ 144 (n := 144) rfl (by decide), Option.bind_some, mU_ne _ _ (show 24 ≠ 67 by decide), e, min0, cpO_e _ _ _ 0 (n := 0) rfl (by decide), Option.bind_some]
  refine ⟨_, rfl, fun a ha => ?_, rfl, rfl, fun k hk => cpy_in hk⟩
  rw [mW_ne _ _ _ (by omega), mU_ne _ _ (by omega), mW_ne _ _ _ (by omega), mU_ne _ _ (by omega)]
theorem cp_r6_18 (I : mI) (e : I 60 3 = 0) : ∃ J, r6_copyFrom_18_60 I = some J ∧ (∀ a, ¬ (18 ≤ a ∧ a ≤ 20) → J a = I a) ∧ J 18 2 = I 60 2 ∧ J 18 3 = 0 ∧ eqOn 144 (J 19) (I 61) := by
  unfold r6_copyFrom_18_60
  rw [cpO_e _ _ _ 144 (n := 144) rfl (by decide), Option.bind_some, mU_ne _ _ (show 60 ≠ 19 by decide), e, min0, cpO_e _ _ _ 0 (n := 0) rfl (by decide), Option.bind_some]
  refine ⟨_, rfl, fun a ha => ?_, rfl, rfl, fun k hk => cpy_in hk⟩
  rw [mW_ne _ _ _ (by omega), mU_ne _ _ (by omega), mW_ne _ _ _ (by omega), mU_ne _ _ (by omega)]
theorem cp_r6_21 (I : mI) (e : I 63 3 = 0) : ∃ J, r6_copyFrom_21_63 I = some J ∧ (∀ a, ¬ (21 ≤ a ∧ a ≤ 23) → J a = I a) ∧ J 21 2 = I 63 2 ∧ J 21 3 = 0 ∧ eqOn 144 (J 22) (I 64) := by
  unfold r6_copyFrom_21_63
  rw [cpO_e _ _ _ 144 (n := 144) rfl (by decide), Option.bind_some, mU_ne _ _ (show 63 ≠ 22 by decide), e, min0, cpO_e _ _ _ 0 (n := 0) rfl (by decide), Option.bind_some]
  refine ⟨_, rfl, fun a ha => ?_, rfl, rfl, fun k hk => cpy_in hk⟩
  rw [mW_ne _ _ _ (by omega), mU_ne _ _ (by omega), mW_ne _ _ _ (by omega), mU_ne _ _ (by omega)]
theorem cp_r6_24 (I : mI) (e : I 66 3 = 0) : ∃ J, r6_copyFrom_24_66 I = some J ∧ (∀ a, ¬ (24 ≤ a ∧ a ≤ 26) → J a = I a) ∧ J 24 2 = I 66 2 ∧ J 24 3 = 0 ∧ eqOn 144 (J 25) (I 67) := by
  unfold r6_copyFrom_24_66
  rw [cpO_e _ _ _ 144 (n := 144) rfl (by decide), Option.bind_some, mU_ne _ _ (show 66 ≠ 25 by decide), e, min0, cpO_e _ _ _ 0 (n := 0) rfl (by decide), Option.bind_some]
  refine ⟨_, rfl, fun a ha => ?_, rfl, rfl, fun k hk => cpy_in hk⟩
  rw [mW_ne _ _ _ (by omega), mU_ne _ _ (by omega), mW_ne _ _ _ (by omega), mU_ne _ _ (by omega)]
/-- two worlds alike on what is used -/
def EqC (c c' : mI) : Prop := (∀ k, 4 ≤ k → k ≤ 12 → c' 3 k = c 3 k) ∧ eqOn 12 (c' 4) (c 4) ∧ eqOn 12 (c' 5) (c 5) ∧ eqOn 6 (c' 6) (c 6) ∧ eqOn 8 (c' 7) (c 7) ∧ (c' 8 6 = c 8 6 ∧ c' 8 7 = c 8 7) ∧ eqOn 12 (c' 9) (c 9) ∧ eqOn 12 (c' 10) (c 10) ∧ eqOn 12 (c' 11) (c 11) ∧ eqOn 6 (c' 12) (c 12) ∧ eqOn 6 (c' 13) (c 13) ∧ (c' 15 2 = c 15 2 ∧ c' 15 3 = c 15 3) ∧ eqOn 144 (c' 16) (c 16) ∧ (∀ u, u ≤ 400 → c 15 3 = nI u → eqOn u (c' 17) (c 17)) ∧ (c' 18 2 = c 18 2 ∧ c' 18 3 = 0) ∧ eqOn 144 (c' 19) (c 19) ∧ (c' 21 2 = c 21 2 ∧ c' 21 3 = 0) ∧ eqOn 144 (c' 22) (c 22) ∧ (c' 24 2 = c 24 2 ∧ c' 24 3 = 0) ∧ eqOn 144 (c' 25) (c 25) ∧ (c' 27 5 = c 27 5 ∧ c' 27 6 = c 27 6) ∧ eqOn 16 (c' 28) (c 28) ∧ eqOn 8 (c' 29) (c 29) ∧ eqOn 9 (c' 30) (c 30) ∧ eqOn 9 (c' 31) (c 31) ∧ eqOn 9 (c' 32) (c 32) ∧ eqOn 600 (c' 34) (c 34)
theorem world_to (I : mI) {u : Nat} (hu : u ≤ 400) (e15 : I 15 3 = nI u) (e18 : I 18 3 = 0) (e21 : I 21 3 = 0) (e24 : I 24 3 = 0) : ∃ J, r8_copyFrom_44_2 I = some J ∧ (∀ a, ¬ (45 ≤ a ∧ a ≤ 76) → J a = I a) ∧ EqC (fun k => I (k + 0)) (fun k => J (k + 42)) := by
  obtain ⟨J1, q1, f1, a0, a1, a2, a3, a4⟩ := copy_e I (a := 45) (b := 3) (by omega)
  obtain ⟨J2, q2, f2, b1, b2, b3, b4, b5, b6, b7⟩ := cp_r0_copyFrom_50 J1
  obtain ⟨J3, q3, f3, c1, c2, c3, c4⟩ := cp_r6_57 J2 hu (by rw [f2 15 (by omega), f1 15 (by omega)]; exact e15)
  obtain ⟨J4, q4, f4, d1, d2, d3⟩ := cp_r6_60 J3 (by rw [f3 18 (by omega), f2 18 (by omega), f1 18 (by omega)]; exact e18)
  obtain ⟨J5, q5, f5, g1, g2, g3⟩ := cp_r6_63 J4 (by rw [f4 21 (by omega), f3 21 (by omega), f2 21 (by omega), f1 21 (by omega)]; exact e21)
  obtain ⟨J6, q6, f6, h1, h2, h3⟩ := cp_r6_66 J5 (by rw [f5 24 (by omega), f4 24 (by omega), f3 24 (by omega), f2 24 (by omega), f1 24 (by omega)]; exact e24)
  obtain ⟨J7, q7, f7, i1, i2, i3, i4, i5, i6, i7⟩ := cp_r1_copyFrom_69 J6
  have f8 : ∀ a, a ≠ 76 → (mU J7 76 (va_cpy (J7 34) (J7 76) 0 0 600)) a = J7 a := fun a ha => mU_ne _ _ ha
  refine ⟨mU J7 76 (va_cpy (J7 34) (J7 76) 0 0 600), ?_, fun a ha => ?_, ?_⟩
  · unfold r8_copyFrom_44_2
    rw [q1, Option.bind_some, q2, Option.bind_some, q3, Option.bind_some, q4, Option.bind_some, q5, Option.bind_some, q6, Option.bind_some, q7, Option.bind_some, cpO_e _ _ _ 600 (n := 600) rfl (by decide), Option.bind_some]
  · rw [f8 a (by omega), f7 a (by omega), f6 a (by omega), f5 a (by omega), f4 a (by omega), f3 a (by omega), f2 a (by omega), f1 a (by omega)]
  refine ⟨?_, ?_, ?_, ?_, ?_, ⟨?_, ?_⟩, ?_, ?_, ?_, ?_, ?_, ⟨?_, ?_⟩, ?_, ?_, ⟨?_, ?_⟩, ?_, ⟨?_, ?_⟩, ?_, ⟨?_, ?_⟩, ?_, ⟨?_, ?_⟩, ?_, ?_, ?_, ?_, ?_, ?_⟩
  · intro k hk4 hk12
    show (mU J7 76 (va_cpy (J7 34) (J7 76) 0 0 600)) 45 k = I 3 k
    rw [f8 45 (by omega), f7 45 (by omega), f6 45 (by omega), f5 45 (by omega), f4 45 (by omega), f3 45 (by omega), f2 45 (by omega), a0 k hk4 hk12]
  · intro k hk
    show (mU J7 76 (va_cpy (J7 34) (J7 76) 0 0 600)) 46 k = I 4 k
    rw [f8 46 (by omega), f7 46 (by omega), f6 46 (by omega), f5 46 (by omega), f4 46 (by omega), f3 46 (by omega), f2 46 (by omega), a1 k hk]
  · intro k hk
    show (mU J7 76 (va_cpy (J7 34) (J7 76) 0 0 600)) 47 k = I 5 k
    rw [f8 47 (by omega), f7 47 (by omega), f6 47 (by omega), f5 47 (by omega), f4 47 (by omega), f3 47 (by omega), f2 47 (by omega), a2 k hk]
  · intro k hk
    show (mU J7 76 (va_cpy (J7 34) (J7 76) 0 0 600)) 48 k = I 6 k
    rw [f8 48 (by omega), f7 48 (by omega), f6 48 (by omega), f5 48 (by omega), f4 48 (by omega), f3 48 (by omega), f2 48 (by omega), a3 k hk]
  · intro k hk
    show (mU J7 76 (va_cpy (J7 34) (J7 76) 0 0 600)) 49 k = I 7 k
    rw [f8 49 (by omega), f7 49 (by omega), f6 49 (by omega), f5 49 (by omega), f4 49 (by omega), f3 49 (by omega), f2 49 (by omega), a4 k hk]
  · show (mU J7 76 (va_cpy (J7 34) (J7 76) 0 0 600)) 50 6 = I 8 6
    rw [f8 50 (by omega), f7 50 (by omega), f6 50 (by omega), f5 50 (by omega), f4 50 (by omega), f3 50 (by omega), b1, f1 8 (by omega)]
  · show (mU J7 76 (va_cpy (J7 34) (J7 76) 0 0 600)) 50 7 = I 8 7
    rw [f8 50 (by omega), f7 50 (by omega), f6 50 (by omega), f5 50 (by omega), f4 50 (by omega), f3 50 (by omega), b2, f1 8 (by omega)]
  · intro k hk
    show (mU J7 76 (va_cpy (J7 34) (J7 76) 0 0 600)) 51 k = I 9 k
    rw [f8 51 (by omega), f7 51 (by omega), f6 51 (by omega), f5 51 (by omega), f4 51 (by omega), f3 51 (by omega), b3 k hk, f1 9 (by omega)]
  · intro k hk
    show (mU J7 76 (va_cpy (J7 34) (J7 76) 0 0 600)) 52 k = I 10 k
    rw [f8 52 (by omega), f7 52 (by omega), f6 52 (by omega), f5 52 (by omega), f4 52 (by omega), f3 52 (by omega), b4 k hk, f1 10 (by omega)]
  · intro k hk
    show (mU J7 76 (va_cpy (J7 34) (J7 76) 0 0 600)) 53 k = I 11 k
    rw [f8 53 (by omega), f7 53 (by omega), f6 53 (by omega), f5 53 (by omega), f4 53 (by omega), f3 53 (by omega), b5 k hk, f1 11 (by omega)]
  · intro k hk
    show (mU J7 76 (va_cpy (J7 34) (J7 76) 0 0 600)) 54 k = I 12 k
    rw [f8 54 (by omega), f7 54 (by omega), f6 54 (by omega), f5 54 (by omega), f4 54 (by omega), f3 54 (by omega), b6 k hk, f1 12 (by omega)]
  · intro k hk
    show (mU J7 76 (va_cpy (J7 34) (J7 76) 0 0 600)) 55 k = I 13 k
    rw [f8 55 (by omega), f7 55 (by omega), f6 55 (by omega), f5 55 (by omega), f4 55 (by omega), f3 55 (by omega), b7 k hk, f1 13 (by omega)]
  · show (mU J7 76 (va_cpy (J7 34) (J7 76) 0 0 600)) 57 2 = I 15 2
    rw [f8 57 (by omega), f7 57 (by omega), f6 57 (by omega), f5 57 (by omega), f4 57 (by omega), c1, f2 15 (by omega), f1 15 (by omega)]
  · show (mU J7 76 (va_cpy (J7 34) (J7 76) 0 0 600)) 57 3 = I 15 3
    rw [f8 57 (by omega), f7 57 (by omega), f6 57 (by omega), f5 57 (by omega), f4 57 (by omega), c2, e15]
  · intro k hk
    show (mU J7 76 (va_cpy (J7 34) (J7 76) 0 0 600)) 58 k = I 16 k
    rw [f8 58 (by omega), f7 58 (by omega), f6 58 (by omega), f5 58 (by omega), f4 58 (by omega), c3 k hk, f2 16 (by omega), f1 16 (by omega)]
  · intro v hv ev k hk
    have ev : I 15 3 = nI v := ev
    have : u = v := (nI_eq (by omega) (by omega)).mp (by rw [← e15, ev])
    subst this
    show (mU J7 76 (va_cpy (J7 34) (J7 76) 0 0 600)) 59 k = I 17 k
    rw [f8 59 (by omega), f7 59 (by omega), f6 59 (by omega), f5 59 (by omega), f4 59 (by omega), c4 k hk, f2 17 (by omega), f1 17 (by omega)]
  · show (mU J7 76 (va_cpy (J7 34) (J7 76) 0 0 600)) 60 2 = I 18 2
    rw [f8 60 (by omega), f7 60 (by omega), f6 60 (by omega), f5 60 (by omega), d1, f3 18 (by omega), f2 18 (by omega), f1 18 (by omega)]
  · show (mU J7 76 (va_cpy (J7 34) (J7 76) 0 0 600)) 60 3 = 0
    rw [f8 60 (by omega), f7 60 (by omega), f6 60 (by omega), f5 60 (by omega), d2]
  · intro k hk
    show (mU J7 76 (va_cpy (J7 34) (J7 76) 0 0 600)) 61 k = I 19 k
    rw [f8 61 (by omega), f7 61 (by omega), f6 61 (by omega), f5 61 (by omega), d3 k hk, f3 19 (by omega), f2 19 (by omega), f1 19 (by omega)]
  · show (mU J7 76 (va_cpy (J7 34) (J7 76) 0 0 600)) 63 2 = I 21 2
    rw [f8 63 (by omega), f7 63 (by omega), f6 63 (by omega), g1, f4 21 (by omega), f3 21 (by omega), f2 21 (by omega), f1 21 (by omega)]
  · show (mU J7 76 (va_cpy (J7 34) (J7 76) 0 0 600)) 63 3 = 0
    rw [f8 63 (by omega), f7 63 (by omega), f6 63 (by omega), g2]
  · intro k hk
    show (mU J7 76 (va_cpy (J7 34) (J7 76) 0 0 600)) 64 k = I 22 k
    rw [f8 64 (by omega), f7 64 (by omega), f6 64 (by omega), g3 k hk, f4 22 (by omega), f3 22 (by omega), f2 22 (by omega), f1 22 (by omega)]
  · show (mU J7 76 (va_cpy (J7 34) (J7 76) 0 0 600)) 66 2 = I 24 2
    rw [f8 66 (by omega), f7 66 (by omega), h1, f5 24 (by omega), f4 24 (by omega), f3 24 (by omega), f2 24 (by omega), f1 24 (by omega)]
  · show (mU J7 76 (va_cpy (J7 34) (J7 76) 0 0 600)) 66 3 = 0
    rw [f8 66 (by omega), f7 66 (by omega), h2]
  · intro k hk
    show (mU J7 76 (va_cpy (J7 34) (J7 76) 0 0 600)) 67 k = I 25 k
    rw [f8 67 (by omega), f7 67 (by omega), h3 k hk, f5 25 (by omega), f4 25 (by omega), f3 25 (by omega), f2 25 (by omega), f1 25 (by omega)]
  · show (mU J7 76 (va_cpy (J7 34) (J7 76) 0 0 600)) 69 5 = I 27 5
    rw [f8 69 (by omega), i1, f6 27 (by omega), f5 27 (by omega), f4 27 (by omega), f3 27 (by omega), f2 27 (by omega), f1 27 (by omega)]
  · show (mU J7 76 (va_cpy (J7 34) (J7 76) 0 0 600)) 69 6 = I 27 6
    rw [f8 69 (by omega), i2, f6 27 (by omega), f5 27 (by omega), f4 27 (by omega), f3 27 (by omega), f2 27 (by omega), f1 27 (by omega)]
  · intro k hk
    show (mU J7 76 (va_cpy (J7 34) (J7 76) 0 0 600)) 70 k = I 28 k
    rw [f8 70 (by omega), i3 k hk, f6 28 (by omega), f5 28 (by omega), f4 28 (by omega), f3 28 (by omega), f2 28 (by omega), f1 28 (by omega)]
  · intro k hk
    show (mU J7 76 (va_cpy (J7 34) (J7 76) 0 0 600)) 71 k = I 29 k
    rw [f8 71 (by omega), i4 k hk, f6 29 (by omega), f5 29 (by omega), f4 29 (by omega), f3 29 (by omega), f2 29 (by omega), f1 29 (by omega)]
  · intro k hk
    show (mU J7 76 (va_cpy (J7 34) (J7 76) 0 0 600)) 72 k = I 30 k
    rw [f8 72 (by omega), i5 k hk, f6 30 (by omega), f5 30 (by omega), f4 30 (by omega), f3 30 (by omega), f2 30 (by omega), f1 30 (by omega)]
  · intro k hk
    show (mU J7 76 (va_cpy (J7 34) (J7 76) 0 0 600)) 73 k = I 31 k
    rw [f8 73 (by omega), i6 k hk, f6 31 (by omega), f5 31 (by omega), f4 31 (by omega), f3 31 (by omega), f2 31 (by omega), f1 31 (by omega)]
  · intro k hk
    show (mU J7 76 (va_cpy (J7 34) (J7 76) 0 0 600)) 74 k = I 32 k
    rw [f8 74 (by omega), i7 k hk, f6 32 (by omega), f5 32 (by omega), f4 32 (by omega), f3 32 (by omega), f2 32 (by omega), f1 32 (by omega)]
  · intro k hk
    show (mU J7 76 (va_cpy (J7 34) (J7 76) 0 0 600)) 76 k = I 34 k
    rw [mU_eq, cpy_in hk, f7 34 (by omega), f6 34 (by omega), f5 34 (by omega), f4 34 (by omega), f3 34 (by omega), f2 34 (by omega), f1 34 (by omega)]
theorem world_from (I : mI) {u : Nat} (hu : u ≤ 400) (e15 : I 57 3 = nI u) (e18 : I 60 3 = 0) (e21 : I 63 3 = 0) (e24 : I 66 3 = 0) : ∃ J, r8_copyFrom_2_44 I = some J ∧ (∀ a, ¬ (3 ≤ a ∧ a ≤ 34) → J a = I a) ∧ EqC (fun k => I (k + 42)) (fun k => J (k + 0)) := by
  obtain ⟨J1, q1, f1, a0, a1, a2, a3, a4⟩ := copy_e I (a := 3) (b := 45) (by omega)
  obtain ⟨J2, q2, f2, b1, b2, b3, b4, b5, b6, b7⟩ := cp_r0_copyFrom_8 J1
  obtain ⟨J3, q3, f3, c1, c2, c3, c4⟩ := cp_r6_15 J2 hu (by rw [f2 57 (by omega), f1 57 (by omega)]; exact e15)
  obtain ⟨J4, q4, f4, d1, d2, d3⟩ := cp_r6_18 J3 (by rw [f3 60 (by omega), f2 60 (by omega), f1 60 (by omega)]; exact e18)
  obtain ⟨J5, q5, f5, g1, g2, g3⟩ := cp_r6_21 J4 (by rw [f4 63 (by omega), f3 63 (by omega), f2 63 (by omega), f1 63 (by omega)]; exact e21)
  obtain ⟨J6, q6, f6, h1, h2, h3⟩ := cp_r6_24 J5 (by rw [f5 66 (by omega), f4 66 (by omega), f3 66 (by omega), f2 66 (by omega), f1 66 (by omega)]; exact e24)
  obtain ⟨J7, q7, f7, i1, i2, i3, i4, i5, i6, i7⟩ := cp_r1_copyFrom_27 J6
  have f8 : ∀ a, a ≠ 34 → (mU J7 34 (va_cpy (J7 76) (J7 34) 0 0 600)) a = J7 a := fun a ha => mU_ne _ _ ha
  refine ⟨mU J7 34 (va_cpy (J7 76) (J7 34) 0 0 600), ?_, fun a ha => ?_, ?_⟩
  · unfold r8_copyFrom_2_44
    rw [q1, Option.bind_some, q2, Option.bind_some, q3, Option.bind_some, q4, Option.bind_some, q5, Option.bind_some, q6, Option.bind_some, q7, Option.bind_some, cpO_e _ _ _ 600 (n := 600) rfl (by decide), Option.bind_some]
  · rw [f8 a (by omega), f7 a (by omega), f6 a (by omega), f5 a (by omega), f4 a (by omega), f3 a (by omega), f2 a (by omega), f1 a (by omega)]
  refine ⟨?_, ?_, ?_, ?_, ?_, ⟨?_, ?_⟩, ?_, ?_, ?_, ?_, ?_, ⟨?_, ?_⟩, ?_, ?_, ⟨?_, ?_⟩, ?_, ⟨?_, ?_⟩, ?_, ⟨?_, ?_⟩, ?_, ⟨?_, ?_⟩, ?_, ?_, ?_, ?_, ?_, ?_⟩
  · intro k hk4 hk12
    show (mU J7 34 (va_cpy (J7 76) (J7 34) 0 0 600)) 3 k = I 45 k
    rw [f8 3 (by omega), f7 3 (by omega), f6 3 (by omega), f5 3 (by omega), f4 3 (by omega), f3 3 (by omega), f2 3 (by omega), a0 k hk4 hk12]
  · intro k hk
    show (mU J7 34 (va_cpy (J7 76) (J7 34) 0 0 600)) 4 k = I 46 k
    rw [f8 4 (by omega), f7 4 (by omega), f6 4 (by omega), f5 4 (by omega), f4 4 (by omega), f3 4 (by omega), f2 4 (by omega), a1 k hk]
  · intro k hk
    show (mU J7 34 (va_cpy (J7 76) (J7 34) 0 0 600)) 5 k = I 47 k
    rw [f8 5 (by omega), f7 5 (by omega), f6 5 (by omega), f5 5 (by omega), f4 5 (by omega), f3 5 (by omega), f2 5 (by omega), a2 k hk]
  · intro k hk
    show (mU J7 34 (va_cpy (J7 76) (J7 34) 0 0 600)) 6 k = I 48 k
    rw [f8 6 (by omega), f7 6 (by omega), f6 6 (by omega), f5 6 (by omega), f4 6 (by omega), f3 6 (by omega), f2 6 (by omega), a3 k hk]
  · intro k hk
    show (mU J7 34 (va_cpy (J7 76) (J7 34) 0 0 600)) 7 k = I 49 k
    rw [f8 7 (by omega), f7 7 (by omega), f6 7 (by omega), f5 7 (by omega), f4 7 (by omega), f3 7 (by omega), f2 7 (by omega), a4 k hk]
  · show (mU J7 34 (va_cpy (J7 76) (J7 34) 0 0 600)) 8 6 = I 50 6
    rw [f8 8 (by omega), f7 8 (by omega), f6 8 (by omega), f5 8 (by omega), f4 8 (by omega), f3 8 (by omega), b1, f1 50 (by omega)]
  · show (mU J7 34 (va_cpy (J7 76) (J7 34) 0 0 600)) 8 7 = I 50 7
    rw [f8 8 (by omega), f7 8 (by omega), f6 8 (by omega), f5 8 (by omega), f4 8 (by omega), f3 8 (by omega), b2, f1 50 (by omega)]
  · intro k hk
    show (mU J7 34 (va_cpy (J7 76) (J7 34) 0 0 600)) 9 k = I 51 k
    rw [f8 9 (by omega), f7 9 (by omega), f6 9 (by omega), f5 9 (by omega), f4 9 (by omega), f3 9 (by omega), b3 k hk, f1 51 (by omega)]
  · intro k hk
    show (mU J7 34 (va_cpy (J7 76) (J7 34) 0 0 600)) 10 k = I 52 k
    rw [f8 10 (by omega), f7 10 (by omega), f6 10 (by omega), f5 10 (by omega), f4 10 (by omega), f3 10 (by omega), b4 k hk, f1 52 (by omega)]
  · intro k hk
    show (mU J7 34 (va_cpy (J7 76) (J7 34) 0 0 600)) 11 k = I 53 k
    rw [f8 11 (by omega), f7 11 (by omega), f6 11 (by omega), f5 11 (by omega), f4 11 (by omega), f3 11 (by omega), b5 k hk, f1 53 (by omega)]
  · intro k hk
    show (mU J7 34 (va_cpy (J7 76) (J7 34) 0 0 600)) 12 k = I 54 k
    rw [f8 12 (by omega), f7 12 (by omega), f6 12 (by omega), f5 12 (by omega), f4 12 (by omega), f3 12 (by omega), b6 k hk, f1 54 (by omega)]
  · intro k hk
    show (mU J7 34 (va_cpy (J7 76) (J7 34) 0 0 600)) 13 k = I 55 k
    rw [f8 13 (by omega), f7 13 (by omega), f6 13 (by omega), f5 13 (by omega), f4 13 (by omega), f3 13 (by omega), b7 k hk, f1 55 (by omega)]
  · show (mU J7 34 (va_cpy (J7 76) (J7 34) 0 0 600)) 15 2 = I 57 2
    rw [f8 15 (by omega), f7 15 (by omega), f6 15 (by omega), f5 15 (by omega), f4 15 (by omega), c1, f2 57 (by omega), f1 57 (by omega)]
  · show (mU J7 34 (va_cpy (J7 76) (J7 34) 0 0 600)) 15 3 = I 57 3
    rw [f8 15 (by omega), f7 15 (by omega), f6 15 (by omega), f5 15 (by omega), f4 15 (by omega), c2, e15]
  · intro k hk
    show (mU J7 34 (va_cpy (J7 76) (J7 34) 0 0 600)) 16 k = I 58 k
    rw [f8 16 (by omega), f7 16 (by omega), f6 16 (by omega), f5 16 (by omega), f4 16 (by omega), c3 k hk, f2 58 (by omega), f1 58 (by omega)]
  · intro v hv ev k hk
    have ev : I 57 3 = nI v := ev
    have : u = v := (nI_eq (by omega) (by omega)).mp (by rw [← e15, ev])
    subst this
    show (mU J7 34 (va_cpy (J7 76) (J7 34) 0 0 600)) 17 k = I 59 k
    rw [f8 17 (by omega), f7 17 (by omega), f6 17 (by omega), f5 17 (by omega), f4 17 (by omega), c4 k hk, f2 59 (by omega), f1 59 (by omega)]
  · show (mU J7 34 (va_cpy (J7 76) (J7 34) 0 0 600)) 18 2 = I 60 2
    rw [f8 18 (by omega), f7 18 (by omega), f6 18 (by omega), f5 18 (by omega), d1, f3 60 (by omega), f2 60 (by omega), f1 60 (by omega)]
  · show (mU J7 34 (va_cpy (J7 76) (J7 34) 0 0 600)) 18 3 = 0
    rw [f8 18 (by omega), f7 18 (by omega), f6 18 (by omega), f5 18 (by omega), d2]
  · intro k hk
    show (mU J7 34 (va_cpy (J7 76) (J7 34) 0 0 600)) 19 k = I 61 k
    rw [f8 19 (by omega), f7 19 (by omega), f6 19 (by omega), f5 19 (by omega), d3 k hk, f3 61 (by omega), f2 61 (by omega), f1 61 (by omega)]
  · show (mU J7 34 (va_cpy (J7 76) (J7 34) 0 0 600)) 21 2 = I 63 2
    rw [f8 21 (by omega), f7 21 (by omega), f6 21 (by omega), g1, f4 63 (by omega), f3 63 (by omega), f2 63 (by omega), f1 63 (by omega)]
  · show (mU J7 34 (va_cpy (J7 76) (J7 34) 0 0 600)) 21 3 = 0
    rw [f8 21 (by omega), f7 21 (by omega), f6 21 (by omega), g2]
  · intro k hk
    show (mU J7 34 (va_cpy (J7 76) (J7 34) 0 0 600)) 22 k = I 64 k
    rw [f8 22 (by omega), f7 22 (by omega), f6 22 (by omega), g3 k hk, f4 64 (by omega), f3 64 (by omega), f2 64 (by omega), f1 64 (by omega)]
  · show (mU J7 34 (va_cpy (J7 76) (J7 34) 0 0 600)) 24 2 = I 66 2
    rw [f8 24 (by omega), f7 24 (by omega), h1, f5 66 (by omega), f4 66 (by omega), f3 66 (by omega), f2 66 (by omega), f1 66 (by omega)]
  · show (mU J7 34 (va_cpy (J7 76) (J7 34) 0 0 600)) 24 3 = 0
    rw [f8 24 (by omega), f7 24 (by omega), h2]
  · intro k hk
    show (mU J7 34 (va_cpy (J7 76) (J7 34) 0 0 600)) 25 k = I 67 k
    rw [f8 25 (by omega), f7 25 (by omega), h3 k hk, f5 67 (by omega), f4 67 (by omega), f3 67 (by omega), f2 67 (by omega), f1 67 (by omega)]
  · show (mU J7 34 (va_cpy (J7 76) (J7 34) 0 0 600)) 27 5 = I 69 5
    rw [f8 27 (by omega), i1, f6 69 (by omega), f5 69 (by omega), f4 69 (by omega), f3 69 (by omega), f2 69 (by omega), f1 69 (by omega)]
  · show (mU J7 34 (va_cpy (J7 76) (J7 34) 0 0 600)) 27 6 = I 69 6
    rw [f8 27 (by omega), i2, f6 69 (by omega), f5 69 (by omega), f4 69 (by omega), f3 69 (by omega), f2 69 (by omega), f1 69 (by omega)]
  · intro k hk
    show (mU J7 34 (va_cpy (J7 76) (J7 34) 0 0 600)) 28 k = I 70 k
    rw [f8 28 (by omega), i3 k hk, f6 70 (by omega), f5 70 (by omega), f4 70 (by omega), f3 70 (by omega), f2 70 (by omega), f1 70 (by omega)]
  · intro k hk
    show (mU J7 34 (va_cpy (J7 76) (J7 34) 0 0 600)) 29 k = I 71 k
    rw [f8 29 (by omega), i4 k hk, f6 71 (by omega), f5 71 (by omega), f4 71 (by omega), f3 71 (by omega), f2 71 (by omega), f1 71 (by omega)]
  · intro k hk
    show (mU J7 34 (va_cpy (J7 76) (J7 34) 0 0 600)) 30 k = I 72 k
    rw [f8 30 (by omega), i5 k hk, f6 72 (by omega), f5 72 (by omega), f4 72 (by omega), f3 72 (by omega), f2 72 (by omega), f1 72 (by omega)]
  · intro k hk
    show (mU J7 34 (va_cpy (J7 76) (J7 34) 0 0 600)) 31 k = I 73 k
    rw [f8 31 (by omega), i6 k hk, f6 73 (by omega), f5 73 (by omega), f4 73 (by omega), f3 73 (by omega), f2 73 (by omega), f1 73 (by omega)]
  · intro k hk
    show (mU J7 34 (va_cpy (J7 76) (J7 34) 0 0 600)) 32 k = I 74 k
    rw [f8 32 (by omega), i7 k hk, f6 74 (by omega), f5 74 (by omega), f4 74 (by omega), f3 74 (by omega), f2 74 (by omega), f1 74 (by omega)]
  · intro k hk
    show (mU J7 34 (va_cpy (J7 76) (J7 34) 0 0 600)) 34 k = I 76 k
    rw [mU_eq, cpy_in hk, f7 76 (by omega), f6 76 (by omega), f5 76 (by omega), f4 76 (by omega), f3 76 (by omega), f2 76 (by omega), f1 76 (by omega)]

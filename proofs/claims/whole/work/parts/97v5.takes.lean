/-! TEXT: what is taken -/
theorem cpO_z (I : mI) (a0 N0 a N1 : Nat) : mCpO I a0 N0 a N1 0 0 0 = some (mU I a (va_cpy (I a0) (I a) 0 0 0)) := by
  have z : (0 : Int32).toNatClampNeg = 0 := by decide
  have y : ¬ (0 : Int32) < 0 := by decide
  unfold mCpO
  rw [z, if_neg (by
    rintro (q | q | q | q | q)
    · exact y q
    · exact y q
    · exact y q
    · exact absurd q (Nat.not_lt_zero _)
    · exact absurd q (Nat.not_lt_zero _))]
theorem min04 : mMin (mMin 0 400) 0 = 0 := by decide
theorem cp_t15 (I : mI) {u : Nat} (hu : u ≤ 400) (e : I 114 3 = nI u) : ∃ J, r6_copyFrom_15_114 I = some J ∧ (∀ a, ¬ (15 ≤ a ∧ a ≤ 17) → J a = I a) ∧ J 15 2 = I 114 2 ∧ J 15 3 = nI u ∧ eqOn 144 (J 16) (I 115) ∧ eqOn u (J 17) (I 116) := by
  unfold r6_copyFrom_15_114
  rw [cpO_e _ _ _ 144 (n := 144) rfl (by decide), Option.bind_some, mU_ne _ _ (show 114 ≠ 16 by decide), e, min400 hu, cpO_u _ _ _ 400 hu (by decide), Option.bind_some]
  refine ⟨_, rfl, fun a ha => ?_, rfl, rfl, fun k hk => cpy_in hk, fun k hk => cpy_in hk⟩
  rw [mW_ne _ _ _ (by omega), mU_ne _ _ (by omega), mW_ne _ _ _ (by omega), mU_ne _ _ (by omega)]
theorem cp_t18 (I : mI) (e : I 114 3 = 0) : ∃ J, r6_copyFrom_18_114 I = some J ∧ (∀ a, ¬ (18 ≤ a ∧ a ≤ 20) → J a = I a) ∧ J 18 2 = I 114 2 ∧ J 18 3 = 0 ∧ eqOn 144 (J 19) (I 115) := by
  unfold r6_copyFrom_18_114
  rw [cpO_e _ _ _ 144 (n := 144) rfl (by decide), Option.bind_some, mU_ne _ _ (show 114 ≠ 19 by decide), e, min04, cpO_z, Option.bind_some]
  refine ⟨_, rfl, fun a ha => ?_, rfl, rfl, fun k hk => cpy_in hk⟩
  rw [mW_ne _ _ _ (by omega), mU_ne _ _ (by omega), mW_ne _ _ _ (by omega), mU_ne _ _ (by omega)]
theorem cp_t21 (I : mI) (e : I 114 3 = 0) : ∃ J, r6_copyFrom_21_114 I = some J ∧ (∀ a, ¬ (21 ≤ a ∧ a ≤ 23) → J a = I a) ∧ J 21 2 = I 114 2 ∧ J 21 3 = 0 ∧ eqOn 144 (J 22) (I 115) := by
  unfold r6_copyFrom_21_114
  rw [cpO_e _ _ _ 144 (n := 144) rfl (by decide), Option.bind_some, mU_ne _ _ (show 114 ≠ 22 by decide), e, min04, cpO_z, Option.bind_some]
  refine ⟨_, rfl, fun a ha => ?_, rfl, rfl, fun k hk => cpy_in hk⟩
  rw [mW_ne _ _ _ (by omega), mU_ne _ _ (by omega), mW_ne _ _ _ (by omega), mU_ne _ _ (by omega)]
theorem cp_t24 (I : mI) (e : I 114 3 = 0) : ∃ J, r6_copyFrom_24_114 I = some J ∧ (∀ a, ¬ (24 ≤ a ∧ a ≤ 26) → J a = I a) ∧ J 24 2 = I 114 2 ∧ J 24 3 = 0 ∧ eqOn 144 (J 25) (I 115) := by
  unfold r6_copyFrom_24_114
  rw [cpO_e _ _ _ 144 (n := 144) rfl (by decide), Option.bind_some, mU_ne _ _ (show 114 ≠ 25 by decide), e, min04, cpO_z, Option.bind_some]
  refine ⟨_, rfl, fun a ha => ?_, rfl, rfl, fun k hk => cpy_in hk⟩
  rw [mW_ne _ _ _ (by omega), mU_ne _ _ (by omega), mW_ne _ _ _ (by omega), mU_ne _ _ (by omega)]
theorem tk7 (M : mI) : l10_takesOther_7 FU 0 M = some (mU M 141 (cpf (M 141) (M 141) 12 0 12)) :=
  cpl l10_takesOther_7 M 141 141 12 0 12 (by decide) (.inr (by decide)) (fun f I _ => by
    rw [l10_takesOther_7, if_pos (by decide)]) (fun f k I hk _ => by
    rw [l10_takesOther_7, if_neg (show ¬ (12 : Int32) ≤ nI k from nI_ge (b := 12) hk (by decide)), nI_addl (show (12 : Int32) = nI 12 from rfl), mLd_n (by omega) (by decide), Option.bind_some, mSto_n (by omega) (by decide), Option.bind_some, nI_1, Nat.zero_add])
theorem tk47 (M : mI) {n : Nat} (hn : n ≤ 16) : l10_takesOther_47 (nI n) FU 0 M = some (mU M 139 (cpf (M 139) (M 139) 144 0 (9 * n))) := by
  have e : (9 : Int32) * nI n = nI (9 * n) := nI_mul 9 n
  exact cpl (l10_takesOther_47 (nI n)) M 139 139 144 0 (9 * n) (by omega) (.inr (by decide)) (fun f I _ => by
    rw [l10_takesOther_47, e, if_pos (nI_le (Nat.le_refl _) (by omega))]) (fun f k I hk _ => by
    rw [l10_takesOther_47, e, if_neg (nI_ge hk (by omega)), nI_addl (show (144 : Int32) = nI 144 from rfl), mLd_n (by omega) (by decide), Option.bind_some, mSto_n (by omega) (by decide), Option.bind_some, nI_1, Nat.zero_add])
theorem tk87 (M : mI) {n : Nat} (hn : n ≤ 16) : l10_takesOther_87 (nI n) FU 0 M = some (mU M 140 (cpf (M 140) (M 140) 48 0 (3 * n))) := by
  have e : (3 : Int32) * nI n = nI (3 * n) := nI_mul 3 n
  exact cpl (l10_takesOther_87 (nI n)) M 140 140 48 0 (3 * n) (by omega) (.inr (by decide)) (fun f I _ => by
    rw [l10_takesOther_87, e, if_pos (nI_le (Nat.le_refl _) (by omega))]) (fun f k I hk _ => by
    rw [l10_takesOther_87, e, if_neg (nI_ge hk (by omega)), nI_addl (show (48 : Int32) = nI 48 from rfl), mLd_n (by omega) (by decide), Option.bind_some, mSto_n (by omega) (by decide), Option.bind_some, nI_1, Nat.zero_add])
theorem zero_l : ∀ d l, l + d = 12 → ∀ (M : mI) f, d < f → ∃ M', l10_readLikeness_2 f (nI l) M = some M' ∧ (∀ a, a ≠ 141 → M' a = M a) ∧ (∀ i, i < 12 + l → M' 141 i = M 141 i) ∧ (∀ i, l ≤ i → i < 12 → M' 141 (12 + i) = 0)
  | 0, l, hl, M, f, hf => by
    obtain ⟨f, rfl⟩ : ∃ g, f = g + 1 := ⟨f - 1, by omega⟩
    have l12 : l = 12 := by omega
    subst l12
    refine ⟨M, ?_, fun _ _ => rfl, fun _ _ => rfl, fun i h1 h2 => by omega⟩
    rw [l10_readLikeness_2, if_pos (by decide)]
  | d + 1, l, hl, M, f, hf => by
    obtain ⟨f, rfl⟩ : ∃ g, f = g + 1 := ⟨f - 1, by omega⟩
    obtain ⟨M', r1, r2, r3, r4⟩ := zero_l d (l + 1) (by omega) (mW M 141 (12 + l) 0) f (by omega)
    refine ⟨M', ?_, fun a ha => by rw [r2 a ha, mW_ne _ _ _ ha], fun i hi => by rw [r3 i (by omega), mW_off _ _ (by omega)], fun i h1 h2 => ?_⟩
    · rw [l10_readLikeness_2, if_neg (show ¬ (12 : Int32) ≤ nI l from nI_ge (b := 12) (by omega) (by decide)), nI_addl (show (12 : Int32) = nI 12 from rfl), mSto_n (by omega) (by decide), Option.bind_some, nI_1, r1]
    · by_cases e : i = l
      · rw [e, r3 (12 + l) (by omega), mW_at]
      · exact r4 i (by omega) h2
/-- the law's lines taken -/
theorem tl2 {n : Nat} (hn : n ≤ 16) : ∀ d l, l + d = n → ∀ (M : mI) f, M 119 28 = 0 → d < f → ∃ M', l10_takesLaw_2 (nI n) f (nI l) M = some M' ∧ (∀ a, ¬ (132 ≤ a ∧ a ≤ 135) → M' a = M a) ∧ (∀ a i, i < l → M' a i = M a i) ∧ (∀ a i, 132 ≤ a → a ≤ 135 → l ≤ i → i < n → M' a i = M a (32 + i))
  | 0, l, hl, M, f, h28, hf => by
    obtain ⟨f, rfl⟩ : ∃ g, f = g + 1 := ⟨f - 1, by omega⟩
    refine ⟨M, ?_, fun _ _ => rfl, fun _ _ _ => rfl, fun a i _ _ h1 h2 => by omega⟩
    rw [l10_takesLaw_2, if_pos (nI_le (by omega) (by omega))]
  | d + 1, l, hl, M, f, h28, hf => by
    obtain ⟨f, rfl⟩ : ∃ g, f = g + 1 := ⟨f - 1, by omega⟩
    have ix : (16 : Int32) * 0 + nI l = nI l := by
      rw [show (16 : Int32) * 0 = nI 0 from rfl, nI_add, Nat.zero_add]
    have n32 : (32 : Int32) + nI l = nI (32 + l) := nI_addl rfl
    have row : ∀ a i, 132 ≤ a → a ≤ 135 → (mW (mW (mW (mW M 132 l (M 132 (32 + l))) 133 l (M 133 (32 + l))) 134 l (M 134 (32 + l))) 135 l (M 135 (32 + l))) a i = if i = l then M a (32 + l) else M a i := fun a i h1 h2 => by
      simp only [mW_rd]
      obtain e | e | e | e : a = 132 ∨ a = 133 ∨ a = 134 ∨ a = 135 := by omega
      all_goals subst e; simp (decide := true) only [reduceIte]
    obtain ⟨M', r1, r2, r3, r4⟩ := tl2 hn d (l + 1) (by omega) (mW (mW (mW (mW M 132 l (M 132 (32 + l))) 133 l (M 133 (32 + l))) 134 l (M 134 (32 + l))) 135 l (M 135 (32 + l))) f (by rw [mW_ne _ _ _ (by decide), mW_ne _ _ _ (by decide), mW_ne _ _ _ (by decide), mW_ne _ _ _ (by decide)]; exact h28) (by omega)
    refine ⟨M', ?_, fun a ha => by rw [r2 a ha, mW_ne _ _ _ (by omega), mW_ne _ _ _ (by omega), mW_ne _ _ _ (by omega), mW_ne _ _ _ (by omega)], fun a i hi => ?_, fun a i h1 h2 h3 h4 => ?_⟩
    · rw [l10_takesLaw_2, if_neg (nI_ge (by omega) (by omega)), n32, mLd_n (by omega) (by decide), Option.bind_some, h28, ix, mSto_n (by omega) (by decide), Option.bind_some, mLd_n (by omega) (by decide), Option.bind_some, mW_ne _ _ _ (show 119 ≠ 132 by decide), h28, ix, mSto_n (by omega) (by decide), Option.bind_some, mLd_n (by omega) (by decide), Option.bind_some, mW_ne _ _ _ (show 119 ≠ 133 by decide), mW_ne _ _ _ (show 119 ≠ 132 by decide), h28, ix, mSto_n (by omega) (by decide), Option.bind_some, mLd_n (by omega) (by decide), Option.bind_some, mW_ne _ _ _ (show 119 ≠ 134 by decide), mW_ne _ _ _ (show 119 ≠ 133 by decide), mW_ne _ _ _ (show 119 ≠ 132 by decide), h28, ix, mSto_n (by omega) (by decide), Option.bind_some, nI_1, mW_ne _ _ _ (show 133 ≠ 132 by decide), mW_ne _ _ _ (show 134 ≠ 133 by decide), mW_ne _ _ _ (show 134 ≠ 132 by decide), mW_ne _ _ _ (show 135 ≠ 134 by decide), mW_ne _ _ _ (show 135 ≠ 133 by decide), mW_ne _ _ _ (show 135 ≠ 132 by decide), r1]
    · rw [r3 a i (by omega)]
      by_cases z : 132 ≤ a ∧ a ≤ 135
      · rw [row a i z.1 z.2, if_neg (by omega)]
      · rw [mW_ne _ _ _ (by omega), mW_ne _ _ _ (by omega), mW_ne _ _ _ (by omega), mW_ne _ _ _ (by omega)]
    · by_cases e : i = l
      · rw [r3 a i (by omega), row a i h1 h2, if_pos e, e]
      · rw [r4 a i h1 h2 (by omega) h4, row a _ h1 h2, if_neg (by omega)]
theorem tl107 {c : Nat} (hc : c ≤ 400) : ∀ d l, l + d = c → ∀ (M : mI) f, M 119 28 = 0 → M 119 29 = nI c → d < f → ∃ M', l10_takesLaw_107 f (nI l) M = some M' ∧ (∀ a, ¬ (136 ≤ a ∧ a ≤ 137) → M' a = M a) ∧ (∀ a i, i < l → M' a i = M a i) ∧ (∀ a i, 136 ≤ a → a ≤ 137 → l ≤ i → i < c → M' a i = M a (800 + i))
  | 0, l, hl, M, f, h28, h29, hf => by
    obtain ⟨f, rfl⟩ : ∃ g, f = g + 1 := ⟨f - 1, by omega⟩
    refine ⟨M, ?_, fun _ _ => rfl, fun _ _ _ => rfl, fun a i _ _ h1 h2 => by omega⟩
    rw [l10_takesLaw_107, h29, if_pos (nI_le (by omega) (by omega))]
  | d + 1, l, hl, M, f, h28, h29, hf => by
    obtain ⟨f, rfl⟩ : ∃ g, f = g + 1 := ⟨f - 1, by omega⟩
    have ix : (400 : Int32) * 0 + nI l = nI l := by
      rw [show (400 : Int32) * 0 = nI 0 from rfl, nI_add, Nat.zero_add]
    have n8 : (800 : Int32) + nI l = nI (800 + l) := nI_addl rfl
    have row : ∀ a i, 136 ≤ a → a ≤ 137 → (mW (mW M 136 l (M 136 (800 + l))) 137 l (M 137 (800 + l))) a i = if i = l then M a (800 + l) else M a i := fun a i h1 h2 => by
      simp only [mW_rd]
      obtain e | e : a = 136 ∨ a = 137 := by omega
      all_goals subst e; simp (decide := true) only [reduceIte]
    obtain ⟨M', r1, r2, r3, r4⟩ := tl107 hc d (l + 1) (by omega) (mW (mW M 136 l (M 136 (800 + l))) 137 l (M 137 (800 + l))) f (by rw [mW_ne _ _ _ (by decide), mW_ne _ _ _ (by decide)]; exact h28) (by rw [mW_ne _ _ _ (by decide), mW_ne _ _ _ (by decide)]; exact h29) (by omega)
    refine ⟨M', ?_, fun a ha => by rw [r2 a ha, mW_ne _ _ _ (by omega), mW_ne _ _ _ (by omega)], fun a i hi => ?_, fun a i h1 h2 h3 h4 => ?_⟩
    · rw [l10_takesLaw_107, h29, if_neg (nI_ge (by omega) (by omega)), n8, mLd_n (by omega) (by decide), Option.bind_some, h28, ix, mSto_n (by omega) (by decide), Option.bind_some, mLd_n (by omega) (by decide), Option.bind_some, mW_ne _ _ _ (show 119 ≠ 136 by decide), h28, ix, mSto_n (by omega) (by decide), Option.bind_some, nI_1, mW_ne _ _ _ (show 137 ≠ 136 by decide), r1]
    · rw [r3 a i (by omega)]
      by_cases z : 136 ≤ a ∧ a ≤ 137
      · rw [row a i z.1 z.2, if_neg (by omega)]
      · rw [mW_ne _ _ _ (by omega), mW_ne _ _ _ (by omega)]
    · by_cases e : i = l
      · rw [r3 a i (by omega), row a i h1 h2, if_pos e, e]
      · rw [r4 a i h1 h2 (by omega) h4, row a _ h1 h2, if_neg (by omega)]
theorem tkLaw {M : mI} {n c : Nat} (hn : n ≤ 16) (hc : c ≤ 400) (e28 : M 119 28 = 0) (e29 : M 119 29 = nI c) : ∃ M', r10_takesLaw M (nI n) = some M' ∧ (∀ a, ¬ (131 ≤ a ∧ a ≤ 137) → M' a = M a) ∧ M' 131 0 = nI n ∧ (∀ a i, 132 ≤ a → a ≤ 135 → i < n → M' a i = M a (32 + i)) ∧ (∀ a i, 136 ≤ a → a ≤ 137 → i < c → M' a i = M a (800 + i)) := by
  have fu := FU_lt (n := 500) (by omega)
  obtain ⟨M1, p1, p2, p3, p4⟩ := tl2 hn n 0 (by omega) M FU e28 (by omega)
  have p1 : l10_takesLaw_2 (nI n) FU 0 M = some M1 := p1
  have k28 : M1 119 28 = 0 := by rw [p2 119 (by omega)]; exact e28
  obtain ⟨M2, q1, q2, q3, q4⟩ := tl107 hc c 0 (by omega) M1 FU k28 (by rw [p2 119 (by omega)]; exact e29) (by omega)
  have q1 : l10_takesLaw_107 FU 0 M1 = some M2 := q1
  have l28 : M2 119 28 = nI 0 := by rw [q2 119 (by omega)]; exact k28
  refine ⟨mW M2 131 0 (nI n), ?_, fun a ha => by rw [mW_ne _ _ _ (by omega), q2 a (by omega), p2 a (by omega)], mW_at _ _ _ _, fun a i h1 h2 h3 => by rw [mW_ne _ _ _ (by omega), q2 a (by omega), p4 a i h1 h2 (by omega) h3], fun a i h1 h2 h3 => by rw [mW_ne _ _ _ (by omega), q4 a i h1 h2 (by omega) h3, p2 a (by omega)]⟩
  unfold r10_takesLaw
  rw [p1, Option.bind_some, q1, Option.bind_some, l28, mSto_n (by decide) (by decide), Option.bind_some]

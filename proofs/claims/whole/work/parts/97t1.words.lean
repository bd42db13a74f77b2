/-! TEXT: signs and words -/
def wc (k : Nat) : Int32 := mWords.getD k 0
def bl (i : Nat) : Nat := [0, 6, 12, 20, 25, 28, 32, 36, 40, 45, 49, 54, 60, 65, 70, 77, 82, 89, 96, 100, 103, 110, 116, 121, 127, 133, 137, 142].getD i 0
theorem bl_ok : ∀ i, i < 27 → bl i + 1 < bl (i + 1) ∧ bl (i + 1) ≤ 142 ∧ wc (bl (i + 1)) = 32 := by decide +kernel
theorem bl_in : ∀ i, i < 27 → ∀ j, j < 10 → bl i + 1 + j < bl (i + 1) → ¬ wc (bl i + 1 + j) = 32 := by decide +kernel
theorem bl_len : ∀ i, i < 27 → bl (i + 1) ≤ bl i + 9 := by decide +kernel
theorem bl_0 : bl 0 = 0 := rfl
theorem bl_27 : bl 27 = 142 := rfl
theorem char_s0 : ∀ a, a < 12 → ∀ b, b < 12 → 12 * a + b < 142 → rJ0_charAt_s0 (nI (12 * a + b)) = some (wc (12 * a + b + 1)) := by decide +kernel
theorem char_e {k : Nat} (h : k < 142) : rJ0_charAt_s0 (nI k) = some (wc (k + 1)) := by
  have := char_s0 (k / 12) (by omega) (k % 12) (by omega)
  rw [show 12 * (k / 12) + k % 12 = k by omega] at this
  exact this h
theorem len_s0 : rJ0_length_s0 = 142 := by decide
def Ltr (b : Nat) : Bool := (decide (97 ≤ b) && decide (b ≤ 122)) || (decide (65 ≤ b) && decide (b ≤ 90))
def Dig (b : Nat) : Bool := decide (48 ≤ b) && decide (b ≤ 57)
def Blk (b : Nat) : Bool := b == 32 || b == 10
def Sgn (b : Nat) : Bool := b == 59 || b == 43 || b == 45 || b == 42 || b == 47 || b == 40 || b == 41 || b == 60 || b == 61 || b == 62
theorem sg_all : ∀ a, a < 16 → ∀ b, b < 16 → (r4_isLetter (nI (16 * a + b)) = if Ltr (16 * a + b) = true then 1 else 0) ∧ (r10_isLetter (nI (16 * a + b)) = if Ltr (16 * a + b) = true then 1 else 0) ∧ (r4_isDigit (nI (16 * a + b)) = if Dig (16 * a + b) = true then 1 else 0) ∧ (r10_isDigit (nI (16 * a + b)) = if Dig (16 * a + b) = true then 1 else 0) ∧ (r10_isMarkSign (nI (16 * a + b)) = if Sgn (16 * a + b) = true then 1 else 0) := by decide +kernel
theorem sg_e {b : Nat} (h : b ≤ 255) : (r4_isLetter (nI b) = if Ltr b = true then 1 else 0) ∧ (r10_isLetter (nI b) = if Ltr b = true then 1 else 0) ∧ (r4_isDigit (nI b) = if Dig b = true then 1 else 0) ∧ (r10_isDigit (nI b) = if Dig b = true then 1 else 0) ∧ (r10_isMarkSign (nI b) = if Sgn b = true then 1 else 0) := by
  have := sg_all (b / 16) (by omega) (b % 16) (by omega)
  rw [show 16 * (b / 16) + b % 16 = b by omega] at this
  exact this
theorem sg_end : r10_isLetter (-1) = 0 ∧ r10_isDigit (-1) = 0 := by decide
/-- the word i stands at s .. e -/
def Mtw (t : Nat → Nat) (s e i : Nat) : Prop := e - s = bl (i + 1) - (bl i + 1) ∧ ∀ j, j < e - s → nI (t (s + j)) = wc (bl i + 1 + j)
/-- which word: the first -/
def Wk (t : Nat → Nat) (s e : Nat) (v : Option Nat) : Prop := match v with | some i => i < 27 ∧ Mtw t s e i ∧ ∀ k, k < i → ¬ Mtw t s e k | none => ∀ k, k < 27 → ¬ Mtw t s e k
theorem wordC {C : mI} {t : Nat → Nat} {s e : Nat} (hse : s < e) (he : e ≤ 400) (ht : ∀ i, i < 400 → C 110 i = nI (t i)) : ∃ v, Wk t s e v ∧ r4_wordKind C (nI s) (nI e) = some (match v with | some i => nI i | none => 130) := by
  have fu := FU_lt (n := 5000) (by omega)
  -- a word
  have one : ∀ i, i < 27 → ∀ f, (Mtw t s e i → l4_wordKind_11 C (nI s) (nI e) (f + (bl (i + 1) - bl i)) (nI i) (nI s) 1 (nI (bl i)) = some (.inl (nI i))) ∧ (¬ Mtw t s e i → l4_wordKind_11 C (nI s) (nI e) (f + (bl (i + 1) - bl i)) (nI i) (nI s) 1 (nI (bl i)) = l4_wordKind_11 C (nI s) (nI e) f (nI (i + 1)) (nI s) 1 (nI (bl (i + 1)))) := by
    intro i hi f
    obtain ⟨b1, b2, b3⟩ := bl_ok i hi
    have b4 := bl_len i hi
    -- within the word
    have run : ∀ n j, j + n = bl (i + 1) - (bl i + 1) → ∃ y5 : Int32, ∃ y4, (l4_wordKind_11 C (nI s) (nI e) (f + 1 + n + j) (nI i) (nI s) 1 (nI (bl i)) = l4_wordKind_11 C (nI s) (nI e) (f + 1 + n) (nI i) (nI y4) y5 (nI (bl i + j))) ∧ ((y5 = 1 ∧ y4 = s + j ∧ s + j ≤ e ∧ ∀ k, k < j → nI (t (s + k)) = wc (bl i + 1 + k)) ∨ (y5 = 0 ∧ s ≤ y4 ∧ y4 ≤ e ∧ ¬ Mtw t s e i)) := by
      intro n j
      induction j generalizing n with
      | zero => intro _; exact ⟨1, s, rfl, .inl ⟨rfl, rfl, by omega, fun k hk => absurd hk (Nat.not_lt_zero _)⟩⟩
      | succ j ih =>
        intro hj
        obtain ⟨y5, y4, q, r⟩ := ih (n + 1) (by omega)
        rw [show f + 1 + (n + 1) + j = f + 1 + n + (j + 1) by omega, show f + 1 + (n + 1) = f + 1 + n + 1 by omega] at q
        have nb := bl_in i hi j (by omega) (by omega)
        have ch : rJ0_charAt_s0 (nI (bl i + j)) = some (wc (bl i + 1 + j)) := by
          rw [char_e (by omega), show bl i + j + 1 = bl i + 1 + j by omega]
        have st : ∀ (y4 : Nat) (y5 : Int32), l4_wordKind_11 C (nI s) (nI e) (f + 1 + n + 1) (nI i) (nI y4) y5 (nI (bl i + j)) = ((if y5 = 0 then some (nI y4, 0) else if nI e ≤ nI y4 then some (nI y4, 0) else (mLd C 110 400 (nI y4)).bind fun z2 => if z2 = wc (bl i + 1 + j) then some (nI y4 + 1, y5) else some (nI y4, 0) : Option (Int32 × Int32)).bind fun z1 => l4_wordKind_11 C (nI s) (nI e) (f + 1 + n) (nI i) z1.1 z1.2 (nI (bl i + (j + 1)))) := fun y4 y5 => by
          rw [l4_wordKind_11, len_s0, if_neg (show ¬ (142 : Int32) ≤ nI (bl i + j) from nI_ge (b := 142) (by omega) (by decide)), ch, Option.bind_some, if_neg nb, nI_1 (bl i + j), Nat.add_assoc (bl i) j 1]
        rcases r with ⟨r1, r2, r3, r4⟩ | ⟨r1, r2, r3, r4⟩
        · subst r1 r2
          by_cases z : e ≤ s + j
          · refine ⟨0, s + j, ?_, .inr ⟨rfl, by omega, by omega, fun m => ?_⟩⟩
            · rw [q, st, if_neg one_n0, if_pos (nI_le z (by omega)), Option.bind_some]
            · have := m.1
              omega
          · by_cases w : nI (t (s + j)) = wc (bl i + 1 + j)
            · refine ⟨1, s + (j + 1), ?_, .inl ⟨rfl, rfl, by omega, fun k hk => ?_⟩⟩
              · rw [q, st, if_neg one_n0, if_neg (nI_ge (by omega) (by omega)), mLd_n (by omega) (by decide), Option.bind_some, ht (s + j) (by omega), if_pos w, Option.bind_some, nI_1, Nat.add_assoc s j 1]
              · by_cases ek : k = j
                · rw [ek]; exact w
                · exact r4 k (by omega)
            · refine ⟨0, s + j, ?_, .inr ⟨rfl, by omega, by omega, fun m => w ?_⟩⟩
              · rw [q, st, if_neg one_n0, if_neg (nI_ge (by omega) (by omega)), mLd_n (by omega) (by decide), Option.bind_some, ht (s + j) (by omega), if_neg w, Option.bind_some]
              · exact m.2 j (by have := m.1; omega)
        · subst r1
          refine ⟨0, y4, ?_, .inr ⟨rfl, r2, r3, r4⟩⟩
          rw [q, st, if_pos rfl, Option.bind_some]
    obtain ⟨y5, y4, q, r⟩ := run 0 (bl (i + 1) - (bl i + 1)) (by omega)
    rw [show f + 1 + 0 + (bl (i + 1) - (bl i + 1)) = f + (bl (i + 1) - bl i) by omega, Nat.add_zero] at q
    have ch : rJ0_charAt_s0 (nI (bl i + (bl (i + 1) - (bl i + 1)))) = some 32 := by
      rw [char_e (by omega), show bl i + (bl (i + 1) - (bl i + 1)) + 1 = bl (i + 1) by omega, b3]
    have st : ∀ (y4 : Nat) (y5 : Int32), l4_wordKind_11 C (nI s) (nI e) (f + 1) (nI i) (nI y4) y5 (nI (bl i + (bl (i + 1) - (bl i + 1)))) = if y5 = 0 then l4_wordKind_11 C (nI s) (nI e) f (nI (i + 1)) (nI s) 1 (nI (bl (i + 1))) else if nI y4 = nI e then some (.inl (nI i)) else l4_wordKind_11 C (nI s) (nI e) f (nI (i + 1)) (nI s) 1 (nI (bl (i + 1))) := fun y4 y5 => by
      rw [l4_wordKind_11, len_s0, if_neg (show ¬ (142 : Int32) ≤ nI (bl i + (bl (i + 1) - (bl i + 1))) from nI_ge (b := 142) (by omega) (by decide)), ch, Option.bind_some, if_pos rfl, nI_1, nI_1, show bl i + (bl (i + 1) - (bl i + 1)) + 1 = bl (i + 1) by omega]
    rw [q, st]
    rcases r with ⟨r1, r2, r3, r4⟩ | ⟨r1, r2, r3, r4⟩
    · subst r1
      rw [if_neg one_n0]
      by_cases z : y4 = e
      · have m : Mtw t s e i := ⟨by omega, fun j hj => r4 j (by omega)⟩
        rw [if_pos (by rw [z])]
        exact ⟨fun _ => rfl, fun h => absurd m h⟩
      · have m : ¬ Mtw t s e i := fun m => z (by have := m.1; omega)
        rw [if_neg (fun k => z ((nI_eq (by omega) (by omega)).mp k))]
        exact ⟨fun h => absurd h m, fun _ => rfl⟩
    · subst r1
      rw [if_pos rfl]
      exact ⟨fun h => absurd h r4, fun _ => rfl⟩
  -- all words
  have all : ∀ n i f, i + n = 27 → 142 - bl i < f → (∀ k, k < i → ¬ Mtw t s e k) → ∃ v, Wk t s e v ∧ (l4_wordKind_11 C (nI s) (nI e) f (nI i) (nI s) 1 (nI (bl i))).bind (fun z0 => match z0 with | .inl rz0 => some rz0 | .inr _ => some 130) = some (match v with | some i => nI i | none => 130) := by
    intro n
    induction n with
    | zero =>
      intro i f hi hf hk
      have : i = 27 := by omega
      subst this
      obtain ⟨f, rfl⟩ : ∃ g, f = g + 1 := ⟨f - 1, by omega⟩
      refine ⟨none, hk, ?_⟩
      rw [l4_wordKind_11, len_s0, bl_27, if_pos (by decide), Option.bind_some]
    | succ n ih =>
      intro i f hi hf hk
      obtain ⟨b1, b2, b3⟩ := bl_ok i (by omega)
      obtain ⟨f, rfl⟩ : ∃ g, f = g + (bl (i + 1) - bl i) := ⟨f - (bl (i + 1) - bl i), by omega⟩
      obtain ⟨o1, o2⟩ := one i (by omega) f
      by_cases m : Mtw t s e i
      · refine ⟨some i, ⟨by omega, m, hk⟩, ?_⟩
        rw [o1 m, Option.bind_some]
      · obtain ⟨v, v1, v2⟩ := ih (i + 1) f (by omega) (by omega) (fun k hk2 => by
          by_cases ek : k = i
          · rw [ek]; exact m
          · exact hk k (by omega))
        exact ⟨v, v1, by rw [o2 m]; exact v2⟩
  obtain ⟨v, v1, v2⟩ := all 27 0 FU rfl (by rw [bl_0]; omega) (fun k hk => absurd hk (Nat.not_lt_zero _))
  refine ⟨v, v1, ?_⟩
  unfold r4_wordKind
  refine Eq.trans ?_ v2
  rfl
theorem wordM {M : mI} {t : Nat → Nat} {s e : Nat} (hse : s < e) (he : e ≤ 400) (ht : ∀ i, i < 400 → M 129 i = nI (t i)) (hw : eqOn 143 (M 130) (fun k => mWords.getD k 0)) (hl : ∀ j, s ≤ j → j < e → Ltr (t j) = true) : ∃ v, Wk t s e v ∧ r10_wordAt M (nI s) (nI e) = some (match v with | some i => nI i | none => -1) := by
  have fu := FU_lt (n := 5000) (by omega)
  have hw : ∀ k, k < 143 → M 130 k = wc k := fun k hk => hw k hk
  have n32 : ∀ j, s ≤ j → j < e → ¬ nI (t j) = 32 := fun j h1 h2 q => by
    have l := hl j h1 h2
    unfold Ltr at l
    simp only [Bool.or_eq_true, Bool.and_eq_true, decide_eq_true_eq] at l
    rw [nI_eqk 32 32 rfl (by decide) (by omega)] at q
    omega
  -- how far the word i goes with the tape
  have run : ∀ i, i < 27 → ∃ z, z ≤ e - s ∧ bl i + 1 + z ≤ bl (i + 1) ∧ l10_wordAt_20 M (nI s) (nI e) (nI (bl i)) FU 0 = some (nI z) ∧ (∀ j, j < z → nI (t (s + j)) = wc (bl i + 1 + j)) ∧ (z < e - s → ¬ nI (t (s + z)) = wc (bl i + 1 + z)) := by
    intro i hi
    obtain ⟨b1, b2, b3⟩ := bl_ok i hi
    obtain ⟨y, q1, z, q2, q3⟩ := loop1 (fun f k (_ : Unit) => l10_wordAt_20 M (nI s) (nI e) (nI (bl i)) f (nI k)) (fun k _ => k ≤ e - s ∧ bl i + 1 + k ≤ bl (i + 1) ∧ ∀ j, j < k → nI (t (s + j)) = wc (bl i + 1 + j)) (fun y => ∃ z, y = nI z ∧ z ≤ e - s ∧ bl i + 1 + z ≤ bl (i + 1) ∧ (∀ j, j < z → nI (t (s + j)) = wc (bl i + 1 + j)) ∧ (z < e - s → ¬ nI (t (s + z)) = wc (bl i + 1 + z))) (e - s)
      (fun _ ⟨h1, h2, h3⟩ => ⟨nI (e - s), fun f => by show l10_wordAt_20 _ _ _ _ (f + 1) _ = _; rw [l10_wordAt_20, nI_add, if_pos (nI_le (by omega) (by omega))], e - s, rfl, h1, h2, h3, fun h => absurd h (by omega)⟩)
      (fun k _ hk ⟨h1, h2, h3⟩ => by
        have st : ∀ f, l10_wordAt_20 M (nI s) (nI e) (nI (bl i)) (f + 1) (nI k) = if wc (bl i + 1 + k) = nI (t (s + k)) then l10_wordAt_20 M (nI s) (nI e) (nI (bl i)) f (nI (k + 1)) else some (nI k) := fun f => by
          rw [l10_wordAt_20, nI_add, if_neg (nI_ge (by omega) (by omega)), nI_1 (bl i), nI_add, mLd_n (by omega) (by decide), Option.bind_some, mLd_n (by omega) (by decide), Option.bind_some, hw _ (by omega), ht _ (by omega), nI_1]
        by_cases z : wc (bl i + 1 + k) = nI (t (s + k))
        · refine .inr ⟨(), fun f _ => ?_, by omega, ?_, fun j hj => ?_⟩
          · show l10_wordAt_20 _ _ _ _ (f + 1) _ = _
            rw [st f, if_pos z]
          · apply Classical.byContradiction
            intro hn
            have : bl i + 1 + k = bl (i + 1) := by omega
            rw [this, b3] at z
            exact n32 (s + k) (by omega) (by omega) z.symm
          · by_cases ek : j = k
            · rw [ek]; exact z.symm
            · exact h3 j (by omega)
        · refine .inl ⟨nI k, fun f => ?_, k, rfl, h1, h2, h3, fun _ q => z q.symm⟩
          show l10_wordAt_20 _ _ _ _ (f + 1) _ = _
          rw [st f, if_neg z]) (e - s) 0 FU () (by omega) (FU_lt (by omega)) ⟨by omega, by omega, fun j hj => absurd hj (Nat.not_lt_zero _)⟩
    subst q2
    exact ⟨z, q3.1, q3.2.1, q1, q3.2.2⟩
  -- to the next blank
  have skip : ∀ i, i < 27 → l10_wordAt_94 M FU (nI (bl i + 1)) = some (nI (bl (i + 1))) := by
    intro i hi
    obtain ⟨b1, b2, b3⟩ := bl_ok i hi
    have b4 := bl_len i hi
    obtain ⟨y, q1, q2⟩ := loop1 (fun f k (_ : Unit) => l10_wordAt_94 M f (nI (bl i + 1 + k))) (fun k _ => True) (fun y => y = nI (bl (i + 1))) (bl (i + 1) - (bl i + 1))
      (fun _ _ => ⟨nI (bl (i + 1)), fun f => by
        show l10_wordAt_94 _ (f + 1) _ = _
        rw [show bl i + 1 + (bl (i + 1) - (bl i + 1)) = bl (i + 1) by omega, l10_wordAt_94, mLd_n (by omega) (by decide), Option.bind_some, hw _ (by omega), b3, if_pos rfl], rfl⟩)
      (fun k _ hk _ => .inr ⟨(), fun f _ => by
        show l10_wordAt_94 _ (f + 1) _ = _
        rw [l10_wordAt_94, mLd_n (by omega) (by decide), Option.bind_some, hw _ (by omega), if_neg (bl_in i hi k (by omega) (by omega)), nI_1, Nat.add_assoc (bl i + 1)], trivial⟩) (bl (i + 1) - (bl i + 1)) 0 FU () (by omega) (FU_lt (by omega)) trivial
    rw [← q2]
    exact q1
  have one : ∀ i, i < 27 → ∀ f (y3 : Int32), (Mtw t s e i → l10_wordAt_5 M (nI s) (nI e) (f + 1) y3 (nI (bl i)) = some (.inl (y3 + 1))) ∧ (¬ Mtw t s e i → l10_wordAt_5 M (nI s) (nI e) (f + 1) y3 (nI (bl i)) = l10_wordAt_5 M (nI s) (nI e) f (y3 + 1) (nI (bl (i + 1)))) := by
    intro i hi f y3
    obtain ⟨b1, b2, b3⟩ := bl_ok i hi
    have b4 := bl_len i hi
    obtain ⟨z, z1, z2, z3, z4, z5⟩ := run i hi
    have g142 : ¬ (142 : Int32) ≤ nI (bl i) := nI_ge (b := 142) (by omega) (by decide)
    rw [l10_wordAt_5, if_neg g142, z3, Option.bind_some, nI_add, nI_1 (bl i), skip i hi, nI_add, mLd_n (by omega) (by decide), Option.bind_some, hw _ (by omega), Option.bind_some]
    by_cases a : z = e - s
    · rw [if_pos (show nI (s + z) = nI e by rw [a, show s + (e - s) = e by omega])]
      by_cases b : bl i + 1 + z = bl (i + 1)
      · have m : Mtw t s e i := ⟨by omega, fun j hj => z4 j (by omega)⟩
        rw [if_pos (by rw [b, b3])]
        exact ⟨fun _ => rfl, fun h => absurd m h⟩
      · have m : ¬ Mtw t s e i := fun m => b (by have := m.1; omega)
        rw [if_neg (bl_in i hi z (by omega) (by omega))]
        exact ⟨fun h => absurd h m, fun _ => rfl⟩
    · have m : ¬ Mtw t s e i := fun m => z5 (by omega) (m.2 z (by omega))
      rw [if_neg (fun k => a (by have := (nI_eq (by omega) (by omega)).mp k; omega))]
      exact ⟨fun h => absurd h m, fun _ => rfl⟩
  have all : ∀ n i f (y3 : Int32), i + n = 27 → n < f → y3 + 1 = nI i → (∀ k, k < i → ¬ Mtw t s e k) → ∃ v, Wk t s e v ∧ (l10_wordAt_5 M (nI s) (nI e) f y3 (nI (bl i))).bind (fun z0 => match z0 with | .inl rz0 => some rz0 | .inr _ => some (-1)) = some (match v with | some i => nI i | none => -1) := by
    intro n
    induction n with
    | zero =>
      intro i f y3 hi hf hy hk
      have : i = 27 := by omega
      subst this
      obtain ⟨f, rfl⟩ : ∃ g, f = g + 1 := ⟨f - 1, by omega⟩
      refine ⟨none, hk, ?_⟩
      rw [l10_wordAt_5, bl_27, if_pos (by decide), Option.bind_some]
    | succ n ih =>
      intro i f y3 hi hf hy hk
      obtain ⟨f, rfl⟩ : ∃ g, f = g + 1 := ⟨f - 1, by omega⟩
      obtain ⟨o1, o2⟩ := one i (by omega) f y3
      by_cases m : Mtw t s e i
      · refine ⟨some i, ⟨by omega, m, hk⟩, ?_⟩
        rw [o1 m, Option.bind_some, hy]
      · obtain ⟨v, v1, v2⟩ := ih (i + 1) f (y3 + 1) (by omega) (by omega) (by rw [hy, nI_1]) (fun k hk2 => by
          by_cases ek : k = i
          · rw [ek]; exact m
          · exact hk k (by omega))
        exact ⟨v, v1, by rw [o2 m]; exact v2⟩
  obtain ⟨v, v1, v2⟩ := all 27 0 FU (-1) rfl (by omega) (by decide) (fun k hk => absurd hk (Nat.not_lt_zero _))
  refine ⟨v, v1, ?_⟩
  unfold r10_wordAt
  refine Eq.trans ?_ v2
  rfl
theorem Wk_uniq {t : Nat → Nat} {s e : Nat} {v v' : Option Nat} (h : Wk t s e v) (h' : Wk t s e v') : v = v' := by
  cases v with
  | none =>
    cases v' with
    | none => rfl
    | some i => exact absurd h'.2.1 (h i h'.1)
  | some i =>
    cases v' with
    | none => exact absurd h.2.1 (h' i h.1)
    | some j =>
      obtain ⟨a1, a2, a3⟩ := h
      obtain ⟨b1, b2, b3⟩ := h'
      have : i = j := by
        apply Classical.byContradiction
        intro hn
        by_cases lt : i < j
        · exact b3 i lt a2
        · exact a3 j (by omega) b2
      rw [this]

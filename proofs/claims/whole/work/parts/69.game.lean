/-! GAME, CHORDS -/
def gtk (m : Nat) (w : Int32) : Option Int32 := if 1 ≤ m ∧ mRm (nI m - 1) 3 = w then some 1 else if 2 ≤ m ∧ mRm (nI m - 2) 3 = w then some 2 else if 4 ≤ m ∧ mRm (nI m - 4) 3 = w then some 4 else none
theorem take_c1 {I : mI} {a k m : Nat} (hk : k < 8) (hm : m ≤ 50) (e : I (a + 4) k = nI m) (w y : Int32) (j f : Nat) (hy : y = nI j) (hj : j ≤ 4) : l7_goodTake_28 I a (nI k) w (f + 1) y = if j ≤ m ∧ mRm (nI m - y) 3 = w then some (.inl y) else l7_goodTake_28 I a (nI k) w f (y * 2) := by
  rw [l7_goodTake_28, hy, if_neg (show ¬ (4 : Int32) < nI j from nI_nlt (a := 4) hj (by decide)), mLd_n hk (by decide), Option.bind_some, Option.bind_some, e]
  by_cases z : j ≤ m
  · rw [if_neg (nI_nlt z (by omega))]
    by_cases z2 : mRm (nI m - nI j) 3 = w
    · rw [if_pos z2, if_pos ⟨z, z2⟩]
    · rw [if_neg z2, if_neg (fun q => z2 q.2)]
  · rw [if_pos (nI_lt (by omega) (by omega)), if_neg (fun q => z q.1)]
theorem take_c {I : mI} {a k m : Nat} (hk : k < 8) (hm : m ≤ 50) (e : I (a + 4) k = nI m) (w : Int32) : l7_goodTake_28 I a (nI k) w FU 1 = some (match gtk m w with | some t => .inl t | none => .inr ()) := by
  rw [show FU = 9996 + 1 + 1 + 1 + 1 from rfl, take_c1 hk hm e w 1 1 _ rfl (by decide), show (1 : Int32) * 2 = 2 by decide, take_c1 hk hm e w 2 2 _ rfl (by decide), show (2 : Int32) * 2 = 4 by decide, take_c1 hk hm e w 4 4 _ rfl (by decide), show (4 : Int32) * 2 = 8 by decide, l7_goodTake_28, if_pos (show (4 : Int32) < 8 by decide)]
  unfold gtk
  by_cases c1 : 1 ≤ m ∧ mRm (nI m - 1) 3 = w
  · simp only [if_pos c1]
  by_cases c2 : 2 ≤ m ∧ mRm (nI m - 2) 3 = w
  · simp only [if_neg c1, if_pos c2]
  by_cases c3 : 4 ≤ m ∧ mRm (nI m - 4) 3 = w
  · simp only [if_neg c1, if_neg c2, if_pos c3]
  simp only [if_neg c1, if_neg c2, if_neg c3]
theorem lesser_4 {m j : Nat} (hm : m ≤ 50) (hj : j ≤ 4) : r10_lesser (nI m) 4 < nI j ↔ m < j := by
  unfold r10_lesser
  by_cases z : 4 ≤ m
  · rw [if_pos (show (4 : Int32) ≤ nI m from nI_le (a := 4) z (by omega)), show (4 : Int32) = nI 4 from rfl, nI_ltI (by decide) (by omega)]
    omega
  · rw [if_neg (show ¬ (4 : Int32) ≤ nI m from nI_ge (b := 4) (by omega) (by decide)), nI_ltI (by omega) (by omega)]
theorem take_m1 {J : mI} {m : Nat} (hm : m ≤ 50) (x s w y : Int32) (j f : Nat) (hy : y = nI j) (hj : j ≤ 4) : l10_game_77 J x s (nI m) w (f + 1) y = if m < j then some (.inr ()) else if mRm (nI m - y) 3 = w then some (.inl (if x = 0 then s else y, J)) else l10_game_77 J x s (nI m) w f (y + y) := by
  rw [l10_game_77, hy]
  by_cases z : m < j
  · rw [if_pos ((lesser_4 hm hj).mpr z), if_pos z]
  · rw [if_neg (fun q => z ((lesser_4 hm hj).mp q)), if_neg z, ite_some, Option.bind_some]
theorem take_m {J : mI} {m : Nat} (hm : m ≤ 50) (x s w : Int32) : l10_game_77 J x s (nI m) w FU 1 = some (match gtk m w with | some t => .inl (if x = 0 then s else t, J) | none => .inr ()) := by
  rw [show FU = 9996 + 1 + 1 + 1 + 1 from rfl, take_m1 hm x s w 1 1 _ rfl (by decide), show (1 : Int32) + 1 = 2 by decide, take_m1 hm x s w 2 2 _ rfl (by decide), show (2 : Int32) + 2 = 4 by decide, take_m1 hm x s w 4 4 _ rfl (by decide), show (4 : Int32) + 4 = 8 by decide]
  unfold gtk
  by_cases d1 : m < 1
  · have n1 : ¬ (1 ≤ m ∧ mRm (nI m - 1) 3 = w) := by omega
    have n2 : ¬ (2 ≤ m ∧ mRm (nI m - 2) 3 = w) := by omega
    have n3 : ¬ (4 ≤ m ∧ mRm (nI m - 4) 3 = w) := by omega
    simp only [if_pos d1, if_neg n1, if_neg n2, if_neg n3]
  by_cases c1 : mRm (nI m - 1) 3 = w
  · have n1 : 1 ≤ m ∧ mRm (nI m - 1) 3 = w := ⟨by omega, c1⟩
    simp only [if_neg d1, if_pos c1, if_pos n1]
  have n1 : ¬ (1 ≤ m ∧ mRm (nI m - 1) 3 = w) := fun q => c1 q.2
  by_cases d2 : m < 2
  · have n2 : ¬ (2 ≤ m ∧ mRm (nI m - 2) 3 = w) := by omega
    have n3 : ¬ (4 ≤ m ∧ mRm (nI m - 4) 3 = w) := by omega
    simp only [if_neg d1, if_neg c1, if_pos d2, if_neg n1, if_neg n2, if_neg n3]
  by_cases c2 : mRm (nI m - 2) 3 = w
  · have n2 : 2 ≤ m ∧ mRm (nI m - 2) 3 = w := ⟨by omega, c2⟩
    simp only [if_neg d1, if_neg c1, if_neg n1, if_neg d2, if_pos c2, if_pos n2]
  have n2 : ¬ (2 ≤ m ∧ mRm (nI m - 2) 3 = w) := fun q => c2 q.2
  by_cases d3 : m < 4
  · have n3 : ¬ (4 ≤ m ∧ mRm (nI m - 4) 3 = w) := by omega
    simp only [if_neg d1, if_neg c1, if_neg d2, if_neg c2, if_pos d3, if_neg n1, if_neg n2, if_neg n3]
  by_cases c3 : mRm (nI m - 4) 3 = w
  · have n3 : 4 ≤ m ∧ mRm (nI m - 4) 3 = w := ⟨by omega, c3⟩
    simp only [if_neg d1, if_neg c1, if_neg n1, if_neg d2, if_neg c2, if_neg n2, if_neg d3, if_pos c3, if_pos n3]
  have n3 : ¬ (4 ≤ m ∧ mRm (nI m - 4) 3 = w) := fun q => c3 q.2
  have e8 : r10_lesser (nI m) 4 < 8 := by
    unfold r10_lesser
    rw [if_pos (show (4 : Int32) ≤ nI m from nI_le (a := 4) (by omega) (by omega))]
    decide
  simp only [if_neg d1, if_neg c1, if_neg n1, if_neg d2, if_neg c2, if_neg n2, if_neg d3, if_neg c3, if_neg n3]
  rw [l10_game_77, if_pos e8]
theorem gtk_none {m : Nat} (hm : m ≤ 50) : gtk m ((0 : Int32) ^^^ mRm (nI m) 3) = none := by
  have h : ∀ m, m < 51 → gtk m ((0 : Int32) ^^^ mRm (nI m) 3) = none := by decide +kernel
  exact h m (by omega)
def gworth (F : Nat → Nat) : Nat → Int32
  | 0 => 0
  | n + 1 => gworth F n ^^^ mRm (nI (F n)) 3
def gfirst (F : Nat → Nat) (w : Int32) : Nat → Nat → Option (Nat × Int32)
  | 0, _ => none
  | n + 1, k => match gtk (F k) (w ^^^ mRm (nI (F k)) 3) with | some t => some (k, t) | none => gfirst F w n (k + 1)
theorem op_game : S_game Inv := by
  intro I s h x0
  obtain ⟨⟨⟨_, b1, _⟩, _, s2, _⟩, _⟩ := h.1
  have hF : ∃ F : Nat → Nat, ∀ k, k < 8 → F k ≤ 50 ∧ I 7 k = nI (F k) ∧ I 120 (9 + k) = nI (F k) := by
    refine ⟨fun k => if hk : k < 8 then (s2 k hk).choose else 0, fun k hk => ?_⟩
    simp only [dif_pos hk]
    have q := (s2 k hk).choose_spec
    exact ⟨q.1, by rw [b1 k hk]; exact q.2, q.2⟩
  obtain ⟨F, hF⟩ := hF
  have wc : r7_worthOfAll I 3 = some (gworth F 8) := by
    obtain ⟨u, q1, q2⟩ := loop1 (fun f k b => l7_worthOfAll_4 I 3 f b (nI k)) (fun k b => b = gworth F k) (fun u => u = gworth F 8) 8
      (fun b hb => ⟨b, fun f => by show l7_worthOfAll_4 _ _ (f + 1) _ _ = _; rw [l7_worthOfAll_4, if_pos (by decide)], hb⟩)
      (fun k b hk hb => by
        subst hb
        refine .inr ⟨_, fun f _ => ?_, rfl⟩
        show l7_worthOfAll_4 _ _ (f + 1) _ _ = l7_worthOfAll_4 _ _ f _ _
        rw [l7_worthOfAll_4, if_neg (show ¬ (8 : Int32) ≤ nI k from nI_ge (b := 8) hk (by decide)), mLd_n hk (by decide), Option.bind_some, show I (3 + 4) k = nI (F k) from (hF k hk).2.1, nI_1]
        rfl) 8 0 FU 0 (by omega) (FU_lt (by omega)) rfl
    unfold r7_worthOfAll
    rw [show l7_worthOfAll_4 I 3 FU 0 0 = some u from q1, q2, Option.bind_some]
  have wm : l10_game_21 (mW I 119 0 0) FU 0 0 = some (gworth F 8) := by
    obtain ⟨u, q1, q2⟩ := loop1 (fun f k b => l10_game_21 (mW I 119 0 0) f b (nI k)) (fun k b => b = gworth F k) (fun u => u = gworth F 8) 8
      (fun b hb => ⟨b, fun f => by show l10_game_21 _ (f + 1) _ _ = _; rw [l10_game_21, if_pos (by decide)], hb⟩)
      (fun k b hk hb => by
        subst hb
        refine .inr ⟨_, fun f _ => ?_, rfl⟩
        show l10_game_21 _ (f + 1) _ _ = l10_game_21 _ f _ _
        rw [l10_game_21, if_neg (show ¬ (8 : Int32) ≤ nI k from nI_ge (b := 8) hk (by decide)), nI_addl (show (9 : Int32) = nI 9 by decide), mLd_n (by omega) (by decide), Option.bind_some, show (mW I 119 0 0) 120 (9 + k) = nI (F k) from (hF k hk).2.2, nI_1]
        rfl) 8 0 FU 0 (by omega) (FU_lt (by omega)) rfl
    rw [← q2]; exact q1
  have gt : ∀ k, k < 8 → r7_goodTake I 3 (nI k) = some (match gtk (F k) (gworth F 8 ^^^ mRm (nI (F k)) 3) with | some t => t | none => -1) := by
    intro k hk
    unfold r7_goodTake
    rw [if_neg (nI_pos (by omega)), if_pos (show nI k < (8 : Int32) from nI_lt (b := 8) hk (by decide)), wc, Option.bind_some, mLd_n hk (by decide), Option.bind_some, show I (3 + 4) k = nI (F k) from (hF k hk).2.1, take_c hk (hF k hk).1 (hF k hk).2.1, Option.bind_some]
    cases gtk (F k) (gworth F 8 ^^^ mRm (nI (F k)) 3) <;> rfl
  have gtp : ∀ m w t, gtk m w = some t → ¬ t = -1 := by
    intro m w t ht
    unfold gtk at ht
    split at ht
    · cases ht; decide
    · split at ht
      · cases ht; decide
      · split at ht
        · cases ht; decide
        · cases ht
  have fc : l7_goodString_11 I 3 FU 0 = some (match gfirst F (gworth F 8) 8 0 with | some p => .inl (nI p.1) | none => .inr ()) := by
    have : ∀ n k f, k + n = 8 → n < f → l7_goodString_11 I 3 f (nI k) = some (match gfirst F (gworth F 8) n k with | some p => .inl (nI p.1) | none => .inr ()) := by
      intro n
      induction n with
      | zero =>
        intro k f hk hf
        obtain ⟨f, rfl⟩ : ∃ q, f = q + 1 := ⟨f - 1, by omega⟩
        have hk : k = 8 := by omega
        subst hk
        rw [l7_goodString_11, if_pos (by decide)]
        rfl
      | succ n ih =>
        intro k f hk hf
        obtain ⟨f, rfl⟩ : ∃ q, f = q + 1 := ⟨f - 1, by omega⟩
        rw [l7_goodString_11, if_neg (show ¬ (8 : Int32) ≤ nI k from nI_ge (b := 8) (by omega) (by decide)), gt k (by omega), Option.bind_some, gfirst]
        cases hg : gtk (F k) (gworth F 8 ^^^ mRm (nI (F k)) 3) with
        | none =>
          simp only [reduceIte]
          rw [nI_1]
          exact ih (k + 1) f (by omega) (by omega)
        | some t => simp only [if_neg (gtp _ _ _ hg)]
    exact this 8 0 FU (by omega) (FU_lt (by omega))
  have fm : l10_game_49 (mW I 119 0 0) x0 (gworth F 8) FU 0 = some (match gfirst F (gworth F 8) 8 0 with | some p => .inl (if x0 = 0 then nI p.1 else p.2, mW I 119 0 0) | none => .inr ()) := by
    have : ∀ n k f, k + n = 8 → n < f → l10_game_49 (mW I 119 0 0) x0 (gworth F 8) f (nI k) = some (match gfirst F (gworth F 8) n k with | some p => .inl (if x0 = 0 then nI p.1 else p.2, mW I 119 0 0) | none => .inr ()) := by
      intro n
      induction n with
      | zero =>
        intro k f hk hf
        obtain ⟨f, rfl⟩ : ∃ q, f = q + 1 := ⟨f - 1, by omega⟩
        have hk : k = 8 := by omega
        subst hk
        rw [l10_game_49, if_pos (by decide)]
        rfl
      | succ n ih =>
        intro k f hk hf
        obtain ⟨f, rfl⟩ : ∃ q, f = q + 1 := ⟨f - 1, by omega⟩
        rw [l10_game_49, if_neg (show ¬ (8 : Int32) ≤ nI k from nI_ge (b := 8) (by omega) (by decide)), nI_addl (show (9 : Int32) = nI 9 by decide), mLd_n (by omega) (by decide), Option.bind_some, show (mW I 119 0 0) 120 (9 + k) = nI (F k) from (hF k (by omega)).2.2, take_m (hF k (by omega)).1, Option.bind_some, gfirst]
        cases hg : gtk (F k) (gworth F 8 ^^^ mRm (nI (F k)) 3) with
        | none =>
          simp only
          rw [nI_1]
          exact ih (k + 1) f (by omega) (by omega)
        | some t => rfl
    exact this 8 0 FU (by omega) (FU_lt (by omega))
  have fst : ∀ n k p, k + n ≤ 8 → gfirst F (gworth F 8) n k = some p → p.1 < 8 ∧ gtk (F p.1) (gworth F 8 ^^^ mRm (nI (F p.1)) 3) = some p.2 := by
    intro n
    induction n with
    | zero => intro k p _ hp; cases hp
    | succ n ih =>
      intro k p hk hp
      rw [gfirst] at hp
      cases hg : gtk (F k) (gworth F 8 ^^^ mRm (nI (F k)) 3) with
      | none =>
        rw [hg] at hp
        exact ih (k + 1) p (by omega) hp
      | some t =>
        rw [hg] at hp
        cases hp
        exact ⟨by omega, hg⟩
  have z0 : gworth F 8 = 0 → gfirst F (gworth F 8) 8 0 = none := by
    intro e
    have : ∀ n k, k + n ≤ 8 → gfirst F 0 n k = none := by
      intro n
      induction n with
      | zero => intro k _; rfl
      | succ n ih =>
        intro k hk
        rw [gfirst, gtk_none (hF k (by omega)).1]
        exact ih (k + 1) (by omega)
    rw [e]
    exact this 8 0 (by omega)
  have gs : r7_goodString I 3 = some (match gfirst F (gworth F 8) 8 0 with | some p => nI p.1 | none => -1) := by
    unfold r7_goodString
    rw [wc, Option.bind_some]
    by_cases e : gworth F 8 = 0
    · rw [if_pos e, z0 e]
    · rw [if_neg e, fc, Option.bind_some]
      cases gfirst F (gworth F 8) 8 0 <;> rfl
  unfold r9_game r10_game
  rw [gs, wm, Option.bind_some, Option.bind_some, fm, Option.bind_some]
  by_cases e : r10_isIn x0 0 1 = 0
  · rw [if_pos e]
    by_cases d : x0 < 0
    · simp only [if_pos d, ite_self]
      exact ex1 rfl rfl rfl (Inv_told 0 h)
    · have c := (isIn_no e).resolve_left d
      simp only [if_neg d, if_neg (i32_nle.mpr c), ite_self]
      exact ex1 rfl rfl rfl (Inv_told 0 h)
  obtain ⟨c1, c2⟩ := isIn_yes e
  rw [if_neg e, if_neg c1, if_pos (i32_nlt.mp c2)]
  cases hg : gfirst F (gworth F 8) 8 0 with
  | none => exact ex1 rfl rfl rfl (Inv_told 0 h)
  | some p =>
    obtain ⟨p1, p2⟩ := fst 8 0 p (by omega) hg
    simp only [if_neg (nI_m1 (show p.1 < 2 ^ 31 by omega)), gt p.1 p1, p2, Option.bind_some, ite_some]
    exact ex1 rfl rfl rfl (Inv_told 0 h)

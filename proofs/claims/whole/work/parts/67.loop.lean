/-! LOOPS IN STEP, AND SMALL NUMBERS; PAGES, CANON -/
theorem loop2 {σ τ ρ π : Type} (L : Nat → Nat → σ → Option ρ) (M : Nat → Nat → τ → Option π) (R : Nat → σ → τ → Prop) (Q : ρ → π → Prop) (N : Nat)
    (hend : ∀ a b, R N a b → ∃ u v, (∀ f, L (f + 1) N a = some u) ∧ (∀ g, M (g + 1) N b = some v) ∧ Q u v)
    (hstep : ∀ k a b, k < N → R k a b → (∃ u v, (∀ f, L (f + 1) k a = some u) ∧ (∀ g, M (g + 1) k b = some v) ∧ Q u v) ∨ ∃ a' b', (∀ f, N - k ≤ f → L (f + 1) k a = L f (k + 1) a') ∧ (∀ g, N - k ≤ g → M (g + 1) k b = M g (k + 1) b') ∧ R (k + 1) a' b') :
    ∀ n k f g a b, k + n = N → n < f → n < g → R k a b → ∃ u v, L f k a = some u ∧ M g k b = some v ∧ Q u v := by
  intro n
  induction n with
  | zero =>
    intro k f g a b hk hf hg hR
    obtain ⟨f, rfl⟩ : ∃ q, f = q + 1 := ⟨f - 1, by omega⟩
    obtain ⟨g, rfl⟩ : ∃ q, g = q + 1 := ⟨g - 1, by omega⟩
    have hk : k = N := by omega
    subst hk
    obtain ⟨u, v, h1, h2, h3⟩ := hend a b hR
    exact ⟨u, v, h1 f, h2 g, h3⟩
  | succ n ih =>
    intro k f g a b hk hf hg hR
    obtain ⟨f, rfl⟩ : ∃ q, f = q + 1 := ⟨f - 1, by omega⟩
    obtain ⟨g, rfl⟩ : ∃ q, g = q + 1 := ⟨g - 1, by omega⟩
    rcases hstep k a b (by omega) hR with ⟨u, v, h1, h2, h3⟩ | ⟨a', b', h1, h2, h3⟩
    · exact ⟨u, v, h1 f, h2 g, h3⟩
    · obtain ⟨u, v, q1, q2, q3⟩ := ih (k + 1) f g a' b' (by omega) (by omega) (by omega) h3
      exact ⟨u, v, by rw [h1 f (by omega), q1], by rw [h2 g (by omega), q2], q3⟩
theorem loop1 {σ ρ : Type} (L : Nat → Nat → σ → Option ρ) (R : Nat → σ → Prop) (Q : ρ → Prop) (N : Nat)
    (hend : ∀ a, R N a → ∃ u, (∀ f, L (f + 1) N a = some u) ∧ Q u)
    (hstep : ∀ k a, k < N → R k a → (∃ u, (∀ f, L (f + 1) k a = some u) ∧ Q u) ∨ ∃ a', (∀ f, N - k ≤ f → L (f + 1) k a = L f (k + 1) a') ∧ R (k + 1) a') :
    ∀ n k f a, k + n = N → n < f → R k a → ∃ u, L f k a = some u ∧ Q u := by
  intro n
  induction n with
  | zero =>
    intro k f a hk hf hR
    obtain ⟨f, rfl⟩ : ∃ q, f = q + 1 := ⟨f - 1, by omega⟩
    have hk : k = N := by omega
    subst hk
    obtain ⟨u, h1, h3⟩ := hend a hR
    exact ⟨u, h1 f, h3⟩
  | succ n ih =>
    intro k f a hk hf hR
    obtain ⟨f, rfl⟩ : ∃ q, f = q + 1 := ⟨f - 1, by omega⟩
    rcases hstep k a (by omega) hR with ⟨u, h1, h3⟩ | ⟨a', h1, h3⟩
    · exact ⟨u, h1 f, h3⟩
    · obtain ⟨u, q1, q3⟩ := ih (k + 1) f a' (by omega) (by omega) h3
      exact ⟨u, by rw [h1 f (by omega), q1], q3⟩
theorem sub_small {x y : Int32} {a b : Int} (hx : x.toInt = a) (hy : y.toInt = b) (h : -2 ^ 31 ≤ a - b) (h2 : a - b < 2 ^ 31) : (x - y).toInt = a - b := by
  rw [Int32.toInt_sub, hx, hy, Int.bmod_def]
  omega
theorem add_small {x y : Int32} {a b : Int} (hx : x.toInt = a) (hy : y.toInt = b) (h : -2 ^ 31 ≤ a + b) (h2 : a + b < 2 ^ 31) : (x + y).toInt = a + b := by
  rw [Int32.toInt_add, hx, hy, Int.bmod_def]
  omega
theorem nI_sub {a b : Nat} (h : b ≤ a) : nI a - nI b = nI (a - b) := by
  obtain ⟨c, rfl⟩ : ∃ c, a = c + b := ⟨a - b, by omega⟩
  rw [← nI_add, Nat.add_sub_cancel, Int32.add_sub_cancel]
theorem nI_div {a b : Nat} (ha : a < 2 ^ 31) (hb : b < 2 ^ 31) (h0 : 0 < b) : nI a / nI b = nI (a / b) := by
  rw [i32_eq, nI_toInt (Nat.lt_of_le_of_lt (Nat.div_le_self _ _) ha), Int32.toInt_div, nI_toInt ha, nI_toInt hb]
  have h1 : (a : Int).tdiv b = ((a / b : Nat) : Int) := rfl
  have h2 : a / b ≤ a := Nat.div_le_self _ _
  rw [h1, Int.bmod_def]
  generalize a / b = q at *
  omega
theorem nI_rem {a b : Nat} (ha : a < 2 ^ 31) (hb : b < 2 ^ 31) (h0 : 0 < b) : mRm (nI a) (nI b) = nI (a % b) := by
  unfold mRm
  rw [nI_div ha hb h0, nI_mul, nI_sub (Nat.div_mul_le_self a b)]
  congr 1
  have := Nat.div_add_mod a b
  rw [Nat.mul_comm] at this
  omega
theorem nI_remO {a b : Nat} (ha : a < 2 ^ 31) (hb : b < 2 ^ 31) (h0 : 0 < b) : mRemO (nI a) (nI b) = some (nI (a % b)) := by
  unfold mRemO
  rw [if_neg (nI_ne0 h0 hb), nI_rem ha hb h0]
theorem apart_abs {a b c : Nat} (ha : a ≤ 1000) (hb : b ≤ 1000) (hc : c ≤ 1000) : mAbs (nI a - nI b - nI c) = r10_apart (nI a) (nI b + nI c) ∧ ∃ d, d ≤ 3000 ∧ r10_apart (nI a) (nI b + nI c) = nI d := by
  unfold mAbs r10_apart
  rw [nI_add]
  have e1 : (nI a - nI b - nI c).toInt = (a : Int) - b - c := sub_small (sub_small (nI_toInt (by omega)) (nI_toInt (by omega)) (by omega) (by omega)) (nI_toInt (by omega)) (by omega) (by omega)
  by_cases h : a ≤ b + c
  · rw [if_pos (nI_le h (by omega)), nI_sub h]
    refine ⟨?_, _, by omega, rfl⟩
    by_cases h2 : b + c ≤ a
    · have h3 : a = b + c := by omega
      rw [if_pos (by rw [i32_le, e1, show (0 : Int32).toInt = 0 by decide]; omega), i32_eq, e1, nI_toInt (by omega)]
      omega
    · rw [if_neg (by rw [i32_le, e1, show (0 : Int32).toInt = 0 by decide]; omega), i32_eq, sub_small (show (0 : Int32).toInt = 0 by decide) e1 (by omega) (by omega), nI_toInt (by omega)]
      omega
  · rw [if_neg (nI_ge (by omega) (by omega)), show nI a - nI (b + c) = nI (a - (b + c)) from nI_sub (by omega)]
    refine ⟨?_, _, by omega, rfl⟩
    rw [if_pos (by rw [i32_le, e1, show (0 : Int32).toInt = 0 by decide]; omega), i32_eq, e1, nI_toInt (by omega)]
    omega
theorem apart_abs0 {a b : Nat} (ha : a ≤ 1000) (hb : b ≤ 1000) : mAbs (nI a - nI b) = r10_apart (nI a) (nI b) ∧ ∃ d, d ≤ 3000 ∧ r10_apart (nI a) (nI b) = nI d := by
  have h := apart_abs (c := 0) ha hb (by omega)
  have e : nI a - nI b - nI 0 = nI a - nI b := Int32.sub_zero _
  rw [e, nI_add, Nat.add_zero] at h
  exact h
theorem ite_some {α : Type} {c : Prop} [Decidable c] (a b : α) : (if c then some a else some b) = some (if c then a else b) := by split <;> rfl
theorem FU_lt {n : Nat} (h : n < 10000) : n < FU := h
theorem op_pages : S_pages Inv := by
  intro I s h x0 x1 x2 x3
  have fail : r9_pages x0 x1 x2 x3 = some (-1) → r10_pages I x0 x1 x2 x3 = some (-1, mW I 119 0 0) → ∃ v I2, r9_pages x0 x1 x2 x3 = some v ∧ r10_pages I x0 x1 x2 x3 = some (v, I2) ∧ Inv I2 s := fun g1 g2 => ⟨-1, _, g1, g2, Inv_told 0 h⟩
  unfold r9_pages r10_pages r10_isIn at *
  by_cases c1 : x0 < 1
  · exact fail (by simp only [if_pos c1]) (by simp only [if_pos c1, reduceIte])
  by_cases c2 : (60 : Int32) < x0
  · exact fail (by simp only [if_neg c1, if_pos c2]) (by simp only [if_neg c1, if_pos c2, reduceIte])
  by_cases c3 : x1 < 1
  · exact fail (by simp only [if_neg c1, if_neg c2, if_pos c3]) (by simp only [if_neg c1, if_neg c2, if_pos c3, if_neg one_n0, reduceIte])
  by_cases c4 : (9 : Int32) < x1
  · exact fail (by simp only [if_neg c1, if_neg c2, if_neg c3, if_pos c4]) (by simp only [if_neg c1, if_neg c2, if_neg c3, if_pos c4, if_neg one_n0, reduceIte])
  by_cases c5 : x2 < 1
  · exact fail (by simp only [if_neg c1, if_neg c2, if_neg c3, if_neg c4, if_pos c5]) (by simp only [if_neg c1, if_neg c2, if_neg c3, if_neg c4, if_pos c5, if_neg one_n0, reduceIte])
  by_cases c6 : (9 : Int32) < x2
  · exact fail (by simp only [if_neg c1, if_neg c2, if_neg c3, if_neg c4, if_neg c5, if_pos c6]) (by simp only [if_neg c1, if_neg c2, if_neg c3, if_neg c4, if_neg c5, if_pos c6, if_neg one_n0, reduceIte])
  by_cases c7 : x3 < 0
  · exact fail (by simp only [if_neg c1, if_neg c2, if_neg c3, if_neg c4, if_neg c5, if_neg c6, if_pos c7]) (by simp only [if_neg c1, if_neg c2, if_neg c3, if_neg c4, if_neg c5, if_neg c6, if_pos c7, if_neg one_n0, reduceIte])
  by_cases c8 : (1 : Int32) < x3
  · exact fail (by simp only [if_neg c1, if_neg c2, if_neg c3, if_neg c4, if_neg c5, if_neg c6, if_neg c7, if_neg (i32_nle.mpr c8)]) (by simp only [if_neg c1, if_neg c2, if_neg c3, if_neg c4, if_neg c5, if_neg c6, if_neg c7, if_pos c8, if_neg one_n0, reduceIte])
  clear fail
  simp only [if_neg c1, if_neg c2, if_neg c3, if_neg c4, if_neg c5, if_neg c6, if_neg c7, if_neg c8, if_pos (i32_nlt.mp c8), if_neg one_n0]
  unfold r2_pagesTurnedBy
  simp only [if_neg c3, if_pos (i32_nlt.mp c5)]
  obtain ⟨n, hn, rfl⟩ := nI_of2 (M := 60) (n := 60) (by decide) (lt0_of (c := 1) (by decide) c1) (i32_nlt.mp c2)
  obtain ⟨a, ha, rfl⟩ := nI_of2 (M := 9) (n := 9) (by decide) (lt0_of (c := 1) (by decide) c3) (i32_nlt.mp c4)
  obtain ⟨b, hb, rfl⟩ := nI_of2 (M := 9) (n := 9) (by decide) (lt0_of (c := 1) (by decide) c5) (i32_nlt.mp c6)
  rw [i32_lt, nI_toInt (by omega), show (1 : Int32).toInt = 1 by decide] at c3 c5 c1
  have hz : (if x3 = 0 then some (1 : Int32) else some 0 : Option Int32) = some (1 - x3) := by
    obtain ⟨d, hd, rfl⟩ := nI_of2 (M := 1) (n := 1) (by decide) c7 (i32_nlt.mp c8)
    have : d = 0 ∨ d = 1 := by omega
    rcases this with rfl | rfl <;> decide
  rw [hz, Option.bind_some]
  obtain ⟨u, v, q1, q2, q3⟩ := loop2 (fun f k a' => l2_pagesTurnedBy_18 (nI n) (nI a) (nI b) (1 - x3) f a' (nI k)) (fun f k a' => l10_pages_57 (mW I 119 0 0) (nI n) (nI a) (nI b) x3 f a' (nI k)) (fun _ u v => u = v) (fun u v => u = v) (n + 1)
    (fun u v e => ⟨u, v, fun f => by show l2_pagesTurnedBy_18 _ _ _ _ (f + 1) _ _ = _; rw [l2_pagesTurnedBy_18, if_pos (nI_lt (Nat.lt_succ_self n) (by omega))], fun f => by show l10_pages_57 _ _ _ _ _ (f + 1) _ _ = _; rw [l10_pages_57, if_pos (nI_lt (Nat.lt_succ_self n) (by omega))], e⟩)
    (fun k u v hk e => by
      subst e
      refine .inr ⟨if (if nI (k % a) = 0 then (1 : Int32) else 0) + (if nI (k % b) = 0 then (1 : Int32) else 0) = 1 - x3 then u + 1 else u, _, fun f _ => ?_, fun g _ => ?_, rfl⟩
      · show l2_pagesTurnedBy_18 _ _ _ _ (f + 1) _ _ = l2_pagesTurnedBy_18 _ _ _ _ f _ _
        rw [l2_pagesTurnedBy_18, if_neg (nI_nlt (by omega) (by omega)), nI_remO (by omega) (by omega) (by omega), nI_remO (by omega) (by omega) (by omega), nI_1]
        simp only [ite_some, Option.bind_some]
      · show l10_pages_57 _ _ _ _ _ (g + 1) _ _ = l10_pages_57 _ _ _ _ _ g _ _
        rw [l10_pages_57, if_neg (nI_nlt (by omega) (by omega)), nI_remO (by omega) (by omega) (by omega), nI_remO (by omega) (by omega) (by omega), nI_1]
        simp only [ite_some, Option.bind_some]) n 1 FU FU 0 0 (by omega) (FU_lt (by omega)) (FU_lt (by omega)) rfl
  have q1' : l2_pagesTurnedBy_18 (nI n) (nI a) (nI b) (1 - x3) FU 0 1 = some u := q1
  have q2' : l10_pages_57 (mW I 119 0 0) (nI n) (nI a) (nI b) x3 FU 0 1 = some v := q2
  rw [q1', q2']
  exact ex1 rfl rfl q3.symm (Inv_told 0 h)

/-! LASTS: the reference's next order -/
def d7 (o : Nat → Nat) : Nat → Option Nat
  | 0 => none
  | i + 1 => if o i ≤ o (i + 1) then some i else d7 o i
def d48 (o : Nat → Nat) (k : Nat) : Nat → Nat
  | 0 => 0
  | j + 1 => if o k ≤ o (j + 1) then j + 1 else d48 o k j
def swp (o : Nat → Nat) (a b : Nat) : Nat → Nat := fun i => if i = b then o a else if i = a then o b else o i
def rvs : Nat → (Nat → Nat) → Nat → Nat → (Nat → Nat)
  | 0, o, _, _ => o
  | f + 1, o, lo, hi => if hi ≤ lo then o else rvs f (swp o lo hi) (lo + 1) (hi - 1)
def nxt (m : Nat) (o : Nat → Nat) : Option (Nat → Nat) := match d7 o (m - 1) with | none => none | some i => some (rvs 5 (swp o i (d48 o i (m - 1))) (i + 1) (m - 1))
theorem d7_lt (o : Nat → Nat) : ∀ n i, d7 o n = some i → i < n
  | 0, i, h => by unfold d7 at h; exact absurd h (by simp)
  | n + 1, i, h => by
    unfold d7 at h
    by_cases z : o n ≤ o (n + 1)
    · rw [if_pos z] at h
      have := Option.some.inj h
      omega
    · rw [if_neg z] at h
      have := d7_lt o n i h
      omega
theorem d48_le (o : Nat → Nat) (k : Nat) : ∀ j, k ≤ j → k ≤ d48 o k j ∧ d48 o k j ≤ j
  | 0, h => by unfold d48; omega
  | j + 1, h => by
    unfold d48
    by_cases z : o k ≤ o (j + 1)
    · rw [if_pos z]; omega
    · rw [if_neg z]
      by_cases e : k = j + 1
      · rw [e] at z; exact absurd (Nat.le_refl _) z
      · have := d48_le o k j (by omega)
        omega
/-- the row holds o -/
def Row (M : mI) (m : Nat) (o : Nat → Nat) : Prop := ∀ i, i < m → M 144 i = nI (o i)
theorem sim7 {M : mI} {m : Nat} {o : Nat → Nat} (hm : m ≤ 5) (hR : Row M m o) (ho : ∀ i, i < m → o i < 12) : ∀ i f, i + 1 < m → i + 1 < f → l10_goesToNextOrder_7 M f (nI i) = some (match d7 o (i + 1) with | none => -1 | some a => nI a)
  | 0, f, hi, hf => by
    obtain ⟨f, rfl⟩ : ∃ g, f = g + 1 := ⟨f - 1, by omega⟩
    obtain ⟨f, rfl⟩ : ∃ g, f = g + 1 := ⟨f - 1, by omega⟩
    have h0 := ho 0 (by omega)
    have h1 := ho (0 + 1) (by omega)
    rw [l10_goesToNextOrder_7, if_neg (nI_pos (by omega)), mLd_n (by omega) (by decide), Option.bind_some, nI_1, mLd_n (by omega) (by decide), Option.bind_some, hR 0 (by omega), hR (0 + 1) (by omega)]
    show _ = some (match (if o 0 ≤ o (0 + 1) then some 0 else none : Option Nat) with | none => -1 | some a => nI a)
    by_cases z : o 0 ≤ o (0 + 1)
    · rw [if_pos z, if_pos (nI_le z (by omega))]
    · rw [if_neg z, if_neg (nI_ge (by omega) (by omega)), l10_goesToNextOrder_7, if_pos (by decide)]
      rfl
  | i + 1, f, hi, hf => by
    obtain ⟨f, rfl⟩ : ∃ g, f = g + 1 := ⟨f - 1, by omega⟩
    have h0 := ho (i + 1) (by omega)
    have h1 := ho (i + 1 + 1) (by omega)
    rw [l10_goesToNextOrder_7, if_neg (nI_pos (by omega)), mLd_n (by omega) (by decide), Option.bind_some, nI_1, mLd_n (by omega) (by decide), Option.bind_some, hR (i + 1) (by omega), hR (i + 1 + 1) (by omega)]
    show _ = some (match (if o (i + 1) ≤ o (i + 1 + 1) then some (i + 1) else d7 o (i + 1) : Option Nat) with | none => -1 | some a => nI a)
    by_cases z : o (i + 1) ≤ o (i + 1 + 1)
    · rw [if_pos z, if_pos (nI_le z (by omega))]
    · rw [if_neg z, if_neg (nI_ge (by omega) (by omega)), nI_pred]
      exact sim7 hm hR ho i f (by omega) (by omega)
theorem sim48 {M : mI} {m : Nat} {o : Nat → Nat} (hm : m ≤ 5) (hR : Row M m o) (ho : ∀ i, i < m → o i < 12) {k : Nat} (hk : k < m) : ∀ j f, k ≤ j → j < m → j < f → l10_goesToNextOrder_48 M (nI k) f (nI j) = some (nI (d48 o k j))
  | 0, f, hkj, hj, hf => by
    obtain ⟨f, rfl⟩ : ∃ g, f = g + 1 := ⟨f - 1, by omega⟩
    have : k = 0 := by omega
    subst this
    rw [l10_goesToNextOrder_48, mLd_n (by omega) (by decide), Option.bind_some, Option.bind_some, if_pos (by rw [i32_le]; omega)]
    rfl
  | j + 1, f, hkj, hj, hf => by
    obtain ⟨f, rfl⟩ : ∃ g, f = g + 1 := ⟨f - 1, by omega⟩
    have h0 := ho (j + 1) hj
    have h1 := ho k hk
    rw [l10_goesToNextOrder_48, mLd_n (by omega) (by decide), Option.bind_some, mLd_n (by omega) (by decide), Option.bind_some, hR (j + 1) hj, hR k hk]
    show _ = some (nI (if o k ≤ o (j + 1) then j + 1 else d48 o k j))
    by_cases z : o k ≤ o (j + 1)
    · rw [if_pos z, if_pos (nI_le z (by omega))]
    · rw [if_neg z, if_neg (nI_ge (by omega) (by omega)), nI_pred]
      have : k ≠ j + 1 := fun e => z (by rw [e]; exact Nat.le_refl _)
      exact sim48 hm hR ho hk j f (by omega) (by omega) (by omega)
theorem swap_row {M : mI} {m a b : Nat} {o : Nat → Nat} (hR : Row M m o) (ha : a < m) (hb : b < m) : Row (mW (mW M 144 a (nI (o b))) 144 b (nI (o a))) m (swp o a b) := by
  intro i hi
  unfold swp
  by_cases e : i = b
  · rw [if_pos e, e, mW_at]
  · rw [if_neg e, mW_off _ _ e]
    by_cases e2 : i = a
    · rw [if_pos e2, e2, mW_at]
    · rw [if_neg e2, mW_off _ _ e2, hR i hi]
theorem swp_lt {o : Nat → Nat} {m a b : Nat} (ho : ∀ i, i < m → o i < 12) (ha : a < m) (hb : b < m) : ∀ i, i < m → swp o a b i < 12 := by
  intro i hi
  unfold swp
  split
  · exact ho a ha
  · split
    · exact ho b hb
    · exact ho i hi
theorem sim109 {m : Nat} (hm : m ≤ 5) : ∀ (f lo hi : Nat) (M : mI) (o : Nat → Nat), Row M m o → hi < m → lo + f ≤ 100 → hi < lo + 2 * f → ∃ M', (∀ g, f < g → l10_goesToNextOrder_109 g (nI hi) (nI lo) M = some M') ∧ Row M' m (rvs f o lo hi) ∧ (∀ a, a ≠ 144 → M' a = M a)
  | 0, lo, hi, M, o, hR, hh, hl, hf => ⟨M, fun g hg => by
      obtain ⟨g, rfl⟩ : ∃ x, g = x + 1 := ⟨g - 1, by omega⟩
      rw [l10_goesToNextOrder_109, if_pos (nI_le (by omega) (by omega))], hR, fun _ _ => rfl⟩
  | f + 1, lo, hi, M, o, hR, hh, hl, hf => by
    by_cases z : hi ≤ lo
    · refine ⟨M, fun g hg => ?_, ?_, fun _ _ => rfl⟩
      · obtain ⟨g, rfl⟩ : ∃ x, g = x + 1 := ⟨g - 1, by omega⟩
        rw [l10_goesToNextOrder_109, if_pos (nI_le z (by omega))]
      · show Row M m (if hi ≤ lo then o else _)
        rw [if_pos z]; exact hR
    · obtain ⟨M', r1, r2, r3⟩ := sim109 hm f (lo + 1) (hi - 1) (mW (mW M 144 lo (nI (o hi))) 144 hi (nI (o lo))) (swp o lo hi) (swap_row hR (by omega) hh) (by omega) (by omega) (by omega)
      refine ⟨M', fun g hg => ?_, ?_, fun a ha => by rw [r3 a ha, mW_ne _ _ _ ha, mW_ne _ _ _ ha]⟩
      · obtain ⟨g, rfl⟩ : ∃ x, g = x + 1 := ⟨g - 1, by omega⟩
        rw [l10_goesToNextOrder_109, if_neg (nI_ge (by omega) (by omega)), mLd_n (by omega) (by decide), Option.bind_some, mLd_n (by omega) (by decide), Option.bind_some, mSto_n (by omega) (by decide), Option.bind_some, mSto_n (by omega) (by decide), Option.bind_some, hR lo (by omega), hR hi hh, nI_1, show nI hi - 1 = nI (hi - 1) from nI_sub (b := 1) (by omega)]
        exact r1 g (by omega)
      · show Row M' m (if hi ≤ lo then o else _)
        rw [if_neg z]; exact r2
theorem next_sim {M : mI} {m : Nat} {o : Nat → Nat} (h1 : 1 ≤ m) (hm : m ≤ 5) (em : M 119 45 = nI m) (hR : Row M m o) (ho : ∀ i, i < m → o i < 12) : (nxt m o = none → r10_goesToNextOrder M = some (0, M)) ∧ ∀ o', nxt m o = some o' → ∃ M', r10_goesToNextOrder M = some (1, M') ∧ Row M' m o' ∧ (∀ a, a ≠ 144 → M' a = M a) := by
  have fu := FU_lt (n := 100) (by omega)
  have e7 : l10_goesToNextOrder_7 M FU (nI m - 2) = some (match d7 o (m - 1) with | none => -1 | some a => nI a) := by
    by_cases z : m = 1
    · subst z
      rw [show FU = (FU - 1) + 1 by omega, show nI 1 - 2 = -1 by decide, l10_goesToNextOrder_7, if_pos (by decide)]
      rfl
    · have := sim7 hm hR ho (m - 2) FU (by omega) (by omega)
      rw [show m - 2 + 1 = m - 1 by omega] at this
      rw [show nI m - 2 = nI (m - 2) from nI_sub (b := 2) (by omega)]
      exact this
  have e1 : nI m - 1 = nI (m - 1) := nI_sub (b := 1) h1
  constructor
  · intro hn
    unfold nxt at hn
    cases hd : d7 o (m - 1) with
    | some i => rw [hd] at hn; exact absurd hn (by simp)
    | none =>
      rw [hd] at e7
      unfold r10_goesToNextOrder
      rw [em, e7, Option.bind_some, if_neg (by decide)]
  · intro o' hn
    unfold nxt at hn
    cases hd : d7 o (m - 1) with
    | none => rw [hd] at hn; exact absurd hn (by simp)
    | some i =>
      rw [hd] at hn e7
      have hn : rvs 5 (swp o i (d48 o i (m - 1))) (i + 1) (m - 1) = o' := Option.some.inj hn
      have il := d7_lt o (m - 1) i hd
      have dl := d48_le o i (m - 1) (by omega)
      obtain ⟨M', r1, r2, r3⟩ := sim109 hm 5 (i + 1) (m - 1) (mW (mW M 144 i (nI (o (d48 o i (m - 1))))) 144 (d48 o i (m - 1)) (nI (o i))) (swp o i (d48 o i (m - 1))) (swap_row hR (by omega) (by omega)) (by omega) (by omega) (by omega)
      rw [hn] at r2
      refine ⟨M', ?_, r2, fun a ha => by rw [r3 a ha, mW_ne _ _ _ ha, mW_ne _ _ _ ha]⟩
      unfold r10_goesToNextOrder
      rw [em, e7, Option.bind_some]
      dsimp only
      rw [if_pos (nI_pos' (by omega)), e1, sim48 hm hR ho (by omega) (m - 1) FU (by omega) (by omega) (by omega), Option.bind_some, mLd_n (by omega) (by decide), Option.bind_some, mLd_n (by omega) (by decide), Option.bind_some, mSto_n (by omega) (by decide), Option.bind_some, mSto_n (by omega) (by decide), Option.bind_some, hR i (by omega), hR _ (by omega), mW_ne _ _ _ (show 119 ≠ 144 by decide), mW_ne _ _ _ (show 119 ≠ 144 by decide), em, e1, nI_1, r1 FU (by omega), Option.bind_some]
/-! the order is that of the numbers alone -/
theorem d7_a {a σ : Nat → Nat} {m : Nat} (ha : ∀ x y, x < m → y < m → (a x ≤ a y ↔ x ≤ y)) (hσ : ∀ i, σ i < m) : ∀ n, d7 (fun i => a (σ i)) n = d7 σ n
  | 0 => rfl
  | n + 1 => by
    unfold d7
    rw [d7_a ha hσ n]
    by_cases z : σ n ≤ σ (n + 1)
    · rw [if_pos z, if_pos ((ha _ _ (hσ _) (hσ _)).mpr z)]
    · rw [if_neg z, if_neg (fun q => z ((ha _ _ (hσ _) (hσ _)).mp q))]
theorem d48_a {a σ : Nat → Nat} {m : Nat} (ha : ∀ x y, x < m → y < m → (a x ≤ a y ↔ x ≤ y)) (hσ : ∀ i, σ i < m) (k : Nat) : ∀ n, d48 (fun i => a (σ i)) k n = d48 σ k n
  | 0 => rfl
  | n + 1 => by
    unfold d48
    rw [d48_a ha hσ k n]
    by_cases z : σ k ≤ σ (n + 1)
    · rw [if_pos z, if_pos ((ha _ _ (hσ _) (hσ _)).mpr z)]
    · rw [if_neg z, if_neg (fun q => z ((ha _ _ (hσ _) (hσ _)).mp q))]
theorem swp_a (a σ : Nat → Nat) (x y : Nat) : swp (fun i => a (σ i)) x y = fun i => a (swp σ x y i) := by
  funext i
  unfold swp
  split
  · rfl
  · split <;> rfl
theorem rvs_a (a : Nat → Nat) : ∀ f (σ : Nat → Nat) lo hi, rvs f (fun i => a (σ i)) lo hi = fun i => a (rvs f σ lo hi i)
  | 0, σ, lo, hi => rfl
  | f + 1, σ, lo, hi => by
    unfold rvs
    by_cases z : hi ≤ lo
    · rw [if_pos z, if_pos z]
    · rw [if_neg z, if_neg z, swp_a, rvs_a a f]
theorem nxt_a {a σ : Nat → Nat} {m : Nat} (ha : ∀ x y, x < m → y < m → (a x ≤ a y ↔ x ≤ y)) (hσ : ∀ i, σ i < m) : nxt m (fun i => a (σ i)) = (nxt m σ).map (fun τ i => a (τ i)) := by
  unfold nxt
  rw [d7_a ha hσ]
  cases d7 σ (m - 1) with
  | none => rfl
  | some i =>
    show some (rvs 5 (swp (fun i => a (σ i)) i (d48 (fun i => a (σ i)) i (m - 1))) (i + 1) (m - 1)) = some (fun j => a (rvs 5 (swp σ i (d48 σ i (m - 1))) (i + 1) (m - 1) j))
    rw [d48_a ha hσ, swp_a, rvs_a]
def chk (m : Nat) : List (List Nat) → Bool
  | [] => true
  | [x] => x.length == m && x.all (fun y => decide (y < m)) && (nxt m (fun i => x.getD i 0)).isNone
  | x :: y :: l => x.length == m && x.all (fun y => decide (y < m)) && (match nxt m (fun i => x.getD i 0) with | none => false | some g => (List.range m).all (fun i => g i == y.getD i 0)) && chk m (y :: l)
theorem chk_all : ∀ m, m < 6 → 1 ≤ m → chk m (lexp m (List.range m)) = true := by decide +kernel

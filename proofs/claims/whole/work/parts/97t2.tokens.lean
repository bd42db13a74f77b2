/-! TEXT: tokens, as the class splits the tape and as the reference reads them -/
def Stw (P : Nat → Bool) (n p e : Nat) : Prop := p ≤ e ∧ (∀ q, p ≤ q → q < e → q < n ∧ P q = true) ∧ ¬ (e < n ∧ P e = true)
theorem Stw_uniq {P : Nat → Bool} {n p e e' : Nat} (h : Stw P n p e) (h' : Stw P n p e') : e = e' := by
  apply Classical.byContradiction
  intro hn
  by_cases lt : e < e'
  · exact h.2.2 (h'.2.1 e h.1 lt)
  · exact h'.2.2 (h.2.1 e' h'.1 (by omega))
theorem Stw_le {P : Nat → Bool} {n p e : Nat} (h : Stw P n p e) (hp : p ≤ n) : e ≤ n := by
  by_cases z : p = e
  · omega
  · have := h.2.1 (e - 1) (by have := h.1; omega) (by have := h.1; omega)
    omega
theorem Stw_lt {P : Nat → Bool} {n p e : Nat} (h : Stw P n p e) (hp : p < n) (hP : P p = true) : p < e := by
  apply Classical.byContradiction
  intro hn
  have : p = e := by have := h.1; omega
  subst this
  exact h.2.2 ⟨hp, hP⟩
/-- a loop that stops there -/
theorem stop_loop {ρ σ : Type} {P : Nat → Bool} {n : Nat} (L : Nat → Nat → ρ → Option σ) (F : Nat → ρ → ρ) (G : Nat → ρ → σ) (Q : Nat → ρ → Prop) (hgo : ∀ f p r, p < n → P p = true → Q p r → L (f + 1) p r = L f (p + 1) (F p r)) (hst : ∀ f p r, p ≤ n → ¬ (p < n ∧ P p = true) → Q p r → L (f + 1) p r = some (G p r)) (hQ : ∀ p r, p < n → P p = true → Q p r → Q (p + 1) (F p r)) : ∀ k p r, n - p ≤ k → p ≤ n → Q p r → ∃ e r', Stw P n p e ∧ Q e r' ∧ ∀ f, k < f → L f p r = some (G e r') := by
  intro k
  induction k with
  | zero =>
    intro p r hk hp q
    refine ⟨p, r, ⟨Nat.le_refl _, fun q h1 h2 => by omega, fun h => by omega⟩, q, fun f hf => ?_⟩
    obtain ⟨f, rfl⟩ : ∃ g, f = g + 1 := ⟨f - 1, by omega⟩
    exact hst f p r hp (fun h => by omega) q
  | succ k ih =>
    intro p r hk hp q
    by_cases z : p < n ∧ P p = true
    · obtain ⟨e, r', h1, h2, h3⟩ := ih (p + 1) (F p r) (by omega) (by omega) (hQ p r z.1 z.2 q)
      have le := h1.1
      refine ⟨e, r', ⟨by omega, fun q q1 q2 => ?_, h1.2.2⟩, h2, fun f hf => ?_⟩
      · by_cases eq : q = p
        · rw [eq]; exact z
        · exact h1.2.1 q (by omega) q2
      · obtain ⟨f, rfl⟩ : ∃ g, f = g + 1 := ⟨f - 1, by omega⟩
        rw [hgo f p r z.1 z.2 q]
        exact h3 f (by omega)
    · refine ⟨p, r, ⟨Nat.le_refl _, fun q h1 h2 => by omega, z⟩, q, fun f hf => ?_⟩
      obtain ⟨f, rfl⟩ : ∃ g, f = g + 1 := ⟨f - 1, by omega⟩
      exact hst f p r hp z q
def vl (t : Nat → Nat) (s : Nat) : Nat → Nat
  | 0 => 0
  | k + 1 => 10 * vl t s k + (t (s + k) - 48)
theorem vl_lt {t : Nat → Nat} {s : Nat} : ∀ k, (∀ i, i < k → Dig (t (s + i)) = true) → vl t s k < 10 ^ k
  | 0, _ => by show 0 < 1; omega
  | k + 1, h => by
    have ih := vl_lt k (fun i hi => h i (by omega))
    have d := h k (by omega)
    unfold Dig at d
    simp only [Bool.and_eq_true, decide_eq_true_eq] at d
    show 10 * vl t s k + (t (s + k) - 48) < 10 ^ (k + 1)
    rw [Nat.pow_succ]
    omega
/-- the token behind p -/
def Tok (t : Nat → Nat) (n p : Nat) (κ v : Int32) (s e : Nat) : Prop := Stw (fun i => Blk (t i)) n p s ∧ ((¬ s < n ∧ e = s ∧ κ = 129 ∧ v = 0) ∨ (s < n ∧ Ltr (t s) = true ∧ Stw (fun i => Ltr (t i)) n s e ∧ v = 0 ∧ ∃ w, Wk t s e w ∧ κ = (match w with | some i => nI i | none => 130)) ∨ (s < n ∧ Ltr (t s) = false ∧ Dig (t s) = true ∧ Stw (fun i => Dig (t i)) n s e ∧ κ = (if 4 < e - s then 130 else 128) ∧ v = nI (vl t s (min 4 (e - s)))) ∨ (s < n ∧ Ltr (t s) = false ∧ Dig (t s) = false ∧ e = s + 1 ∧ v = 0 ∧ κ = (if Sgn (t s) = true then nI (t s) else 130)))
theorem Tok_uniq {t : Nat → Nat} {n p s e s' e' : Nat} {κ v κ' v' : Int32} (h : Tok t n p κ v s e) (h' : Tok t n p κ' v' s' e') : s = s' ∧ e = e' ∧ κ = κ' ∧ v = v' := by
  obtain ⟨a, b⟩ := h
  obtain ⟨a', b'⟩ := h'
  have es := Stw_uniq a a'
  subst es
  refine ⟨rfl, ?_⟩
  rcases b with ⟨b1, b2, b3, b4⟩ | ⟨b1, b2, b3, b4, w, b5, b6⟩ | ⟨b1, b2, b3, b4, b5, b6⟩ | ⟨b1, b2, b3, b4, b5, b6⟩ <;> rcases b' with ⟨c1, c2, c3, c4⟩ | ⟨c1, c2, c3, c4, w', c5, c6⟩ | ⟨c1, c2, c3, c4, c5, c6⟩ | ⟨c1, c2, c3, c4, c5, c6⟩
  · exact ⟨by rw [b2, c2], by rw [b3, c3], by rw [b4, c4]⟩
  · exact absurd c1 b1
  · exact absurd c1 b1
  · exact absurd c1 b1
  · exact absurd b1 c1
  · have := Stw_uniq b3 c3
    subst this
    have := Wk_uniq b5 c5
    subst this
    exact ⟨rfl, by rw [b6, c6], by rw [b4, c4]⟩
  · rw [b2] at c2; exact absurd c2 (by decide)
  · rw [b2] at c2; exact absurd c2 (by decide)
  · exact absurd b1 c1
  · rw [c2] at b2; exact absurd b2 (by decide)
  · have := Stw_uniq b4 c4
    subst this
    exact ⟨rfl, by rw [b5, c5], by rw [b6, c6]⟩
  · rw [b3] at c3; exact absurd c3 (by decide)
  · exact absurd b1 c1
  · rw [c2] at b2; exact absurd b2 (by decide)
  · rw [c3] at b3; exact absurd b3 (by decide)
  · exact ⟨by rw [b4, c4], by rw [b6, c6], by rw [b5, c5]⟩
theorem Tok_lt {t : Nat → Nat} {n p s e : Nat} {κ v : Int32} (h : Tok t n p κ v s e) (hp : p ≤ n) : p ≤ s ∧ s ≤ e ∧ e ≤ n ∧ (¬ κ = 129 → s < e) := by
  obtain ⟨a, b⟩ := h
  have s1 := a.1
  have s2 := Stw_le a hp
  rcases b with ⟨b1, b2, b3, b4⟩ | ⟨b1, b2, b3, b4, w, b5, b6⟩ | ⟨b1, b2, b3, b4, b5, b6⟩ | ⟨b1, b2, b3, b4, b5, b6⟩
  · exact ⟨s1, by omega, by omega, fun q => absurd b3 q⟩
  · have := Stw_lt b3 b1 b2
    have := Stw_le b3 (by omega)
    exact ⟨s1, by omega, by omega, fun _ => by omega⟩
  · have := Stw_lt b4 b1 b3
    have := Stw_le b4 (by omega)
    exact ⟨s1, by omega, by omega, fun _ => by omega⟩
  · exact ⟨s1, by omega, by omega, fun _ => by omega⟩
/-- the tape on both sides -/
def Tap (C M : mI) (t : Nat → Nat) (n : Nat) : Prop := n ≤ 400 ∧ C 109 1 = nI n ∧ M 119 15 = nI n ∧ (∀ i, i < 400 → t i ≤ 255 ∧ C 110 i = nI (t i) ∧ M 129 i = nI (t i)) ∧ eqOn 143 (M 130) (fun k => mWords.getD k 0)
theorem endL_C {C : mI} {t : Nat → Nat} {n : Nat} (hn : n ≤ 400) (e1 : C 109 1 = nI n) (ht : ∀ i, i < 400 → t i ≤ 255 ∧ C 110 i = nI (t i)) {s : Nat} (hs : s ≤ n) : ∃ e, Stw (fun i => Ltr (t i)) n s e ∧ r4_endOfLetters C (nI s) = some (nI e) := by
  obtain ⟨e, _, h1, _, h2⟩ := stop_loop (ρ := Unit) (σ := Int32) (P := fun i => Ltr (t i)) (n := n) (fun f p _ => l4_endOfLetters_2 C f (nI p)) (fun _ _ => ()) (fun p _ => nI p) (fun _ _ => True) (fun f p r hp hP _ => by
    obtain ⟨a, b⟩ := ht p (by omega)
    show l4_endOfLetters_2 C (f + 1) (nI p) = _
    rw [l4_endOfLetters_2, e1, if_neg (nI_ge hp (by omega)), mLd_n (by omega) (by decide), Option.bind_some, b, (sg_e a).1, if_pos hP, if_neg one_n0, nI_1]) (fun f p r hpn h _ => by
    show l4_endOfLetters_2 C (f + 1) (nI p) = _
    by_cases hp : p < n
    · obtain ⟨a, b⟩ := ht p (by omega)
      rw [l4_endOfLetters_2, e1, if_neg (nI_ge hp (by omega)), mLd_n (by omega) (by decide), Option.bind_some, b, (sg_e a).1, if_neg (fun q => h ⟨hp, q⟩), if_pos rfl]
    · rw [l4_endOfLetters_2, e1, if_pos (nI_le (by omega) (by omega))]) (fun _ _ _ _ _ => trivial) 400 s () (by omega) hs trivial
  refine ⟨e, h1, ?_⟩
  unfold r4_endOfLetters
  rw [h2 FU (FU_lt (by omega)), Option.bind_some]
theorem endD_C {C : mI} {t : Nat → Nat} {n : Nat} (hn : n ≤ 400) (e1 : C 109 1 = nI n) (ht : ∀ i, i < 400 → t i ≤ 255 ∧ C 110 i = nI (t i)) {s : Nat} (hs : s ≤ n) : ∃ e, Stw (fun i => Dig (t i)) n s e ∧ r4_endOfDigits C (nI s) = some (nI e) := by
  obtain ⟨e, _, h1, _, h2⟩ := stop_loop (ρ := Unit) (σ := Int32) (P := fun i => Dig (t i)) (n := n) (fun f p _ => l4_endOfDigits_2 C f (nI p)) (fun _ _ => ()) (fun p _ => nI p) (fun _ _ => True) (fun f p r hp hP _ => by
    obtain ⟨a, b⟩ := ht p (by omega)
    show l4_endOfDigits_2 C (f + 1) (nI p) = _
    rw [l4_endOfDigits_2, e1, if_neg (nI_ge hp (by omega)), mLd_n (by omega) (by decide), Option.bind_some, b, (sg_e a).2.2.1, if_pos hP, if_neg one_n0, nI_1]) (fun f p r hpn h _ => by
    show l4_endOfDigits_2 C (f + 1) (nI p) = _
    by_cases hp : p < n
    · obtain ⟨a, b⟩ := ht p (by omega)
      rw [l4_endOfDigits_2, e1, if_neg (nI_ge hp (by omega)), mLd_n (by omega) (by decide), Option.bind_some, b, (sg_e a).2.2.1, if_neg (fun q => h ⟨hp, q⟩), if_pos rfl]
    · rw [l4_endOfDigits_2, e1, if_pos (nI_le (by omega) (by omega))]) (fun _ _ _ _ _ => trivial) 400 s () (by omega) hs trivial
  refine ⟨e, h1, ?_⟩
  unfold r4_endOfDigits
  rw [h2 FU (FU_lt (by omega)), Option.bind_some]
theorem dig_step {v b : Nat} (hb : 48 ≤ b) : nI v * 10 + nI b - 48 = nI (10 * v + (b - 48)) := by
  rw [show (10 : Int32) = nI 10 from rfl, show (48 : Int32) = nI 48 from rfl, nI_mul, nI_add, nI_sub (by omega)]
  congr 1
  omega
theorem val_C {C : mI} {t : Nat → Nat} (ht : ∀ i, i < 400 → t i ≤ 255 ∧ C 110 i = nI (t i)) {s e : Nat} (hse : s ≤ e) (he : e ≤ 400) (hd : ∀ q, s ≤ q → q < e → Dig (t q) = true) : r4_valueOf C (nI s) (nI e) = some (nI (vl t s (min 4 (e - s)))) := by
  obtain ⟨u, q1, q2⟩ := loop1 (fun f k (y : Int32) => l4_valueOf_5 C (nI s) (nI e) f y (nI (s + k))) (fun k y => y = nI (vl t s k)) (fun y => y = nI (vl t s (min 4 (e - s)))) (min 4 (e - s))
    (fun y hy => ⟨y, fun f => by
      show l4_valueOf_5 _ _ _ (f + 1) _ _ = _
      rw [l4_valueOf_5, show (4 : Int32) = nI 4 from rfl, nI_add]
      by_cases z : e ≤ s + min 4 (e - s)
      · rw [if_pos (nI_le z (by omega))]
      · rw [if_neg (nI_ge (by omega) (by omega)), if_pos (nI_le (by omega) (by omega))], hy⟩)
    (fun k y hk hy => .inr ⟨nI (vl t s (k + 1)), fun f _ => by
      obtain ⟨a, b⟩ := ht (s + k) (by omega)
      have d := hd (s + k) (by omega) (by omega)
      unfold Dig at d
      simp only [Bool.and_eq_true, decide_eq_true_eq] at d
      show l4_valueOf_5 _ _ _ (f + 1) _ _ = _
      rw [l4_valueOf_5, show (4 : Int32) = nI 4 from rfl, nI_add, if_neg (nI_ge (by omega) (by omega)), if_neg (nI_ge (by omega) (by omega)), mLd_n (by omega) (by decide), Option.bind_some, b, hy, dig_step d.1, nI_1, Nat.add_assoc]
      rfl, rfl⟩) (min 4 (e - s)) 0 FU 0 (by omega) (FU_lt (by omega)) rfl
  unfold r4_valueOf
  rw [show l4_valueOf_5 C (nI s) (nI e) FU 0 (nI s) = some u from q1, Option.bind_some, q2]
theorem sgn_C2 : ∀ a, a < 16 → ∀ b, b < 16 → rJ0_indexOf0_s1 (mI2c (nI (16 * a + b))) ≠ none ∧ (∀ v, rJ0_indexOf0_s1 (mI2c (nI (16 * a + b))) = some v → (v < 0 ↔ Sgn (16 * a + b) = false)) := by
  intro a ha b hb
  have : ∀ a, a < 16 → ∀ b, b < 16 → (match rJ0_indexOf0_s1 (mI2c (nI (16 * a + b))) with | none => false | some v => decide (v < 0) == !Sgn (16 * a + b)) = true := by decide +kernel
  have := this a ha b hb
  cases h : rJ0_indexOf0_s1 (mI2c (nI (16 * a + b))) with
  | none => rw [h] at this; exact absurd this Bool.false_ne_true
  | some v =>
    rw [h] at this
    refine ⟨by simp, fun v' hv => ?_⟩
    have hv := Option.some.inj hv
    subst hv
    have this : (decide (v < 0) == !Sgn (16 * a + b)) = true := this
    cases hs : Sgn (16 * a + b) <;> rw [hs] at this <;> simp_all
theorem sgn_C {b : Nat} (h : b ≤ 255) : ∃ v, rJ0_indexOf0_s1 (mI2c (nI b)) = some v ∧ (v < 0 ↔ Sgn b = false) := by
  obtain ⟨h1, h2⟩ := sgn_C2 (b / 16) (by omega) (b % 16) (by omega)
  rw [show 16 * (b / 16) + b % 16 = b by omega] at h1 h2
  cases hx : rJ0_indexOf0_s1 (mI2c (nI b)) with
  | none => exact absurd hx h1
  | some v => exact ⟨v, rfl, h2 v hx⟩

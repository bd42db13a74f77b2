/-! BEATS: which strings beat together -/
theorem lrem_e {a b : Nat} (ha : a < 2 ^ 63) (h0 : 0 < b) (hb : b < 2 ^ 63) : mRemL (lN a) (lN b) = some (lN (a % b)) := by
  unfold mRemL mRl
  rw [if_neg (by rw [show (0 : Int64) = lN 0 from rfl, pk_lEQ hb (by decide)]; omega), pk_lRem ha h0 hb]
theorem lgcd {a b : Nat} (ha : a < 2 ^ 63) (hb : b ≤ 99) : l1_commonMultiple_9 FU (lN a) (lN b) 0 = some (lN (Nat.gcd a b)) := by
  obtain ⟨u, q1, q2⟩ := loop1 (fun f k (s : Nat × Nat) => l1_commonMultiple_9 f (lN s.1) (lN s.2) (nI k)) (fun k s => s.1 < 2 ^ 63 ∧ s.2 + k ≤ 99 ∧ Nat.gcd s.1 s.2 = Nat.gcd a b) (fun y => y = lN (Nat.gcd a b)) 99
    (fun s ⟨h1, h2, h3⟩ => ⟨lN s.1, fun f => by
      have e : s.2 = 0 := by omega
      show l1_commonMultiple_9 (f + 1) _ _ _ = _
      rw [l1_commonMultiple_9, if_neg (by decide), e, if_pos ((lg_cmp_le _ _).mpr (by decide))], by
      have e : s.2 = 0 := by omega
      rw [← h3, e, Nat.gcd_zero_right]⟩)
    (fun k s hk ⟨h1, h2, h3⟩ => by
      by_cases e : s.2 = 0
      · refine .inl ⟨lN s.1, fun f => ?_, by rw [← h3, e, Nat.gcd_zero_right]⟩
        show l1_commonMultiple_9 (f + 1) _ _ _ = _
        rw [l1_commonMultiple_9, if_neg (show ¬ (100 : Int32) ≤ nI k from nI_ge (b := 100) (by omega) (by decide)), e, if_pos ((lg_cmp_le _ _).mpr (by decide))]
      · have lt : s.1 % s.2 < s.2 := Nat.mod_lt _ (by omega)
        refine .inr ⟨(s.2, s.1 % s.2), fun f _ => ?_, by show s.2 < 2 ^ 63; omega, by show s.1 % s.2 + (k + 1) ≤ 99; omega, by
          show Nat.gcd s.2 (s.1 % s.2) = _
          rw [← h3, Nat.gcd_comm s.1 s.2, Nat.gcd_rec s.2 s.1, Nat.gcd_comm]⟩
        show l1_commonMultiple_9 (f + 1) _ _ _ = _
        rw [l1_commonMultiple_9, if_neg (show ¬ (100 : Int32) ≤ nI k from nI_ge (b := 100) (by omega) (by decide)), if_neg (fun q => by
          rw [lg_cmp_le, show (0 : Int64) = lN 0 from rfl, pk_lLE (by omega) (by decide)] at q
          omega), lrem_e h1 (by omega) (by omega), Option.bind_some, nI_1]) 99 0 FU (a, b) (by omega) (FU_lt (by omega)) ⟨ha, by show b + 0 ≤ 99; omega, rfl⟩
  rw [← q2]
  exact q1
theorem lcm_e {a b : Nat} (ha : a < 2 ^ 63) (h0 : 0 < a) (hb : b ≤ 99) (hb0 : 0 < b) : r1_commonMultiple (lN a) (lN b) = some (lN (a / Nat.gcd a b * b)) := by
  have g0 : 0 < Nat.gcd a b := Nat.gcd_pos_of_pos_left _ h0
  have gl : Nat.gcd a b ≤ a := Nat.gcd_le_left _ h0
  unfold r1_commonMultiple mDivL
  rw [lgcd ha hb, Option.bind_some, if_neg (fun q => by
    rw [lg_cmp_le, show (0 : Int64) = lN 0 from rfl, pk_lLE (by omega) (by decide)] at q
    omega), if_neg (by rw [show (0 : Int64) = lN 0 from rfl, pk_lEQ (by omega) (by decide)]; omega), Option.bind_some, Option.bind_some, pk_lDiv ha g0 (by omega), lN_mul]
theorem lcm_v {a b : Nat} (h0 : 0 < a) : a / Nat.gcd a b * b = Nat.lcm a b := by
  have g0 : 0 < Nat.gcd a b := Nat.gcd_pos_of_pos_left _ h0
  obtain ⟨l, hl⟩ := Nat.gcd_dvd_left a b
  unfold Nat.lcm
  generalize Nat.gcd a b = g at *
  subst hl
  rw [Nat.mul_div_cancel_left _ g0, Nat.mul_assoc, Nat.mul_div_cancel_left _ g0]
theorem icommon {a b : Nat} (ha : a ≤ 99) (hb : b ≤ 99) : r10_common (nI a) (nI b) = some (nI (Nat.gcd a b)) := by
  obtain ⟨u, q1, q2⟩ := loop1 (fun f k (s : Nat × Nat) => l10_common_5 f (nI s.1) (nI s.2)) (fun k s => s.1 ≤ 99 ∧ s.2 + k ≤ 99 ∧ Nat.gcd s.1 s.2 = Nat.gcd a b) (fun y => y = nI (Nat.gcd a b)) 99
    (fun s ⟨h1, h2, h3⟩ => ⟨nI s.1, fun f => by
      have e : s.2 = 0 := by omega
      show l10_common_5 (f + 1) _ _ = _
      rw [l10_common_5, e, if_pos nI_0], by
      have e : s.2 = 0 := by omega
      rw [← h3, e, Nat.gcd_zero_right]⟩)
    (fun k s hk ⟨h1, h2, h3⟩ => by
      by_cases e : s.2 = 0
      · refine .inl ⟨nI s.1, fun f => ?_, by rw [← h3, e, Nat.gcd_zero_right]⟩
        show l10_common_5 (f + 1) _ _ = _
        rw [l10_common_5, e, if_pos nI_0]
      · have lt : s.1 % s.2 < s.2 := Nat.mod_lt _ (by omega)
        refine .inr ⟨(s.2, s.1 % s.2), fun f _ => ?_, by show s.2 ≤ 99; omega, by show s.1 % s.2 + (k + 1) ≤ 99; omega, by
          show Nat.gcd s.2 (s.1 % s.2) = _
          rw [← h3, Nat.gcd_comm s.1 s.2, Nat.gcd_rec s.2 s.1, Nat.gcd_comm]⟩
        show l10_common_5 (f + 1) _ _ = _
        rw [l10_common_5, if_neg (nI_ne0 (by omega) (by omega)), nI_remO (by omega) (by omega) (by omega), Option.bind_some]) 99 0 FU (a, b) (by omega) (FU_lt (by omega)) ⟨ha, by show b + 0 ≤ 99; omega, rfl⟩
  unfold r10_common
  rw [show l10_common_5 FU (nI a) (nI b) = some u from q1, Option.bind_some, q2]
theorem times_e {a b : Nat} (ha : a < PB) (hb : b ≤ 9999) : r10_times (nI a) (nI b) = some (nI (a * b % PB)) := by
  obtain ⟨u, q1, q2⟩ := loop1 (fun f k (y : Int32) => l10_times_5 (nI a) (nI b) f y (nI k)) (fun k y => y = nI (a * k % PB)) (fun y => y = nI (a * b % PB)) b
    (fun y hy => ⟨y, fun f => by show l10_times_5 _ _ (f + 1) _ _ = _; rw [l10_times_5, if_pos (by rw [i32_le]; omega)], hy⟩)
    (fun k y hk hy => .inr ⟨nI (a * (k + 1) % PB), fun f _ => by
      show l10_times_5 _ _ (f + 1) _ _ = _
      rw [l10_times_5, if_neg (nI_ge hk (by omega)), hy, added_e (Nat.mod_lt _ (by decide)) ha, nI_1, Nat.mod_add_mod, Nat.mul_succ], rfl⟩) b 0 FU 0 (by omega) (FU_lt (by omega)) rfl
  unfold r10_times
  rw [show l10_times_5 (nI a) (nI b) FU 0 0 = some u from q1, Option.bind_some, q2]
/-! primes below 100 -/
def prB (q : Nat) : Nat → Bool
  | 0 => true
  | k + 1 => prB q k && (q % (k + 2) != 0)
def PR : List Nat := [2, 3, 5, 7, 11, 13, 17, 19, 23, 29, 31, 37, 41, 43, 47, 53, 59, 61, 67, 71, 73, 79, 83, 89, 97]
theorem pr_ok : ∀ q, q < 100 → 2 ≤ q → prB q (q - 2) = PR.contains q := by decide +kernel
theorem pr_test {I : mI} {q : Nat} (h2 : 2 ≤ q) (h : q < 100) : l10_allBeat_15 I (nI q) FU 1 2 = some (if PR.contains q = true then 1 else 0) := by
  obtain ⟨u, q1, q2⟩ := loop1 (fun f k (y : Int32) => l10_allBeat_15 I (nI q) f y (nI (k + 2))) (fun k y => y = if prB q k = true then 1 else 0) (fun y => y = if prB q (q - 2) = true then 1 else 0) (q - 2)
    (fun y hy => ⟨y, fun f => by show l10_allBeat_15 _ _ (f + 1) _ _ = _; rw [l10_allBeat_15, if_pos (nI_le (by omega) (by omega))], hy⟩)
    (fun k y hk hy => .inr ⟨if prB q (k + 1) = true then 1 else 0, fun f _ => by
      show l10_allBeat_15 _ _ (f + 1) _ _ = _
      rw [l10_allBeat_15, if_neg (nI_ge (by omega) (by omega)), nI_remO (by omega) (by omega) (by omega), Option.bind_some, nI_1]
      show _ = l10_allBeat_15 I (nI q) f (if (prB q k && (q % (k + 2) != 0)) = true then 1 else 0) (nI (k + 1 + 2))
      by_cases z : q % (k + 2) = 0
      · rw [z, if_pos nI_0, Option.bind_some]
        simp
      · rw [if_neg (nI_ne0 (by omega) (Nat.lt_of_lt_of_le (Nat.mod_lt _ (by omega)) (by omega))), Option.bind_some, hy]
        simp [z], rfl⟩) (q - 2) 0 FU 1 (by omega) (FU_lt (by omega)) rfl
  rw [show l10_allBeat_15 I (nI q) FU 1 2 = some u from q1, q2, pr_ok q h h2]
theorem pr_cop : ∀ q, q < 100 → PR.contains q = true → ∀ r, r < 100 → PR.contains r = true → q < r → Nat.gcd q r = 1 := by decide +kernel
theorem pr_2 : ∀ q, q < 100 → PR.contains q = true → 2 ≤ q := by decide +kernel
/-- the greatest power of q in p -/
def wI (q p : Nat) : Nat → Nat
  | 0 => 1
  | n + 1 => if p % (wI q p n * q) = 0 then wI q p n * q else wI q p n
theorem wI_ok (q p : Nat) : ∀ n, ∃ i, wI q p n = q ^ i ∧ wI q p n ∣ p
  | 0 => ⟨0, rfl, ⟨p, by unfold wI; omega⟩⟩
  | n + 1 => by
    obtain ⟨i, h1, h2⟩ := wI_ok q p n
    unfold wI
    by_cases z : p % (wI q p n * q) = 0
    · rw [if_pos z]
      exact ⟨i + 1, by rw [h1, Nat.pow_succ], Nat.dvd_of_mod_eq_zero z⟩
    · rw [if_neg z]
      exact ⟨i, h1, h2⟩
def prodN (p : Nat) : Nat → Nat
  | 0 => 1
  | n + 1 => if PR.contains n = true then prodN p n * wI n p 7 else prodN p n
theorem prodN_ok : ∀ p, p < 100 → 1 ≤ p → prodN p 100 = p := by decide +kernel
/-- up to the greatest power in one string's period -/
theorem pw56 {M : mI} {q j e p : Nat} (h2 : 2 ≤ q) (hq : q < 100) (hj : j < 8) (hp : M 149 j + 1 = nI p) (hp1 : 1 ≤ p) (hp99 : p ≤ 99) (he : q ^ e ≤ 99) : ∃ e', l10_allBeat_56 M (nI q) (nI j) FU (nI (q ^ e)) = some (nI (q ^ e')) ∧ e ≤ e' ∧ q ^ e' ≤ 99 ∧ (e' = e ∨ q ^ e' ∣ p) ∧ ¬ q ^ (e' + 1) ∣ p := by
  obtain ⟨u, q1, e', q2, q3⟩ := loop1 (fun f k (s : Nat) => l10_allBeat_56 M (nI q) (nI j) f (nI (q ^ s))) (fun k s => e + k ≤ s ∧ q ^ s ≤ 99 ∧ (s = e ∨ q ^ s ∣ p)) (fun y => ∃ e', y = nI (q ^ e') ∧ e ≤ e' ∧ q ^ e' ≤ 99 ∧ (e' = e ∨ q ^ e' ∣ p) ∧ ¬ q ^ (e' + 1) ∣ p) 100
    (fun s ⟨h1, h3, h4⟩ => by
      have a : s < 2 ^ s := Nat.lt_two_pow_self
      have b : 2 ^ s ≤ q ^ s := Nat.pow_le_pow_left h2 s
      exact absurd h3 (by omega))
    (fun k s hk ⟨h1, h3, h4⟩ => by
      have mx : q ^ s * q ≤ 99 * 99 := Nat.mul_le_mul h3 (by omega)
      have m0 : 0 < q ^ s * q := Nat.mul_pos (Nat.pow_pos (by omega)) (by omega)
      have st : ∀ f, l10_allBeat_56 M (nI q) (nI j) (f + 1) (nI (q ^ s)) = if nI (p % (q ^ s * q)) = 0 then l10_allBeat_56 M (nI q) (nI j) f (nI (q ^ s * q)) else some (nI (q ^ s)) := fun f => by
        rw [l10_allBeat_56, mLd_n hj (by decide), Option.bind_some, hp, nI_mul, nI_remO (by omega) (by omega) m0, Option.bind_some]
      by_cases z : p % (q ^ s * q) = 0
      · have dv := Nat.dvd_of_mod_eq_zero z
        have le := Nat.le_of_dvd (by omega) dv
        refine .inr ⟨s + 1, fun f _ => ?_, by omega, by rw [Nat.pow_succ]; omega, .inr (by rw [Nat.pow_succ]; exact dv)⟩
        show l10_allBeat_56 _ _ _ (f + 1) _ = _
        rw [st f, if_pos (by rw [z]; rfl), Nat.pow_succ]
      · refine .inl ⟨nI (q ^ s), fun f => ?_, s, rfl, by omega, h3, h4, fun dv => z ?_⟩
        · show l10_allBeat_56 _ _ _ (f + 1) _ = _
          rw [st f, if_neg (nI_ne0 (by omega) (Nat.lt_of_le_of_lt (Nat.mod_le _ _) (by omega)))]
        · rw [Nat.pow_succ] at dv
          exact Nat.mod_eq_zero_of_dvd dv) 100 0 FU e (by omega) (FU_lt (by omega)) ⟨by omega, he, .inl rfl⟩
  subst q2
  exact ⟨e', q1, q3⟩
theorem pw49 {M : mI} {q : Nat} {p : Nat → Nat} (h2 : 2 ≤ q) (hq : q < 100) (hp : ∀ j, j < 8 → M 149 j + 1 = nI (p j) ∧ 1 ≤ p j ∧ p j ≤ 99) : ∃ e, l10_allBeat_49 M (nI q) FU 1 0 = some (nI (q ^ e)) ∧ q ^ e ≤ 99 ∧ (e = 0 ∨ ∃ j, j < 8 ∧ q ^ e ∣ p j) ∧ ∀ j, j < 8 → ∀ i, q ^ i ∣ p j → i ≤ e := by
  obtain ⟨u, q1, e, q2, q3⟩ := loop1 (fun f k (y : Int32) => l10_allBeat_49 M (nI q) f y (nI k)) (fun k y => ∃ e, y = nI (q ^ e) ∧ q ^ e ≤ 99 ∧ (e = 0 ∨ ∃ j, j < 8 ∧ q ^ e ∣ p j) ∧ ∀ j, j < k → ∀ i, q ^ i ∣ p j → i ≤ e) (fun y => ∃ e, y = nI (q ^ e) ∧ q ^ e ≤ 99 ∧ (e = 0 ∨ ∃ j, j < 8 ∧ q ^ e ∣ p j) ∧ ∀ j, j < 8 → ∀ i, q ^ i ∣ p j → i ≤ e) 8
    (fun y hy => ⟨y, fun f => by show l10_allBeat_49 _ _ (f + 1) _ _ = _; rw [l10_allBeat_49, if_pos (by decide)], hy⟩)
    (fun k y hk ⟨e, ey, e99, ed, em⟩ => by
      obtain ⟨hp1, hp2, hp3⟩ := hp k hk
      obtain ⟨e', r1, r2, r3, r4, r5⟩ := pw56 h2 hq hk hp1 hp2 hp3 e99
      refine .inr ⟨nI (q ^ e'), fun f _ => ?_, e', rfl, r3, ?_, fun j hj i hi => ?_⟩
      · show l10_allBeat_49 _ _ (f + 1) _ _ = _
        rw [l10_allBeat_49, if_neg (show ¬ (8 : Int32) ≤ nI k from nI_ge (b := 8) hk (by decide)), ey, r1, Option.bind_some, nI_1]
      · rcases r4 with r4 | r4
        · rw [r4]; exact ed
        · exact .inr ⟨k, hk, r4⟩
      · by_cases jk : j = k
        · subst jk
          apply Classical.byContradiction
          intro c
          exact r5 (Nat.dvd_trans (Nat.pow_dvd_pow q (by omega)) hi)
        · have := em j (by omega) i hi
          omega) 8 0 FU 1 (by omega) (FU_lt (by omega)) ⟨0, rfl, by rw [Nat.pow_zero]; omega, .inl rfl, fun j hj => absurd hj (Nat.not_lt_zero _)⟩
  subst q2
  exact ⟨e, q1, q3⟩
def Lk (p : Nat → Nat) : Nat → Nat
  | 0 => 1
  | k + 1 => Nat.lcm (Lk p k) (p k)
theorem Lk_ok {p : Nat → Nat} : ∀ k, (∀ j, j < k → 1 ≤ p j ∧ p j ≤ 99) → 0 < Lk p k ∧ Lk p k ≤ 99 ^ k ∧ (∀ j, j < k → p j ∣ Lk p k) ∧ ∀ X, (∀ j, j < k → p j ∣ X) → Lk p k ∣ X
  | 0, _ => ⟨Nat.one_pos, Nat.le_refl 1, fun j hj => absurd hj (Nat.not_lt_zero _), fun X _ => ⟨X, by unfold Lk; omega⟩⟩
  | k + 1, h => by
    obtain ⟨h1, h2, h3, h4⟩ := Lk_ok k (fun j hj => h j (by omega))
    obtain ⟨p1, p2⟩ := h k (by omega)
    have mp : 0 < Lk p k * p k := Nat.mul_pos h1 (by omega)
    unfold Lk
    refine ⟨Nat.lcm_pos h1 (by omega), ?_, fun j hj => ?_, fun X hX => Nat.lcm_dvd (h4 X (fun j hj => hX j (by omega))) (hX k (by omega))⟩
    · refine Nat.le_trans (Nat.le_of_dvd mp (Nat.lcm_dvd_mul _ _)) ?_
      rw [Nat.pow_succ]
      exact Nat.mul_le_mul h2 p2
    · by_cases e : j = k
      · rw [e]; exact Nat.dvd_lcm_right _ _
      · exact Nat.dvd_trans (h3 j (by omega)) (Nat.dvd_lcm_left _ _)
theorem allC {I : mI} {p : Nat → Nat} (hp : ∀ j, j < 8 → I 29 j = nI (p j) ∧ 1 ≤ p j ∧ p j ≤ 99) : r1_allBeats I = some (nI (Lk p 8 % PB)) := by
  have pw : ∀ k, k ≤ 8 → (99 : Nat) ^ k < 2 ^ 63 := by decide +kernel
  have ok : ∀ k, k ≤ 8 → 0 < Lk p k ∧ Lk p k ≤ 99 ^ k := fun k hk => by
    have := Lk_ok (p := p) k (fun j hj => (hp j (by omega)).2)
    exact ⟨this.1, this.2.1⟩
  obtain ⟨u, q1, q2⟩ := loop1 (fun f k (y : Int64) => l1_allBeats_4 I f y (nI k)) (fun k y => y = lN (Lk p k)) (fun y => y = lN (Lk p 8)) 8
    (fun y hy => ⟨y, fun f => by show l1_allBeats_4 _ (f + 1) _ _ = _; rw [l1_allBeats_4, if_pos (by decide)], hy⟩)
    (fun k y hk hy => .inr ⟨lN (Lk p (k + 1)), fun f _ => by
      obtain ⟨h1, h2, h3⟩ := hp k hk
      obtain ⟨o1, o2⟩ := ok k (by omega)
      have := pw k (by omega)
      show l1_allBeats_4 _ (f + 1) _ _ = _
      rw [l1_allBeats_4, if_neg (show ¬ (8 : Int32) ≤ nI k from nI_ge (b := 8) hk (by decide)), mLd_n hk (by decide), Option.bind_some, h1, nI_l (by omega), hy, lcm_e (by omega) o1 h3 h2, Option.bind_some, lcm_v o1, nI_1]
      rfl, rfl⟩) 8 0 FU 1 (by omega) (FU_lt (by omega)) rfl
  obtain ⟨o1, o2⟩ := ok 8 (by omega)
  have := pw 8 (by omega)
  unfold r1_allBeats
  rw [show l1_allBeats_4 I FU 1 0 = some u from q1, Option.bind_some, q2, show (1000000007 : Int64) = lN PB from rfl, lrem_e (by omega) (by decide) (by decide), Option.bind_some, lN_i]
theorem allM {M : mI} {p : Nat → Nat} (hp : ∀ j, j < 8 → M 149 j + 1 = nI (p j) ∧ 1 ≤ p j ∧ p j ≤ 99) : r10_allBeat M = some (nI (Lk p 8 % PB)) := by
  obtain ⟨l1, l2, l3, l4⟩ := Lk_ok (p := p) 8 (fun j hj => (hp j hj).2)
  obtain ⟨u, q1, q2⟩ := loop1 (fun f k (y : Int32) => l10_allBeat_4 M f y (nI (k + 2))) (fun k y => ∃ Q, y = nI (Q % PB) ∧ Q ∣ Lk p 8 ∧ (∀ j, j < 8 → prodN (p j) (k + 2) ∣ Q) ∧ (∀ r, k + 2 ≤ r → r < 100 → PR.contains r = true → Nat.Coprime Q r)) (fun y => y = nI (Lk p 8 % PB)) 98
    (fun y ⟨Q, e1, e2, e3, e4⟩ => ⟨y, fun f => by show l10_allBeat_4 _ (f + 1) _ _ = _; rw [l10_allBeat_4, if_pos (by decide)], by
      have : Q = Lk p 8 := Nat.dvd_antisymm e2 (l4 Q (fun j hj => by
        have := e3 j hj
        obtain ⟨_, a, b⟩ := hp j hj
        rw [prodN_ok (p j) (by omega) a] at this
        exact this))
      rw [e1, this]⟩)
    (fun k y hk ⟨Q, e1, e2, e3, e4⟩ => by
      have ge : ¬ (100 : Int32) ≤ nI (k + 2) := nI_ge (b := 100) (by omega) (by decide)
      by_cases z : PR.contains (k + 2) = true
      · obtain ⟨e, r1, r2, r3, r4⟩ := pw49 (q := k + 2) (by omega) (by omega) hp
        have cop : Nat.Coprime Q ((k + 2) ^ e) := Nat.Coprime.pow_right e (e4 (k + 2) (by omega) (by omega) z)
        have dv : (k + 2) ^ e ∣ Lk p 8 := by
          rcases r3 with r3 | ⟨j, hj, r3⟩
          · rw [r3, Nat.pow_zero]; exact ⟨Lk p 8, by omega⟩
          · exact Nat.dvd_trans r3 (l3 j hj)
        refine .inr ⟨nI (Q % PB * (k + 2) ^ e % PB), fun f _ => ?_, Q * (k + 2) ^ e, ?_, Nat.Coprime.mul_dvd_of_dvd_of_dvd cop e2 dv, fun j hj => ?_, fun r h1 h2 h3 => ?_⟩
        · show l10_allBeat_4 _ (f + 1) _ _ = _
          rw [l10_allBeat_4, if_neg ge, pr_test (by omega) (by omega), Option.bind_some, if_pos z, if_neg one_n0, r1, Option.bind_some, e1, times_e (Nat.mod_lt _ (by decide)) (by omega), Option.bind_some, Option.bind_some, nI_1]
        · rw [Nat.mod_mul_mod]
        · show (if PR.contains (k + 2) = true then prodN (p j) (k + 2) * wI (k + 2) (p j) 7 else prodN (p j) (k + 2)) ∣ _
          rw [if_pos z]
          obtain ⟨i, w1, w2⟩ := wI_ok (k + 2) (p j) 7
          rw [w1] at w2 ⊢
          exact Nat.mul_dvd_mul (e3 j hj) (Nat.pow_dvd_pow _ (r4 j hj i w2))
        · exact Nat.Coprime.mul_left (e4 r (by omega) h2 h3) (Nat.Coprime.pow_left e (pr_cop (k + 2) (by omega) z r h2 h3 (by omega)))
      · refine .inr ⟨y, fun f _ => ?_, Q, e1, e2, fun j hj => ?_, fun r h1 h2 h3 => e4 r (by omega) h2 h3⟩
        · show l10_allBeat_4 _ (f + 1) _ _ = _
          rw [l10_allBeat_4, if_neg ge, pr_test (by omega) (by omega), Option.bind_some, if_neg z, if_pos rfl, Option.bind_some, nI_1]
        · show (if PR.contains (k + 2) = true then prodN (p j) (k + 2) * wI (k + 2) (p j) 7 else prodN (p j) (k + 2)) ∣ _
          rw [if_neg z]
          exact e3 j hj) 98 0 FU 1 (by omega) (FU_lt (by omega)) ⟨1, rfl, ⟨Lk p 8, by omega⟩, fun j _ => ⟨1, rfl⟩, fun r _ _ _ => Nat.coprime_one_left r⟩
  unfold r10_allBeat
  rw [show l10_allBeat_4 M FU 1 2 = some u from q1, Option.bind_some, q2]
theorem op_beats : S_beats Inv := by
  intro I s h x0 x1
  obtain ⟨_, _, _, _, _, _, ⟨⟨r1, r2, r3, r4, r5, r6, r7⟩, w1, w2, w3, w4, w5, w6, w7⟩, _⟩ := h.1
  obtain ⟨g, hg⟩ := bd_fun w4
  have pC : ∀ j, j < 8 → I 29 j = nI (g j + 1) ∧ 1 ≤ g j + 1 ∧ g j + 1 ≤ 99 := fun j hj => ⟨by rw [r4 j hj, (hg j hj).2, nI_1], by omega, by have := (hg j hj).1; omega⟩
  have pM : ∀ j, j < 8 → (mW I 119 0 0) 149 j + 1 = nI (g j + 1) ∧ 1 ≤ g j + 1 ∧ g j + 1 ≤ 99 := fun j hj => ⟨by rw [mW_ne _ _ _ (by decide), (hg j hj).2, nI_1], by omega, by have := (hg j hj).1; omega⟩
  have bad : r9_beats I x0 x1 = some (-1) → r10_beats I x0 x1 = some (-1, mW I 119 0 0) → ∃ (v : Int32) (I2 : mI), r9_beats I x0 x1 = some v ∧ r10_beats I x0 x1 = some (v, I2) ∧ Inv I2 s := fun e1 e2 => ex1 e1 e2 rfl (Inv_told 0 h)
  by_cases z : x0 = -1
  · subst z
    refine ex1 (v := nI (Lk (fun j => g j + 1) 8 % PB)) (v' := nI (Lk (fun j => g j + 1) 8 % PB)) (I2 := mW I 119 0 0) ?_ ?_ rfl (Inv_told 0 h)
    · unfold r9_beats
      rw [if_pos rfl, allC pC, Option.bind_some]
    · unfold r10_beats
      rw [if_pos rfl, allM pM, Option.bind_some]
  by_cases a : x0 < 0
  · refine bad ?_ ?_
    · unfold r9_beats; rw [if_neg z, if_pos a]
    · unfold r10_beats; rw [if_neg z, isString_l, if_pos a, if_pos rfl]
  by_cases b : (8 : Int32) ≤ x0
  · refine bad ?_ ?_
    · unfold r9_beats; rw [if_neg z, if_neg a, if_pos b]
    · unfold r10_beats; rw [if_neg z, isString_l, if_neg a, if_neg (i32_nlt.mpr b), if_pos rfl]
  obtain ⟨i, hi, rfl⟩ := ix_of (n := 8) a b (by decide)
  have is0 : r10_isString (nI i) = 1 := by rw [isString_l, if_neg a, if_pos (i32_nle.mp b)]
  by_cases c : x1 < 0
  · refine bad ?_ ?_
    · unfold r9_beats; rw [if_neg z, if_neg a, if_neg b, if_pos c]
    · unfold r10_beats; rw [if_neg z, is0, if_neg one_n0, isString_l, if_pos c, if_pos rfl]
  by_cases d : (8 : Int32) ≤ x1
  · refine bad ?_ ?_
    · unfold r9_beats; rw [if_neg z, if_neg a, if_neg b, if_neg c, if_neg (i32_nlt.mpr d)]
    · unfold r10_beats; rw [if_neg z, is0, if_neg one_n0, isString_l, if_neg c, if_neg (i32_nlt.mpr d), if_pos rfl]
  obtain ⟨j, hj, rfl⟩ := ix_of (n := 8) c d (by decide)
  have is1 : r10_isString (nI j) = 1 := by rw [isString_l, if_neg c, if_pos (i32_nle.mp d)]
  obtain ⟨c1, c2, c3⟩ := pC i hi
  obtain ⟨d1, d2, d3⟩ := pC j hj
  obtain ⟨m1, _, _⟩ := pM i hi
  obtain ⟨n1, _, _⟩ := pM j hj
  have g0 : 0 < Nat.gcd (g i + 1) (g j + 1) := Nat.gcd_pos_of_pos_left _ (by omega)
  have gl : Nat.gcd (g i + 1) (g j + 1) ≤ g i + 1 := Nat.gcd_le_left _ (by omega)
  refine ex1 (v := nI ((g i + 1) / Nat.gcd (g i + 1) (g j + 1) * (g j + 1))) (v' := nI ((g i + 1) / Nat.gcd (g i + 1) (g j + 1) * (g j + 1))) (I2 := mW I 119 0 0) ?_ ?_ rfl (Inv_told 0 h)
  · unfold r9_beats
    rw [if_neg z, if_neg a, if_neg b, if_neg c, if_pos (i32_nle.mp d), mLd_n hi (by decide), Option.bind_some, mLd_n hj (by decide), Option.bind_some, c1, d1, nI_l (by omega), nI_l (by omega), lcm_e (by omega) (by omega) d3 d2, Option.bind_some, lN_i]
  · unfold r10_beats mDivO
    rw [if_neg z, is0, if_neg one_n0, is1, if_neg one_n0, mLd_n hi (by decide), Option.bind_some, mLd_n hj (by decide), Option.bind_some, m1, n1, icommon c3 d3, Option.bind_some, if_neg (nI_ne0 g0 (by omega)), Option.bind_some, nI_div (by omega) (by omega) g0, nI_mul]

/-! BAR: how a bar is filled -/
theorem fin_rows {I : mI} {s : Nat} (hI : Inv I s) {A : Option (Int32 × mI)} {B : mI → Option (Int32 × mI)} (rc rm : Nat) (hrc : rc = 14 ∨ rc = 33 ∨ (35 ≤ rc ∧ rc ≤ 43) ∨ (111 ≤ rc ∧ rc ≤ 118)) (hrm : rm = 122 ∨ (142 ≤ rm ∧ rm ≤ 145) ∨ rm = 147 ∨ rm = 148 ∨ rm = 153) (h : ∀ M, (∀ a, 119 ≤ a → M a = I a) → ∃ v C' M', A = some (v, C') ∧ B M = some (v, M') ∧ (∀ b, b ≠ rc → C' b = I b) ∧ (∀ b, b ≠ rm → M' b = (mW M 119 0 0) b)) : ∃ (v : Int32) (I1 : mI) (I2 : mI), A = some (v, I1) ∧ B I1 = some (v, I2) ∧ Inv I2 s := by
  obtain ⟨v, C', M', a, b, c, f, g⟩ := twice2 (I := I) (A := A) (B := B) (Q := fun M C' M' => (∀ b, b ≠ rc → C' b = I b) ∧ (∀ b, b ≠ rm → M' b = (mW M 119 0 0) b)) (fun M hM => by
    obtain ⟨v, C', M', a, b, f, g⟩ := h M hM
    exact ⟨v, C', M', a, b, fun a ha => f a (by omega), f, g⟩)
  refine ⟨v, C', M', a, b, Inv_frame hI hI.2.2.2.2.2.2 (fun a ha => ?_) (fun k hk => ?_)⟩
  · rw [g a (by omega), mW_ne _ _ _ (by omega), f a (by omega)]
  · rw [g 119 (by omega), mW_off _ _ (by omega), f 119 (by omega)]
def PB : Nat := 1000000007
theorem PB_i : (1000000007 : Int32) = nI PB := rfl
theorem added_e {a b : Nat} (ha : a < PB) (hb : b < PB) : r10_added (nI a) (nI b) = nI ((a + b) % PB) := by
  unfold r10_added
  unfold PB at *
  rw [show (1000000007 : Int32) = nI 1000000007 from rfl, nI_sub (by omega)]
  by_cases z : a < 1000000007 - b
  · rw [if_pos (nI_lt z (by omega)), nI_add, Nat.mod_eq_of_lt (by omega)]
  · rw [if_neg (nI_nlt (by omega) (by omega)), nI_sub (by omega), Nat.mod_eq_sub_mod (by omega), Nat.mod_eq_of_lt (by omega), show a - (1000000007 - b) = a + b - 1000000007 by omega]
theorem bt31 (x : Int32) : bt x 31 = true ↔ x < 0 := by
  have h : bt x 31 = x.toBitVec.msb := by
    unfold bt
    rw [BitVec.msb_eq_getLsbD_last]
  rw [h, BitVec.msb_eq_toInt, decide_eq_true_eq, i32_lt]
  rfl
theorem fmod_e {a b : Nat} (ha : a < PB) (hb : b < PB) : rJ9_floorMod (nI a - nI b) 1000000007 = some (nI ((a + PB - b) % PB)) := by
  unfold rJ9_floorMod mRemO mRm
  unfold PB at *
  rw [if_neg (show ¬ (1000000007 : Int32) = 0 by decide), Option.bind_some]
  by_cases z : b ≤ a
  · have e : nI a - nI b = nI (a - b) := nI_sub z
    have r : nI (a - b) - nI (a - b) / 1000000007 * 1000000007 = nI (a - b) := by
      have := nI_rem (a := a - b) (b := 1000000007) (by omega) (by decide) (by decide)
      unfold mRm at this
      rw [show (1000000007 : Int32) = nI 1000000007 from rfl, this, Nat.mod_eq_of_lt (by omega)]
    rw [e, r, if_pos (by
      rw [show (1000000007 : Int32) = nI 1000000007 from rfl, xor_nI]
      exact nI_pos' (Nat.xor_lt_two_pow (by omega) (by decide))), show (a + 1000000007 - b) % 1000000007 = a - b by rw [show a + 1000000007 - b = (a - b) + 1000000007 by omega, Nat.add_mod_right, Nat.mod_eq_of_lt (by omega)]]
  · have t : (nI a - nI b).toInt = (a : Int) - b := sub_small (nI_toInt (by omega)) (nI_toInt (by omega)) (by omega) (by omega)
    have q : (nI a - nI b) / 1000000007 = 0 := by
      rw [i32_eq, Int32.toInt_div, t, show (1000000007 : Int32).toInt = 1000000007 by decide, show (a : Int) - b = -((b - a : Nat) : Int) by omega, Int.neg_tdiv]
      have : ((b - a : Nat) : Int).tdiv 1000000007 = (((b - a) / 1000000007 : Nat) : Int) := rfl
      rw [this, Nat.div_eq_of_lt (by omega)]
      rfl
    have neg : nI a - nI b < 0 := by rw [i32_lt, t]; show _ < (0 : Int); omega
    have xn : ¬ (0 : Int32) ≤ (nI a - nI b) ^^^ 1000000007 := by
      rw [i32_nle, ← bt31, b_xor, (bt31 _).mpr neg]
      rfl
    rw [q, Int32.zero_mul, Int32.sub_zero, if_neg xn, if_neg (by intro e; rw [e] at neg; exact absurd neg (by decide))]
    have : nI a - nI b + 1000000007 = nI (a + 1000000007 - b) := by
      rw [← nI_sub (show b ≤ a + 1000000007 by omega), ← nI_add, show nI 1000000007 = (1000000007 : Int32) from rfl, Int32.sub_eq_add_neg, Int32.sub_eq_add_neg, Int32.add_assoc, Int32.add_assoc, Int32.add_comm (-nI b)]
    rw [this, Nat.mod_eq_of_lt (by omega)]
theorem sN_one (f : Nat → Nat) (y : Nat) : ∀ n, sN (fun j => if j = y then f j else 0) n = if y < n then f y else 0
  | 0 => by rw [if_neg (Nat.not_lt_zero _)]; rfl
  | n + 1 => by
    show sN (fun j => if j = y then f j else 0) n + (if n = y then f n else 0) = _
    rw [sN_one f y n]
    by_cases e : n = y
    · subst e
      rw [if_neg (Nat.lt_irrefl n), if_pos rfl, if_pos (by omega)]; omega
    · rw [if_neg e]
      by_cases z : y < n
      · rw [if_pos z, if_pos (show y < n + 1 by omega)]; rfl
      · rw [if_neg z, if_neg (show ¬ y < n + 1 by omega)]
/-- without the one at y, where e says so -/
def exc (e : Bool) (g : Nat → Nat) (y j : Nat) : Nat := if e = true ∧ j = y then 0 else g j
theorem exc_sum (e : Bool) (g : Nat → Nat) {y : Nat} (hy : y < 9) : sN g 9 = sN (exc e g y) 9 + (if e = true then g y else 0) := by
  have h1 := sN_add (e := g) (f := exc e g y) (g := fun j => if e = true then (if j = y then g j else 0) else 0) 9 (fun i _ => by
    unfold exc
    cases e with
    | false => simp
    | true =>
      by_cases z : i = y
      · simp [z]
      · simp [z])
  rw [h1]
  congr 1
  cases e with
  | false => exact sN_0 9 (fun i _ => rfl)
  | true =>
    have := sN_one g y 9
    rw [if_pos hy] at this
    exact this
theorem modA (A g : Nat) (hg : g < 1000000007) : ((A + g) % 1000000007 + 1000000007 - g) % 1000000007 = A % 1000000007 := by omega
def gNew (e : Bool) (G : Nat → Nat → Nat) (set : Int32) (t y : Nat) : Nat := if y < 8 ∧ bt set y = true ∧ y + 1 ≤ t then sN (exc e (G (t - 1 - y)) y) 9 % PB else 0
/-- the two tables up to t -/
def RB (c m : mI) (t : Nat) (G : Nat → Nat → Nat) : Prop := (∀ u, u < t → (∀ y, y < 9 → G u y < PB ∧ m 148 (9 * u + y) = nI (G u y)) ∧ (∀ y, y < 8 → c 118 (9 * u + (y + 1)) = nI (G u y)) ∧ c 118 (9 * u) = nI (sN (G u) 9 % PB))
theorem gNew_lt (e : Bool) (G : Nat → Nat → Nat) (set : Int32) (t y : Nat) : gNew e G set t y < PB := by
  unfold gNew
  split
  · exact Nat.mod_lt _ (by decide)
  · decide
/-- the class's row -/
theorem fill57 {c m : mI} {t : Nat} {G : Nat → Nat → Nat} {e : Bool} {set z : Int32} (hz : z = if e = true then 1 else 0) (ht : t < 25) (h : RB c m t G) : ∃ c', l2_fillings_57 set z 9 (nI t) FU 0 1 c = some (nI (sN (gNew e G set t) 8 % PB), c') ∧ (∀ b, b ≠ 118 → c' b = c b) ∧ (∀ y, y < 8 → c' 118 (9 * t + (y + 1)) = nI (gNew e G set t y)) ∧ (∀ i, i < 9 * t → c' 118 i = c 118 i) := by
  obtain ⟨⟨u, c'⟩, q1, q2, q3, q4, q5⟩ := loop1 (fun f k (s : Int32 × mI) => l2_fillings_57 set z 9 (nI t) f s.1 (nI (k + 1)) s.2) (fun k s => s.1 = nI (sN (gNew e G set t) k % PB) ∧ (∀ b, b ≠ 118 → s.2 b = c b) ∧ (∀ y, y < k → s.2 118 (9 * t + (y + 1)) = nI (gNew e G set t y)) ∧ (∀ i, i < 9 * t → s.2 118 i = c 118 i)) (fun s => s.1 = nI (sN (gNew e G set t) 8 % PB) ∧ (∀ b, b ≠ 118 → s.2 b = c b) ∧ (∀ y, y < 8 → s.2 118 (9 * t + (y + 1)) = nI (gNew e G set t y)) ∧ (∀ i, i < 9 * t → s.2 118 i = c 118 i)) 8
    (fun s hs => ⟨s, fun f => by show l2_fillings_57 _ _ _ _ (f + 1) _ _ _ = _; rw [l2_fillings_57, if_pos (by decide)], hs⟩)
    (fun k s hk ⟨h1, h2, h3, h4⟩ => by
      obtain ⟨y6, I⟩ := s
      have h1 : y6 = nI (sN (gNew e G set t) k % PB) := h1
      have h2 : ∀ b, b ≠ 118 → I b = c b := h2
      have h3 : ∀ y, y < k → I 118 (9 * t + (y + 1)) = nI (gNew e G set t y) := h3
      have h4 : ∀ i, i < 9 * t → I 118 i = c 118 i := h4
      have glt := gNew_lt e G set t k
      have slt : sN (gNew e G set t) k % PB < PB := Nat.mod_lt _ (by decide)
      refine .inr ⟨(nI (sN (gNew e G set t) (k + 1) % PB), mW I 118 (9 * t + (k + 1)) (nI (gNew e G set t k))), fun f _ => ?_, rfl, fun b hb => ?_, fun y hy => ?_, fun i hi => ?_⟩
      · have val : ((if nI t < nI (k + 1) then some 0 else if ((set >>> ((nI (k + 1) - 1) &&& 31)) &&& 1 : Int32) = 0 then some 0 else (mLd I 118 225 ((nI t - nI (k + 1)) * 9)).bind fun z1 => (if z = 0 then some 0 else (mLd I 118 225 (((nI t - nI (k + 1)) * 9) + nI (k + 1))).bind fun z3 => some z3 : Option Int32).bind fun z2 => (rJ9_floorMod (z1 - z2) 1000000007).bind fun z4 => some z4) : Option Int32) = some (nI (gNew e G set t k)) := by
          unfold gNew
          rw [nI_pred, bit1 _ (by omega)]
          by_cases z1 : k + 1 ≤ t
          · rw [if_neg (nI_nlt z1 (by omega))]
            by_cases z2 : bt set k = true
            · obtain ⟨r1, r2, r3⟩ := h (t - 1 - k) (by omega)
              have es := exc_sum e (G (t - 1 - k)) (y := k) (by omega)
              have gl := (r1 k (by omega)).1
              have al : sN (G (t - 1 - k)) 9 % PB < PB := Nat.mod_lt _ (by decide)
              rw [if_pos z2, if_neg one_n0, if_pos (show k < 8 ∧ bt set k = true ∧ k + 1 ≤ t from ⟨hk, z2, z1⟩), nI_sub z1, show (9 : Int32) = nI 9 from rfl, nI_mul, nI_add, mLd_n (by omega) (by decide), Option.bind_some, mLd_n (by omega) (by decide), h4 _ (by omega), h4 _ (by omega), show (t - (k + 1)) * 9 = 9 * (t - 1 - k) by omega, r3, r2 k hk, hz]
              cases e with
              | true =>
                rw [if_pos rfl, if_neg one_n0, Option.bind_some, Option.bind_some, fmod_e al gl, Option.bind_some]
                rw [if_pos rfl] at es
                unfold PB at *
                rw [es, modA _ _ (by omega)]
              | false =>
                rw [if_neg (show ¬ (false = true) by decide), if_pos rfl, Option.bind_some, show (0 : Int32) = nI 0 from rfl, fmod_e al (by decide), Option.bind_some]
                rw [if_neg (show ¬ (false = true) by decide)] at es
                unfold PB at *
                rw [es, modA _ _ (by omega)]
            · rw [if_neg z2, if_pos rfl, if_neg (show ¬ (k < 8 ∧ bt set k = true ∧ k + 1 ≤ t) from fun q => z2 q.2.1)]
              rfl
          · rw [if_pos (nI_lt (by omega) (by omega)), if_neg (show ¬ (k < 8 ∧ bt set k = true ∧ k + 1 ≤ t) from fun q => z1 q.2.2)]
            rfl
        show l2_fillings_57 _ _ _ _ (f + 1) y6 _ I = _
        rw [l2_fillings_57, if_neg (show ¬ (8 : Int32) < nI (k + 1) from nI_nlt (a := 8) (by omega) (by decide)), val, Option.bind_some, show (9 : Int32) = nI 9 from rfl, nI_mul, nI_add, mSto_n (by omega) (by decide), Option.bind_some, h1, nI_l (by unfold PB at *; omega), nI_l (by unfold PB at *; omega), lN_add]
        unfold mRemL mRl
        rw [if_neg (by decide), show (1000000007 : Int64) = lN 1000000007 from rfl, pk_lRem (by unfold PB at *; omega) (by decide) (by decide), Option.bind_some, lN_i, nI_1, show t * 9 + (k + 1) = 9 * t + (k + 1) by omega]
        have : (sN (gNew e G set t) k % PB + gNew e G set t k) % 1000000007 = sN (gNew e G set t) (k + 1) % PB := by
          show _ = (sN (gNew e G set t) k + gNew e G set t k) % PB
          unfold PB at *
          omega
        rw [this]
      · show (mW I 118 (9 * t + (k + 1)) (nI (gNew e G set t k))) b = c b
        rw [mW_ne _ _ _ hb, h2 b hb]
      · show (mW I 118 (9 * t + (k + 1)) (nI (gNew e G set t k))) 118 (9 * t + (y + 1)) = nI (gNew e G set t y)
        by_cases e' : y = k
        · rw [e', mW_at]
        · rw [mW_off _ _ (by omega), h3 y (by omega)]
      · show (mW I 118 (9 * t + (k + 1)) (nI (gNew e G set t k))) 118 i = c 118 i
        rw [mW_off _ _ (by omega), h4 i hi]) 8 0 FU (0, c) (by omega) (FU_lt (by omega)) ⟨by rfl, fun _ _ => rfl, fun y hy => absurd hy (Nat.not_lt_zero _), fun _ _ => rfl⟩
  have q2 : u = nI (sN (gNew e G set t) 8 % PB) := q2
  subst q2
  exact ⟨c', q1, q3, q4, q5⟩
/-- the reference's sum -/
theorem bar123 {c m : mI} {t : Nat} {G : Nat → Nat → Nat} {e : Bool} {k3 : Int32} (hz : k3 = if e = true then 1 else 0) {k : Nat} (hk : k < 8) (ht : t < 25) (h1 : k + 1 ≤ t) (h : RB c m t G) {I : mI} (h4 : ∀ i, i < 9 * t → I 148 i = m 148 i) : l10_bar_123 I k3 (nI t) (nI k) FU 0 0 = some (nI (sN (exc e (G (t - 1 - k)) k) 9 % PB)) := by
  obtain ⟨r1, r2, r3⟩ := h (t - 1 - k) (by omega)
  obtain ⟨u, q1, q2⟩ := loop1 (fun f j (y : Int32) => l10_bar_123 I k3 (nI t) (nI k) f y (nI j)) (fun j y => y = nI (sN (exc e (G (t - 1 - k)) k) j % PB)) (fun y => y = nI (sN (exc e (G (t - 1 - k)) k) 9 % PB)) 9
    (fun y hy => ⟨y, fun f => by show l10_bar_123 _ _ _ _ (f + 1) _ _ = _; rw [l10_bar_123, if_pos (by decide)], hy⟩)
    (fun j y hj hy => .inr ⟨nI (sN (exc e (G (t - 1 - k)) k) (j + 1) % PB), fun f _ => by
      obtain ⟨gl, ge⟩ := r1 j hj
      have sl : sN (exc e (G (t - 1 - k)) k) j % PB < PB := Nat.mod_lt _ (by decide)
      have ix : (9 : Int32) * (nI t - nI k - 1) + nI j = nI (9 * (t - 1 - k) + j) := by
        rw [nI_sub (by omega), show t - k = (t - 1 - k) + 1 by omega, nI_pred, show (9 : Int32) = nI 9 from rfl, nI_mul, nI_add]
      have ld : mLd I 148 225 (nI (9 * (t - 1 - k) + j)) = some (nI (G (t - 1 - k) j)) := by
        rw [mLd_n (by omega) (by decide), h4 _ (by omega), ge]
      have full : r10_added y (nI (G (t - 1 - k) j)) = nI ((sN (exc e (G (t - 1 - k)) k) j + G (t - 1 - k) j) % PB) := by
        rw [hy, added_e sl gl]
        congr 1
        unfold PB at *
        omega
      show l10_bar_123 _ _ _ _ (f + 1) _ _ = l10_bar_123 _ _ _ _ f (nI ((sN (exc e (G (t - 1 - k)) k) j + exc e (G (t - 1 - k)) k j) % PB)) _
      rw [l10_bar_123, if_neg (show ¬ (9 : Int32) ≤ nI j from nI_ge (b := 9) hj (by decide)), ix, ld, Option.bind_some, full, hz]
      unfold exc
      cases e with
      | false => rw [if_neg (show ¬ (false = true) by decide), if_pos rfl, Option.bind_some, if_neg (show ¬ (false = true ∧ j = k) from fun q => absurd q.1 (by decide)), nI_1]
      | true =>
        rw [if_pos rfl, if_neg one_n0]
        by_cases z : j = k
        · rw [if_pos ((nI_eq (by omega) (by omega)).mpr z), Option.bind_some, if_pos (show (true = true ∧ j = k) from ⟨rfl, z⟩), hy, nI_1]
          rfl
        · rw [if_neg (fun q => z ((nI_eq (by omega) (by omega)).mp q)), Option.bind_some, if_neg (show ¬ (true = true ∧ j = k) from fun q => z q.2), nI_1], rfl⟩) 9 0 FU 0 (by omega) (FU_lt (by omega)) rfl
  rw [← q2]
  exact q1
theorem bar88 {c m : mI} {t : Nat} {G : Nat → Nat → Nat} {e : Bool} {set k3 : Int32} (hz : k3 = if e = true then 1 else 0) (ht : t < 25) (h : RB c m t G) (h0 : ∀ i, 9 * t ≤ i → i < 225 → m 148 i = 0) : ∃ m', l10_bar_88 set k3 (nI t) FU 0 m = some m' ∧ (∀ b, b ≠ 148 → m' b = m b) ∧ (∀ y, y < 9 → m' 148 (9 * t + y) = nI (gNew e G set t y)) ∧ (∀ i, ¬ (9 * t ≤ i ∧ i < 9 * t + 8) → m' 148 i = m 148 i) := by
  obtain ⟨m', q1, q2, q3, q4⟩ := loop1 (fun f k (s : mI) => l10_bar_88 set k3 (nI t) f (nI k) s) (fun k s => (∀ b, b ≠ 148 → s b = m b) ∧ (∀ y, y < k → s 148 (9 * t + y) = nI (gNew e G set t y)) ∧ (∀ i, ¬ (9 * t ≤ i ∧ i < 9 * t + k) → s 148 i = m 148 i)) (fun s => (∀ b, b ≠ 148 → s b = m b) ∧ (∀ y, y < 8 → s 148 (9 * t + y) = nI (gNew e G set t y)) ∧ (∀ i, ¬ (9 * t ≤ i ∧ i < 9 * t + 8) → s 148 i = m 148 i)) 8
    (fun s hs => ⟨s, fun f => by show l10_bar_88 _ _ _ (f + 1) _ _ = _; rw [l10_bar_88, if_pos (by decide)], hs⟩)
    (fun k I hk ⟨h2, h3, h4⟩ => by
      have n8 : ¬ (8 : Int32) ≤ nI k := nI_ge (b := 8) hk (by decide)
      have keep : gNew e G set t k = 0 → (∀ f, l10_bar_88 set k3 (nI t) (f + 1) (nI k) I = l10_bar_88 set k3 (nI t) f (nI (k + 1)) I) → (∃ u, (∀ f, l10_bar_88 set k3 (nI t) (f + 1) (nI k) I = some u) ∧ ((∀ b, b ≠ 148 → u b = m b) ∧ (∀ y, y < 8 → u 148 (9 * t + y) = nI (gNew e G set t y)) ∧ (∀ i, ¬ (9 * t ≤ i ∧ i < 9 * t + 8) → u 148 i = m 148 i))) ∨ ∃ a', (∀ f, 8 - k ≤ f → l10_bar_88 set k3 (nI t) (f + 1) (nI k) I = l10_bar_88 set k3 (nI t) f (nI (k + 1)) a') ∧ ((∀ b, b ≠ 148 → a' b = m b) ∧ (∀ y, y < k + 1 → a' 148 (9 * t + y) = nI (gNew e G set t y)) ∧ (∀ i, ¬ (9 * t ≤ i ∧ i < 9 * t + (k + 1)) → a' 148 i = m 148 i)) := fun g0 hf => .inr ⟨I, fun f _ => hf f, h2, fun y hy => by
          by_cases e' : y = k
          · rw [e', g0, h4 _ (by omega), h0 _ (by omega) (by omega)]; rfl
          · exact h3 y (by omega), fun i hi => h4 i (by omega)⟩
      by_cases z2 : bt set k = true
      · by_cases z1 : k + 1 ≤ t
        · have gv : gNew e G set t k = sN (exc e (G (t - 1 - k)) k) 9 % PB := if_pos ⟨hk, z2, z1⟩
          refine .inr ⟨mW I 148 (9 * t + k) (nI (gNew e G set t k)), fun f _ => ?_, fun b hb => ?_, fun y hy => ?_, fun i hi => ?_⟩
          · show l10_bar_88 _ _ _ (f + 1) _ _ = _
            rw [l10_bar_88, if_neg n8, has_bt _ (by omega), if_pos z2, if_neg one_n0, nI_1 k, if_pos (nI_le z1 (by omega)), bar123 hz hk ht z1 h (fun i hi => h4 i (by omega)), Option.bind_some, show (9 : Int32) = nI 9 from rfl, nI_mul, nI_add, mSto_n (by omega) (by decide), Option.bind_some, Option.bind_some, gv]
          · rw [mW_ne _ _ _ hb, h2 b hb]
          · by_cases e' : y = k
            · rw [e', mW_at]
            · rw [mW_off _ _ (by omega), h3 y (by omega)]
          · rw [mW_off _ _ (by omega), h4 i (by omega)]
        · refine keep (if_neg (show ¬ (k < 8 ∧ bt set k = true ∧ k + 1 ≤ t) from fun q => z1 q.2.2)) (fun f => ?_)
          rw [l10_bar_88, if_neg n8, has_bt _ (by omega), if_pos z2, if_neg one_n0, nI_1 k, if_neg (nI_ge (by omega) (by omega)), Option.bind_some]
      · refine keep (if_neg (show ¬ (k < 8 ∧ bt set k = true ∧ k + 1 ≤ t) from fun q => z2 q.2.1)) (fun f => ?_)
        rw [l10_bar_88, if_neg n8, has_bt _ (by omega), if_neg z2, if_pos rfl, Option.bind_some, nI_1 k]) 8 0 FU m (by omega) (FU_lt (by omega)) ⟨fun _ _ => rfl, fun y hy => absurd hy (Nat.not_lt_zero _), fun _ _ => rfl⟩
  refine ⟨m', q1, q2, fun y hy => ?_, q4⟩
  by_cases y8 : y = 8
  · rw [y8, q4 _ (by omega), h0 _ (by omega) (by omega)]
    unfold gNew
    rw [if_neg (show ¬ (8 < 8 ∧ bt set 8 = true ∧ 8 + 1 ≤ t) from fun q => absurd q.1 (by decide))]
    rfl
  · exact q3 y (by omega)
theorem bar43 (M : mI) : ∃ m, l10_bar_43 FU 0 M = some m ∧ (∀ b, b ≠ 148 → m b = M b) ∧ ∀ i, i < 225 → m 148 i = if i = 8 then 1 else 0 := by
  obtain ⟨m, q1, q2⟩ := loop1 (fun f k (s : mI) => l10_bar_43 f (nI k) s) (fun k s => (∀ b, b ≠ 148 → s b = M b) ∧ ∀ i, i < k → s 148 i = if i = 8 then 1 else 0) (fun s => (∀ b, b ≠ 148 → s b = M b) ∧ ∀ i, i < 225 → s 148 i = if i = 8 then 1 else 0) 225
    (fun s hs => ⟨s, fun f => by show l10_bar_43 (f + 1) _ _ = _; rw [l10_bar_43, if_pos (by decide)], hs⟩)
    (fun k I hk ⟨h2, h3⟩ => .inr ⟨mW I 148 k (if k = 8 then 1 else 0), fun f _ => by
      show l10_bar_43 (f + 1) _ _ = _
      rw [l10_bar_43, if_neg (show ¬ (225 : Int32) ≤ nI k from nI_ge (b := 225) hk (by decide))]
      by_cases z : k = 8
      · rw [if_pos (show nI k = 8 by rw [z]; rfl), if_pos z, Option.bind_some, mSto_n hk (by decide), Option.bind_some, nI_1]
      · rw [if_neg (show ¬ nI k = 8 by rw [nI_eqk 8 8 rfl (by decide) (by omega)]; exact z), if_neg z, Option.bind_some, mSto_n hk (by decide), Option.bind_some, nI_1], fun b hb => by rw [mW_ne _ _ _ hb, h2 b hb], fun i hi => by
      by_cases e : i = k
      · rw [e, mW_at]
      · rw [mW_off _ _ e, h3 i (by omega)]⟩) 225 0 FU M (by omega) (FU_lt (by omega)) ⟨fun _ _ => rfl, fun i hi => absurd hi (Nat.not_lt_zero _)⟩
  exact ⟨m, q1, q2⟩
theorem fill14 (C : mI) : ∃ c, l2_fillings_14 FU 1 (mW C 118 0 1) = some c ∧ (∀ b, b ≠ 118 → c b = C b) ∧ c 118 0 = 1 ∧ ∀ y, y < 8 → c 118 (y + 1) = 0 := by
  obtain ⟨c, q1, q2⟩ := loop1 (fun f k (s : mI) => l2_fillings_14 f (nI (k + 1)) s) (fun k s => (∀ b, b ≠ 118 → s b = C b) ∧ s 118 0 = 1 ∧ ∀ y, y < k → s 118 (y + 1) = 0) (fun s => (∀ b, b ≠ 118 → s b = C b) ∧ s 118 0 = 1 ∧ ∀ y, y < 8 → s 118 (y + 1) = 0) 8
    (fun s hs => ⟨s, fun f => by show l2_fillings_14 (f + 1) _ _ = _; rw [l2_fillings_14, if_pos (by decide)], hs⟩)
    (fun k I hk ⟨h2, h3, h4⟩ => .inr ⟨mW I 118 (k + 1) 0, fun f _ => by
      show l2_fillings_14 (f + 1) _ _ = _
      rw [l2_fillings_14, if_neg (show ¬ (8 : Int32) < nI (k + 1) from nI_nlt (a := 8) (by omega) (by decide)), mSto_n (by omega) (by decide), Option.bind_some, nI_1], fun b hb => by rw [mW_ne _ _ _ hb, h2 b hb], by rw [mW_off _ _ (by omega), h3], fun y hy => by
      by_cases e : y = k
      · rw [e, mW_at]
      · rw [mW_off _ _ (by omega), h4 y (by omega)]⟩) 8 0 FU (mW C 118 0 1) (by omega) (FU_lt (by omega)) ⟨fun b hb => mW_ne _ _ _ hb, mW_at _ _ _ _, fun y hy => absurd hy (Nat.not_lt_zero _)⟩
  exact ⟨c, q1, q2⟩
theorem bar206 {c m : mI} {t n : Nat} {G : Nat → Nat → Nat} (h : RB c m t G) (hn : n < t) (ht : t ≤ 25) : l10_bar_206 m (nI n) FU 0 0 = some (nI (sN (G n) 9 % PB)) := by
  obtain ⟨r1, r2, r3⟩ := h n hn
  obtain ⟨u, q1, q2⟩ := loop1 (fun f j (y : Int32) => l10_bar_206 m (nI n) f y (nI j)) (fun j y => y = nI (sN (G n) j % PB)) (fun y => y = nI (sN (G n) 9 % PB)) 9
    (fun y hy => ⟨y, fun f => by show l10_bar_206 _ _ (f + 1) _ _ = _; rw [l10_bar_206, if_pos (by decide)], hy⟩)
    (fun j y hj hy => .inr ⟨nI (sN (G n) (j + 1) % PB), fun f _ => by
      obtain ⟨gl, ge⟩ := r1 j hj
      have sl : sN (G n) j % PB < PB := Nat.mod_lt _ (by decide)
      show l10_bar_206 _ _ (f + 1) _ _ = l10_bar_206 _ _ f (nI ((sN (G n) j + G n j) % PB)) _
      rw [l10_bar_206, if_neg (show ¬ (9 : Int32) ≤ nI j from nI_ge (b := 9) hj (by decide)), show (9 : Int32) = nI 9 from rfl, nI_mul, nI_add, mLd_n (by omega) (by decide), Option.bind_some, ge, hy, added_e sl gl, nI_1]
      congr 2
      unfold PB at *
      omega, rfl⟩) 9 0 FU 0 (by omega) (FU_lt (by omega)) rfl
  rw [← q2]
  exact q1
theorem bar_go {I M : mI} {n : Nat} {e : Bool} {set z : Int32} (hz : z = if e = true then 1 else 0) (h1 : 1 ≤ n) (hn : n ≤ 24) : ∃ v C' M1 M2, r2_fillings I (nI n) set z = some (v, C') ∧ l10_bar_43 FU 0 M = some M1 ∧ l10_bar_79 (nI n) set z FU 1 M1 = some M2 ∧ l10_bar_206 M2 (nI n) FU 0 0 = some v ∧ (∀ b, b ≠ 118 → C' b = I b) ∧ (∀ b, b ≠ 148 → M2 b = M b) := by
  obtain ⟨M1, a1, a2, a3⟩ := bar43 M
  obtain ⟨C1, b1, b2, b3, b4⟩ := fill14 I
  have R0 : RB C1 M1 1 (fun t y => if y = 8 then 1 else 0) := by
    intro u hu
    have hu : u = 0 := by omega
    subst hu
    refine ⟨fun y hy => ⟨by show (if y = 8 then 1 else 0) < PB; unfold PB; split <;> omega, ?_⟩, fun y hy => ?_, ?_⟩
    · rw [a3 _ (by omega)]
      show (if 9 * 0 + y = 8 then (1 : Int32) else 0) = nI (if y = 8 then 1 else 0)
      by_cases z : y = 8
      · rw [if_pos (by omega), if_pos z]; rfl
      · rw [if_neg (by omega), if_neg z]; rfl
    · rw [show 9 * 0 + (y + 1) = y + 1 by omega, b4 y hy]
      show (0 : Int32) = nI (if y = 8 then 1 else 0)
      rw [if_neg (by omega)]; rfl
    · exact b3
  obtain ⟨C2, M2, q1, q2, ⟨G, R⟩, f1, f2⟩ := loop2x (fun f k (c : mI) => l2_fillings_38 (nI n) set z 9 f (nI (k + 1)) c) (fun f k (m : mI) => l10_bar_79 (nI n) set z f (nI (k + 1)) m) (fun k c m => (∃ G, RB c m (k + 1) G) ∧ (∀ i, 9 * (k + 1) ≤ i → i < 225 → m 148 i = 0) ∧ (∀ b, b ≠ 118 → c b = I b) ∧ (∀ b, b ≠ 148 → m b = M b)) (fun c m => (∃ G, RB c m (n + 1) G) ∧ (∀ b, b ≠ 118 → c b = I b) ∧ (∀ b, b ≠ 148 → m b = M b)) n
    (fun c m ⟨R, _, f1, f2⟩ => ⟨c, m, fun f => by show l2_fillings_38 _ _ _ _ (f + 1) _ _ = _; rw [l2_fillings_38, if_pos (nI_lt (by omega) (by omega))], fun f => by show l10_bar_79 _ _ _ (f + 1) _ _ = _; rw [l10_bar_79, if_pos (nI_lt (by omega) (by omega))], R, f1, f2⟩)
    (fun k c m hk ⟨⟨G, R⟩, h0, f1, f2⟩ => by
      obtain ⟨c', p1, p2, p3, p4⟩ := fill57 (set := set) hz (show k + 1 < 25 by omega) R
      obtain ⟨m', r1, r2, r3, r4⟩ := bar88 (set := set) hz (show k + 1 < 25 by omega) R h0
      refine .inr ⟨mW c' 118 (9 * (k + 1)) (nI (sN (gNew e G set (k + 1)) 8 % PB)), m', fun f _ => ?_, fun f _ => ?_, ⟨fun t y => if t = k + 1 then gNew e G set (k + 1) y else G t y, fun u hu => ?_⟩, fun i h1 h2 => ?_, fun b hb => ?_, fun b hb => ?_⟩
      · show l2_fillings_38 _ _ _ _ (f + 1) _ _ = _
        rw [l2_fillings_38, if_neg (nI_nlt (by omega) (by omega)), if_neg (show ¬ (24 : Int32) < nI (k + 1) from nI_nlt (a := 24) (by omega) (by decide)), p1, Option.bind_some, show (9 : Int32) = nI 9 from rfl, nI_mul, mSto_n (by omega) (by decide), Option.bind_some, nI_1, Nat.mul_comm (k + 1) 9]
      · show l10_bar_79 _ _ _ (f + 1) _ _ = _
        rw [l10_bar_79, if_neg (nI_nlt (by omega) (by omega)), r1, Option.bind_some, nI_1]
      · by_cases ue : u = k + 1
        · subst ue
          have e0 : (fun y => if k + 1 = k + 1 then gNew e G set (k + 1) y else G (k + 1) y) = gNew e G set (k + 1) := by funext y; rw [if_pos rfl]
          show (∀ y, y < 9 → (fun y => if k + 1 = k + 1 then gNew e G set (k + 1) y else G (k + 1) y) y < PB ∧ m' 148 (9 * (k + 1) + y) = nI ((fun y => if k + 1 = k + 1 then gNew e G set (k + 1) y else G (k + 1) y) y)) ∧ (∀ y, y < 8 → (mW c' 118 (9 * (k + 1)) (nI (sN (gNew e G set (k + 1)) 8 % PB))) 118 (9 * (k + 1) + (y + 1)) = nI ((fun y => if k + 1 = k + 1 then gNew e G set (k + 1) y else G (k + 1) y) y)) ∧ (mW c' 118 (9 * (k + 1)) (nI (sN (gNew e G set (k + 1)) 8 % PB))) 118 (9 * (k + 1)) = nI (sN (fun y => if k + 1 = k + 1 then gNew e G set (k + 1) y else G (k + 1) y) 9 % PB)
          rw [e0]
          refine ⟨fun y hy => ⟨gNew_lt _ _ _ _ _, r3 y hy⟩, fun y hy => by rw [mW_off _ _ (by omega), p3 y hy], ?_⟩
          rw [mW_at]
          have : sN (gNew e G set (k + 1)) 9 = sN (gNew e G set (k + 1)) 8 := by
            show sN (gNew e G set (k + 1)) 8 + gNew e G set (k + 1) 8 = _
            have : gNew e G set (k + 1) 8 = 0 := if_neg (fun q => absurd q.1 (by decide))
            omega
          rw [this]
        · have e0 : (fun y => if u = k + 1 then gNew e G set (k + 1) y else G u y) = G u := by funext y; rw [if_neg ue]
          show (∀ y, y < 9 → (fun y => if u = k + 1 then gNew e G set (k + 1) y else G u y) y < PB ∧ m' 148 (9 * u + y) = nI ((fun y => if u = k + 1 then gNew e G set (k + 1) y else G u y) y)) ∧ (∀ y, y < 8 → (mW c' 118 (9 * (k + 1)) (nI (sN (gNew e G set (k + 1)) 8 % PB))) 118 (9 * u + (y + 1)) = nI ((fun y => if u = k + 1 then gNew e G set (k + 1) y else G u y) y)) ∧ (mW c' 118 (9 * (k + 1)) (nI (sN (gNew e G set (k + 1)) 8 % PB))) 118 (9 * u) = nI (sN (fun y => if u = k + 1 then gNew e G set (k + 1) y else G u y) 9 % PB)
          rw [e0]
          obtain ⟨s1, s2, s3⟩ := R u (by omega)
          refine ⟨fun y hy => ⟨(s1 y hy).1, by rw [r4 _ (by omega), (s1 y hy).2]⟩, fun y hy => by rw [mW_off _ _ (by omega), p4 _ (by omega), s2 y hy], by rw [mW_off _ _ (by omega), p4 _ (by omega), s3]⟩
      · rw [r4 i (by omega), h0 i (by omega) h2]
      · rw [mW_ne _ _ _ hb, p2 b hb, f1 b hb]
      · rw [r2 b hb, f2 b hb]) n 0 FU FU C1 M1 (by omega) (FU_lt (by omega)) (FU_lt (by omega)) ⟨⟨_, R0⟩, fun i h1 h2 => by rw [a3 i h2, if_neg (by omega)], b2, a2⟩
  have q1 : l2_fillings_38 (nI n) set z 9 FU 1 C1 = some C2 := q1
  have q2 : l10_bar_79 (nI n) set z FU 1 M1 = some M2 := q2
  refine ⟨nI (sN (G n) 9 % PB), C2, M1, M2, ?_, a1, q2, bar206 R (by omega) (by omega), f1, f2⟩
  unfold r2_fillings
  rw [b1, Option.bind_some, q1, Option.bind_some, if_neg (nI_pos (by omega)), if_neg (show ¬ (24 : Int32) < nI n from nI_nlt (a := 24) (by omega) (by decide)), show (9 : Int32) = nI 9 from rfl, nI_mul, mLd_n (by omega) (by decide), Option.bind_some, Option.bind_some, Nat.mul_comm n 9, (R n (by omega)).2.2]
theorem op_bar : S_bar Inv := by
  intro I s h x0 x1 x2
  have bad : r9_bar I x0 x1 x2 = some (-1, I) → r10_bar I x0 x1 x2 = some (-1, mW I 119 0 0) → ∃ (v : Int32) (I1 : mI) (I2 : mI), r9_bar I x0 x1 x2 = some (v, I1) ∧ r10_bar I1 x0 x1 x2 = some (v, I2) ∧ Inv I2 s := fun e1 e2 => ex2 e1 e2 rfl (Inv_told 0 h)
  by_cases a : x0 < 1
  · refine bad ?_ ?_
    · unfold r9_bar; rw [if_pos a]
    · unfold r10_bar; rw [isIn_0a a, if_pos rfl]
  by_cases b : 24 < x0
  · refine bad ?_ ?_
    · unfold r9_bar; rw [if_neg a, if_pos b]
    · unfold r10_bar; rw [isIn_0b b, if_pos rfl]
  by_cases c : x1 < 1
  · refine bad ?_ ?_
    · unfold r9_bar; rw [if_neg a, if_neg b, if_pos c]
    · unfold r10_bar; rw [isIn_1 a b, if_neg one_n0, isIn_0a c, if_pos rfl]
  by_cases d : 255 < x1
  · refine bad ?_ ?_
    · unfold r9_bar; rw [if_neg a, if_neg b, if_neg c, if_pos d]
    · unfold r10_bar; rw [isIn_1 a b, if_neg one_n0, isIn_0b d, if_pos rfl]
  by_cases e : x2 < 0
  · refine bad ?_ ?_
    · unfold r9_bar; rw [if_neg a, if_neg b, if_neg c, if_neg d, if_pos e]
    · unfold r10_bar; rw [isIn_1 a b, if_neg one_n0, isIn_1 c d, if_neg one_n0, isIn_0a e, if_pos rfl]
  by_cases g : x2 ≤ 1
  · obtain ⟨n, hn, rfl⟩ := bd_of (x := x0) (M := 24) (n := 24) (by decide) (lt0_of (c := 1) (by decide) a) b
    have h1 : 1 ≤ n := by
      rw [nI_ltk 1 1 rfl (by decide) (by omega)] at a
      omega
    have x01 : x2 = 0 ∨ x2 = 1 := by
      obtain ⟨k, hk, rfl⟩ := nI_of2 (x := x2) (M := 1) (n := 1) (by decide) e g
      have : k = 0 ∨ k = 1 := by omega
      rcases this with rfl | rfl
      · exact .inl rfl
      · exact .inr rfl
    refine fin_rows h 118 148 (by omega) (by omega) (fun M hM => ?_)
    obtain ⟨v, C', M1, M2, p1, p2, p3, p4, p5, p6⟩ := bar_go (I := I) (M := mW M 119 0 0) (n := n) (e := decide (x2 = 1)) (set := x1) (z := x2) (by
      rcases x01 with q | q
      · rw [q]; rfl
      · rw [q]; rfl) h1 hn
    refine ⟨v, C', M2, ?_, ?_, p5, p6⟩
    · unfold r9_bar
      rw [if_neg a, if_neg b, if_neg c, if_neg d, if_neg e, if_pos g]
      have : (if x2 = 1 then some 1 else some 0 : Option Int32) = some x2 := by
        rcases x01 with q | q
        · rw [q]; rfl
        · rw [q]; rfl
      rw [this, Option.bind_some, p1, Option.bind_some]
    · unfold r10_bar
      rw [isIn_1 a b, if_neg one_n0, isIn_1 c d, if_neg one_n0, isIn_1 e (i32_nlt.mpr g), if_neg one_n0, p2, Option.bind_some, p3, Option.bind_some, p4, Option.bind_some]
  · refine bad ?_ ?_
    · unfold r9_bar; rw [if_neg a, if_neg b, if_neg c, if_neg d, if_neg e, if_neg g]
    · unfold r10_bar; rw [isIn_1 a b, if_neg one_n0, isIn_1 c d, if_neg one_n0, isIn_0b (i32_nle.mp g), if_pos rfl]

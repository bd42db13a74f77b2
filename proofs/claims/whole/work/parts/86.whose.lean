/-! WHOSE: all sets, in two orders -/
theorem min_toInt (x y : Int32) : (mMin x y).toInt = min x.toInt y.toInt := by
  unfold mMin
  by_cases h : y < x
  · rw [if_pos h]; rw [i32_lt] at h; omega
  · rw [if_neg h]; rw [i32_lt] at h; omega
def sA {α : Type} (op : α → Nat → α) : Nat → Nat → α → α
  | 0, S, acc => op acc S
  | n + 1, S, acc => sA op n (S ^^^ 2 ^ n) (sA op n S acc)
theorem sA_op {α : Type} {op : α → Nat → α} (h : ∀ a s t, op (op a s) t = op (op a t) s) : ∀ n S acc t, op (sA op n S acc) t = sA op n S (op acc t)
  | 0, S, acc, t => h acc S t
  | n + 1, S, acc, t => by
    unfold sA
    rw [sA_op h n, sA_op h n]
theorem sA_A {α : Type} {op : α → Nat → α} (h : ∀ a s t, op (op a s) t = op (op a t) s) : ∀ n m S T acc, sA op n S (sA op m T acc) = sA op m T (sA op n S acc)
  | 0, m, S, T, acc => sA_op h m T acc S
  | n + 1, m, S, T, acc => by
    show sA op n (S ^^^ 2 ^ n) (sA op n S (sA op m T acc)) = sA op m T (sA op n (S ^^^ 2 ^ n) (sA op n S acc))
    rw [sA_A h n m, sA_A h n m]
theorem sA_flip {α : Type} {op : α → Nat → α} (h : ∀ a s t, op (op a s) t = op (op a t) s) : ∀ n k S acc, k < n → sA op n (S ^^^ 2 ^ k) acc = sA op n S acc
  | 0, k, S, acc, hk => absurd hk (Nat.not_lt_zero _)
  | n + 1, k, S, acc, hk => by
    unfold sA
    by_cases e : k = n
    · subst e
      rw [Nat.xor_assoc, Nat.xor_self, Nat.xor_zero, sA_A h k k]
    · rw [show S ^^^ 2 ^ k ^^^ 2 ^ n = (S ^^^ 2 ^ n) ^^^ 2 ^ k by rw [Nat.xor_assoc, Nat.xor_comm (2 ^ k), ← Nat.xor_assoc], sA_flip h n k _ _ (by omega), sA_flip h n k _ _ (by omega)]
def sUp {α : Type} (op : α → Nat → α) (acc : α) (S : Nat) : Nat → α
  | 0 => acc
  | n + 1 => op (sUp op acc S n) (S + n)
theorem sUp_split {α : Type} {op : α → Nat → α} (acc : α) (S a : Nat) : ∀ b, sUp op acc S (a + b) = sUp op (sUp op acc S a) (S + a) b
  | 0 => rfl
  | b + 1 => by
    show op (sUp op acc S (a + b)) (S + (a + b)) = op (sUp op (sUp op acc S a) (S + a) b) (S + a + b)
    rw [sUp_split acc S a b, Nat.add_assoc]
theorem xor_add {n S : Nat} (h : S % 2 ^ (n + 1) = 0) : S ^^^ 2 ^ n = S + 2 ^ n := by
  have e : S = 2 ^ (n + 1) * (S / 2 ^ (n + 1)) := by
    have := Nat.div_add_mod S (2 ^ (n + 1))
    omega
  rw [e]
  generalize S / 2 ^ (n + 1) = q
  apply Nat.eq_of_testBit_eq
  intro j
  have h0 : 2 ^ (n + 1) * q = 2 ^ (n + 1) * q + 0 := rfl
  rw [Nat.testBit_xor, Nat.testBit_two_pow, Nat.testBit_two_pow_mul_add q (Nat.pow_lt_pow_right (by decide) (by omega)) j, h0, Nat.testBit_two_pow_mul_add q (Nat.two_pow_pos _) j, Nat.zero_testBit, Nat.testBit_two_pow]
  by_cases z : j < n + 1
  · rw [if_pos z, if_pos z, Bool.false_xor]
  · rw [if_neg z, if_neg z, show decide (n = j) = false by simp; omega, Bool.xor_false]
theorem sA_up {α : Type} {op : α → Nat → α} : ∀ n S acc, S % 2 ^ n = 0 → sA op n S acc = sUp op acc S (2 ^ n)
  | 0, S, acc, _ => rfl
  | n + 1, S, acc, h => by
    have h2 : S % 2 ^ n = 0 := by
      have : 2 ^ n ∣ S := Nat.dvd_trans ⟨2, by rw [Nat.pow_succ]⟩ (Nat.dvd_of_mod_eq_zero h)
      exact Nat.mod_eq_zero_of_dvd this
    unfold sA
    rw [sA_up n S acc h2, xor_add h, sA_up n (S + 2 ^ n) _ (by rw [Nat.add_mod_right]; exact h2), ← sUp_split, show 2 ^ n + 2 ^ n = 2 ^ (n + 1) by rw [Nat.pow_succ]; omega]
/-- what a set wept -/
def Ws (w : Nat → Int32) (s : Nat) : Nat → Int32
  | 0 => 0
  | k + 1 => Ws w s k + (if s.testBit k then w k else 0)
theorem Ws_0 (w : Nat → Int32) : ∀ k, Ws w 0 k = 0
  | 0 => rfl
  | k + 1 => by
    unfold Ws
    rw [Ws_0 w k, Nat.zero_testBit]
    rfl
theorem Ws_flip (w : Nat → Int32) (s b : Nat) : ∀ k, Ws w (s ^^^ 2 ^ b) k = if b < k then Ws w s k + (if (s ^^^ 2 ^ b).testBit b then w b else -w b) else Ws w s k
  | 0 => by rw [if_neg (Nat.not_lt_zero _)]; rfl
  | k + 1 => by
    have ih := Ws_flip w s b k
    have eb : (s ^^^ 2 ^ b).testBit b = !s.testBit b := by rw [Nat.testBit_xor, Nat.testBit_two_pow]; simp
    show Ws w (s ^^^ 2 ^ b) k + (if (s ^^^ 2 ^ b).testBit k then w k else 0) = if b < k + 1 then Ws w s k + (if s.testBit k then w k else 0) + (if (s ^^^ 2 ^ b).testBit b then w b else -w b) else Ws w s k + (if s.testBit k then w k else 0)
    rw [ih]
    by_cases e : b = k
    · subst e
      rw [if_neg (Nat.lt_irrefl b), if_pos (show b < b + 1 by omega), eb]
      cases s.testBit b with
      | false => simp
      | true => simp [Int32.add_assoc, Int32.add_right_neg]
    · have ek : (s ^^^ 2 ^ b).testBit k = s.testBit k := by
        rw [Nat.testBit_xor, Nat.testBit_two_pow, show decide (b = k) = false by simp [e], Bool.xor_false]
      rw [ek]
      by_cases z : b < k
      · rw [if_pos z, if_pos (show b < k + 1 by omega), Int32.add_assoc, Int32.add_assoc, Int32.add_comm (if s.testBit k = true then w k else 0)]
      · rw [if_neg z, if_neg (show ¬ b < k + 1 by omega)]
def wOp (w : Nat → Int32) (np : Nat) (v : Int32) (acc : Int32 × Int32 × Int32) (s : Nat) : Int32 × Int32 × Int32 := if Ws w s np = v then (acc.1 + 1, mMin acc.2.1 (nI s), acc.2.2 &&& nI s) else acc
theorem wOp_comm (w : Nat → Int32) (np : Nat) (v : Int32) (a : Int32 × Int32 × Int32) (s t : Nat) : wOp w np v (wOp w np v a s) t = wOp w np v (wOp w np v a t) s := by
  unfold wOp
  by_cases h1 : Ws w s np = v
  · rw [if_pos h1]
    by_cases h2 : Ws w t np = v
    · rw [if_pos h2, if_pos h2, if_pos h1]
      have e1 : mMin (mMin a.2.1 (nI s)) (nI t) = mMin (mMin a.2.1 (nI t)) (nI s) := by
        rw [i32_eq, min_toInt, min_toInt, min_toInt, min_toInt]; omega
      have e2 : a.2.2 &&& nI s &&& nI t = a.2.2 &&& nI t &&& nI s := by
        refine b_ext (fun i _ => ?_)
        rw [b_and, b_and, b_and, b_and, Bool.and_assoc, Bool.and_comm (bt (nI s) i), Bool.and_assoc]
      show (_, mMin (mMin a.2.1 (nI s)) (nI t), a.2.2 &&& nI s &&& nI t) = (_, mMin (mMin a.2.1 (nI t)) (nI s), a.2.2 &&& nI t &&& nI s)
      rw [e1, e2]
    · rw [if_neg h2, if_neg h2, if_pos h1]
  · rw [if_neg h1]
    by_cases h2 : Ws w t np = v
    · rw [if_pos h2, if_neg h1]
    · rw [if_neg h2, if_neg h1]
def sE : Nat → Nat → Nat
  | 0, S => S
  | n + 1, S => S ^^^ 2 ^ n
def ctF (x : Int32) : Int32 := mMin 11 (rJ6_bitCount ((x &&& (-x)) - 1))
theorem ct_ok2 : ∀ n, n < 12 → ∀ a, a < 64 → ∀ b, b < 64 → (64 * a + b) % 2 ^ (n + 1) = 2 ^ n → ctF (nI (64 * a + b)) = nI n := by decide +kernel
theorem ct_ok {n i : Nat} (hn : n < 12) (hi : i < 4096) (h : i % 2 ^ (n + 1) = 2 ^ n) : ctF (nI i) = nI n := by
  have := ct_ok2 n hn (i / 64) (by omega) (i % 64) (by omega)
  rw [show 64 * (i / 64) + i % 64 = i by omega] at this
  exact this h
theorem sh_pow : ∀ n, n < 13 → (1 : Int32) <<< (nI n &&& 31) = nI (2 ^ n) := by decide +kernel
theorem xor_nI (s t : Nat) : nI s ^^^ nI t = nI (s ^^^ t) := by
  refine b_ext (fun i hi => ?_)
  rw [b_xor, bt_nI hi, bt_nI hi, bt_nI hi, Nat.testBit_xor]
/-- one step of the class -/
theorem wept_step {I : mI} {np : Nat} (hnp : np ≤ 12) (e6 : I 8 6 = nI np) (v : Int32) {n i S : Nat} (hn : n < np) (hi : i < 2 ^ np) (h : i % 2 ^ (n + 1) = 2 ^ n) (f : Nat) (acc : Int32 × Int32 × Int32) : l8_setsThatWept_24 I v (f + 1) acc.1 acc.2.1 acc.2.2 (nI S) (Ws (I 5) S np) (nI i) = l8_setsThatWept_24 I v f (wOp (I 5) np v acc (S ^^^ 2 ^ n)).1 (wOp (I 5) np v acc (S ^^^ 2 ^ n)).2.1 (wOp (I 5) np v acc (S ^^^ 2 ^ n)).2.2 (nI (S ^^^ 2 ^ n)) (Ws (I 5) (S ^^^ 2 ^ n) np) (nI (i + 1)) := by
  have p12 : 2 ^ np ≤ 2 ^ 12 := Nat.pow_le_pow_right (by decide) hnp
  have all : r0_allPieces I = nI (2 ^ np - 1) := by
    unfold r0_allPieces
    rw [e6, sh_pow np (by omega)]
    exact nI_sub (b := 1) (Nat.one_le_two_pow)
  have ct : mMin 11 (rJ6_bitCount ((nI i &&& (-nI i)) - 1)) = nI n := ct_ok (by omega) (by omega) h
  have fl := Ws_flip (I 5) S n np
  rw [if_pos hn] at fl
  rw [l8_setsThatWept_24, all, if_neg (nI_nlt (by omega) (by omega)), ct, sh_pow n (by omega), xor_nI, bit1 _ (by omega), bt_nI (by omega), mLd_n (show n < 12 by omega) (by decide)]
  have go : ∀ d, d = (if (S ^^^ 2 ^ n).testBit n = true then I 5 n else -I 5 n) → ((if Ws (I 5) S np + d = v then some (acc.1 + 1, mMin acc.2.1 (nI (S ^^^ 2 ^ n)), acc.2.2 &&& nI (S ^^^ 2 ^ n)) else some (acc.1, acc.2.1, acc.2.2) : Option (Int32 × Int32 × Int32)).bind fun z3 => l8_setsThatWept_24 I v f z3.1 z3.2.1 z3.2.2 (nI (S ^^^ 2 ^ n)) (Ws (I 5) S np + d) (nI i + 1)) = l8_setsThatWept_24 I v f (wOp (I 5) np v acc (S ^^^ 2 ^ n)).1 (wOp (I 5) np v acc (S ^^^ 2 ^ n)).2.1 (wOp (I 5) np v acc (S ^^^ 2 ^ n)).2.2 (nI (S ^^^ 2 ^ n)) (Ws (I 5) (S ^^^ 2 ^ n) np) (nI (i + 1)) := by
    intro d hd
    rw [← hd] at fl
    unfold wOp
    rw [fl]
    by_cases z : Ws (I 5) S np + d = v
    · rw [if_pos z, if_pos z, Option.bind_some, nI_1]
    · rw [if_neg z, if_neg z, Option.bind_some, nI_1]
  cases hb : (S ^^^ 2 ^ n).testBit n with
  | true =>
    rw [if_pos rfl, if_neg one_n0, Option.bind_some, Option.bind_some]
    exact go _ (by rw [hb]; rfl)
  | false =>
    rw [if_neg (show ¬ (false = true) by decide), if_pos (show (0 : Int32) = 0 from rfl), Option.bind_some, Option.bind_some]
    exact go _ (by rw [hb]; rfl)
/-- the class's order -/
theorem wept_run {I : mI} {np : Nat} (hnp : np ≤ 12) (e6 : I 8 6 = nI np) (v : Int32) : ∀ n, n ≤ np → ∀ (S i0 f : Nat) (acc : Int32 × Int32 × Int32), i0 % 2 ^ n = 0 → i0 + 2 ^ n ≤ 2 ^ np → l8_setsThatWept_24 I v (f + (2 ^ n - 1)) (wOp (I 5) np v acc S).1 (wOp (I 5) np v acc S).2.1 (wOp (I 5) np v acc S).2.2 (nI S) (Ws (I 5) S np) (nI (i0 + 1)) = l8_setsThatWept_24 I v f (sA (wOp (I 5) np v) n S acc).1 (sA (wOp (I 5) np v) n S acc).2.1 (sA (wOp (I 5) np v) n S acc).2.2 (nI (sE n S)) (Ws (I 5) (sE n S) np) (nI (i0 + 2 ^ n))
  | 0 => fun _ S i0 f acc _ _ => rfl
  | n + 1 => fun hn S i0 f acc h0 hle => by
    have pw : 2 ^ (n + 1) = 2 ^ n + 2 ^ n := by rw [Nat.pow_succ]; omega
    have pp : 0 < 2 ^ n := Nat.two_pow_pos n
    have h2 : i0 % 2 ^ n = 0 := by
      have : 2 ^ n ∣ i0 := Nat.dvd_trans ⟨2, by rw [Nat.pow_succ]⟩ (Nat.dvd_of_mod_eq_zero h0)
      exact Nat.mod_eq_zero_of_dvd this
    have ih1 := wept_run hnp e6 v n (by omega) S i0 (f + (2 ^ n - 1) + 1) acc h2 (by omega)
    have ih2 := wept_run hnp e6 v n (by omega) (sE n S ^^^ 2 ^ n) (i0 + 2 ^ n) f (sA (wOp (I 5) np v) n S acc) (by rw [Nat.add_mod_right]; exact h2) (by omega)
    have hm : (i0 + 2 ^ n) % 2 ^ (n + 1) = 2 ^ n := by
      rw [Nat.add_mod, h0, Nat.zero_add, Nat.mod_mod, Nat.mod_eq_of_lt (by omega)]
    have st := wept_step hnp e6 v (S := sE n S) (n := n) (i := i0 + 2 ^ n) (by omega) (by omega) hm (f + (2 ^ n - 1)) (sA (wOp (I 5) np v) n S acc)
    have e1 : f + (2 ^ (n + 1) - 1) = f + (2 ^ n - 1) + 1 + (2 ^ n - 1) := by omega
    rw [e1, ih1, st, ih2]
    have e2 : sA (wOp (I 5) np v) n (sE n S ^^^ 2 ^ n) (sA (wOp (I 5) np v) n S acc) = sA (wOp (I 5) np v) (n + 1) S acc := by
      show _ = sA (wOp (I 5) np v) n (S ^^^ 2 ^ n) (sA (wOp (I 5) np v) n S acc)
      match n with
      | 0 => rfl
      | m + 1 =>
        show sA _ (m + 1) (S ^^^ 2 ^ m ^^^ 2 ^ (m + 1)) _ = _
        rw [show S ^^^ 2 ^ m ^^^ 2 ^ (m + 1) = (S ^^^ 2 ^ (m + 1)) ^^^ 2 ^ m by rw [Nat.xor_assoc, Nat.xor_comm (2 ^ m), ← Nat.xor_assoc], sA_flip (wOp_comm (I 5) np v) (m + 1) m _ _ (by omega)]
    have e3 : sE n (sE n S ^^^ 2 ^ n) = sE (n + 1) S := by
      match n with
      | 0 => rfl
      | m + 1 =>
        show S ^^^ 2 ^ m ^^^ 2 ^ (m + 1) ^^^ 2 ^ m = S ^^^ 2 ^ (m + 1)
        rw [Nat.xor_assoc, Nat.xor_comm (2 ^ (m + 1)), ← Nat.xor_assoc, Nat.xor_assoc S, Nat.xor_self, Nat.xor_zero]
    rw [e2, e3, show i0 + 2 ^ n + 2 ^ n = i0 + 2 ^ (n + 1) by omega]
theorem whose57 {M : mI} {np s : Nat} {w : Nat → Int32} (hnp : np ≤ 12) (e6 : M 119 6 = nI np) (hw : ∀ k, k < 12 → M 120 (29 + k) = w k) : l10_whose_57 M (nI s) FU 0 0 = some (Ws w s np) := by
  obtain ⟨u, q1, q2⟩ := loop1 (fun f k (y : Int32) => l10_whose_57 M (nI s) f y (nI k)) (fun k y => y = Ws w s k) (fun y => y = Ws w s np) np
    (fun y hy => ⟨y, fun f => by show l10_whose_57 _ _ (f + 1) _ _ = _; rw [l10_whose_57, e6, if_pos (by rw [i32_le]; omega)], hy⟩)
    (fun k y hk hy => .inr ⟨Ws w s (k + 1), fun f _ => by
      show l10_whose_57 _ _ (f + 1) _ _ = l10_whose_57 _ _ f (Ws w s k + (if s.testBit k then w k else 0)) _
      rw [l10_whose_57, e6, if_neg (nI_ge hk (by omega)), has_bt _ (by omega), bt_nI (by omega), hy]
      cases hb : s.testBit k with
      | true => rw [if_pos rfl, if_neg one_n0, nI_addl (show (29 : Int32) = nI 29 by decide), mLd_n (by omega) (by decide), Option.bind_some, Option.bind_some, hw k (by omega), nI_1, if_pos rfl]
      | false => rw [if_neg (show ¬ (false = true) by decide), if_pos (show (0 : Int32) = 0 from rfl), Option.bind_some, nI_1, if_neg (show ¬ (false = true) by decide), Int32.add_zero], rfl⟩) np 0 FU 0 (by omega) (FU_lt (by omega)) rfl
  rw [← q2]
  exact q1
theorem all_and {np s : Nat} (hs : s < 2 ^ np) : nI (2 ^ np - 1) &&& nI s = nI s := by
  refine b_ext (fun i hi => ?_)
  rw [b_and, bt_nI hi, bt_nI hi, Nat.testBit_two_pow_sub_one]
  by_cases z : i < np
  · simp [z]
  · rw [Nat.testBit_lt_two_pow (Nat.lt_of_lt_of_le hs (Nat.pow_le_pow_right (by decide) (by omega))), Bool.and_false]
theorem mMin_l {a b : Int32} (h : ¬ b < a) : mMin a b = a := if_neg h
theorem mMin_r {a b : Int32} (h : b < a) : mMin a b = b := if_pos h
/-- the class's three numbers, and the reference's -/
def WsR (c : Int32 × Int32 × Int32) (m : Int32 × Int32 × Int32) (np s : Nat) : Prop := c.1 = m.1 ∧ ∃ n, n ≤ s ∧ c.1 = nI n ∧ (n = 0 → c.2.1 = 1000000 ∧ c.2.2 = nI (2 ^ np - 1) ∧ m.2.1 = -1 ∧ m.2.2 = 0) ∧ (0 < n → m.2.1 = c.2.1 ∧ m.2.2 = c.2.2 ∧ ∃ t, t < s ∧ c.2.1 = nI t)
theorem op_whose : S_whose Inv := by
  intro I s h x0 x1
  obtain ⟨np, nq, hnp, hnq, en1, en2, en3, en4⟩ := RelC_n h.1
  have bad : r9_whose I x0 x1 = some (-1) → r10_whose I x0 x1 = some (-1, mW I 119 0 0) → ∃ (v : Int32) (I2 : mI), r9_whose I x0 x1 = some v ∧ r10_whose I x0 x1 = some (v, I2) ∧ Inv I2 s := fun e1 e2 => ex1 e1 e2 rfl (Inv_told 0 h)
  by_cases a : x0 < 1
  · refine bad ?_ ?_
    · unfold r9_whose; rw [if_pos a, Option.bind_some]
    · unfold r10_whose; rw [isIn_0a a, if_pos rfl]
  by_cases b : 999 < x0
  · refine bad ?_ ?_
    · unfold r9_whose; rw [if_neg a, if_pos b, Option.bind_some]
    · unfold r10_whose; rw [isIn_0b b, if_pos rfl]
  by_cases c : x1 < 0
  · refine bad ?_ ?_
    · unfold r9_whose; rw [if_neg a, if_neg b, if_pos c, Option.bind_some]
    · unfold r10_whose; rw [isIn_1 a b, if_neg one_n0, isIn_0a c, if_pos rfl]
  by_cases d : x1 ≤ 2
  · have p12 : 2 ^ np ≤ 2 ^ 12 := Nat.pow_le_pow_right (by decide) hnp
    have pp : 0 < 2 ^ np := Nat.two_pow_pos np
    have hv : ¬ (0 : Int32) = x0 := fun q => a (by rw [← q]; decide)
    have all : r0_allPieces I = nI (2 ^ np - 1) := by
      unfold r0_allPieces
      rw [en1, sh_pow np (by omega)]
      exact nI_sub (b := 1) (Nat.one_le_two_pow)
    have m6 : (mW I 119 0 0) 119 6 = nI np := by rw [mW_off _ _ (by decide), en2]
    have hw : ∀ k, k < 12 → (mW I 119 0 0) 120 (29 + k) = I 5 k := fun k hk => by rw [mW_ne _ _ _ (by decide), h.1.1.1.2.2.2.1 k hk]
    -- the class
    have op0 : wOp (I 5) np x0 (0, 1000000, nI (2 ^ np - 1)) 0 = (0, 1000000, nI (2 ^ np - 1)) := by
      unfold wOp
      rw [Ws_0, if_neg hv]
    have run := wept_run hnp en1 x0 np (Nat.le_refl _) 0 0 (FU - (2 ^ np - 1)) (0, 1000000, nI (2 ^ np - 1)) (Nat.zero_mod _) (by omega)
    rw [op0, sA_up np 0 _ (Nat.zero_mod _)] at run
    have fu := FU_lt (n := 2 ^ np) (by omega)
    rw [show FU - (2 ^ np - 1) + (2 ^ np - 1) = FU by omega, Ws_0] at run
    obtain ⟨g, hg⟩ : ∃ g, FU - (2 ^ np - 1) = g + 1 := ⟨FU - (2 ^ np - 1) - 1, by omega⟩
    rw [hg] at run
    have cls : l8_setsThatWept_24 I x0 FU 0 1000000 (r0_allPieces I) 0 0 1 = some (sUp (wOp (I 5) np x0) (0, 1000000, nI (2 ^ np - 1)) 0 (2 ^ np)) := by
      rw [all]
      refine Eq.trans run ?_
      rw [l8_setsThatWept_24, all, if_pos (nI_lt (by omega) (by omega))]
    -- the reference
    obtain ⟨y, q1, q2⟩ := loop1 (fun f k (m : Int32 × Int32 × Int32) => l10_whose_40 (mW I 119 0 0) x0 f m.1 m.2.1 m.2.2 (nI k)) (fun k m => WsR (sUp (wOp (I 5) np x0) (0, 1000000, nI (2 ^ np - 1)) 0 k) m np k) (fun m => WsR (sUp (wOp (I 5) np x0) (0, 1000000, nI (2 ^ np - 1)) 0 (2 ^ np)) m np (2 ^ np)) (2 ^ np)
      (fun m hm => ⟨m, fun f => by show l10_whose_40 _ _ (f + 1) _ _ _ _ = _; rw [l10_whose_40, m6, sh_pow np (by omega), if_pos (by rw [i32_le]; omega)], hm⟩)
      (fun k m hk hm => by
        refine .inr ⟨if Ws (I 5) k np = x0 then (m.1 + 1, if m.1 = 0 then nI k else m.2.1, if m.1 = 0 then nI k else m.2.2 &&& nI k) else m, fun f _ => ?_, ?_⟩
        · show l10_whose_40 _ _ (f + 1) _ _ _ _ = _
          rw [l10_whose_40, m6, sh_pow np (by omega), if_neg (nI_ge hk (by omega)), whose57 hnp m6 hw, Option.bind_some]
          by_cases z : Ws (I 5) k np = x0
          · rw [if_pos z, if_pos z, ite_some, Option.bind_some, ite_some, Option.bind_some, Option.bind_some, nI_1]
          · rw [if_neg z, if_neg z, Option.bind_some, nI_1]
        · obtain ⟨e, n, hn, en, h0, h1⟩ := hm
          show WsR (wOp (I 5) np x0 (sUp (wOp (I 5) np x0) (0, 1000000, nI (2 ^ np - 1)) 0 k) (0 + k)) _ np (k + 1)
          generalize sUp (wOp (I 5) np x0) (0, 1000000, nI (2 ^ np - 1)) 0 k = cc at *
          unfold wOp
          rw [Nat.zero_add]
          by_cases z : Ws (I 5) k np = x0
          · rw [if_pos z, if_pos z]
            refine ⟨by show cc.1 + 1 = m.1 + 1; rw [e], n + 1, by omega, by show cc.1 + 1 = _; rw [en, nI_1], fun q => absurd q (by omega), fun _ => ?_⟩
            by_cases n0 : n = 0
            · obtain ⟨g1, g2, g3, g4⟩ := h0 n0
              have m0 : m.1 = 0 := by rw [← e, en, n0]; rfl
              have lt : nI k < (1000000 : Int32) := nI_lt (b := 1000000) (by omega) (by decide)
              refine ⟨?_, ?_, k, by omega, ?_⟩
              · show (if m.1 = 0 then nI k else m.2.1) = mMin cc.2.1 (nI k)
                rw [if_pos m0, g1, mMin_r lt]
              · show (if m.1 = 0 then nI k else m.2.2 &&& nI k) = cc.2.2 &&& nI k
                rw [if_pos m0, g2, all_and hk]
              · show mMin cc.2.1 (nI k) = nI k
                rw [g1, mMin_r lt]
            · obtain ⟨g1, g2, t, ht, g3⟩ := h1 (by omega)
              have m0 : ¬ m.1 = 0 := by rw [← e, en]; exact nI_ne0 (by omega) (by omega)
              have nl : ¬ nI k < cc.2.1 := by rw [g3]; exact nI_nlt (by omega) (by omega)
              refine ⟨?_, ?_, t, by omega, ?_⟩
              · show (if m.1 = 0 then nI k else m.2.1) = mMin cc.2.1 (nI k)
                rw [if_neg m0, g1, mMin_l nl]
              · show (if m.1 = 0 then nI k else m.2.2 &&& nI k) = cc.2.2 &&& nI k
                rw [if_neg m0, g2]
              · show mMin cc.2.1 (nI k) = nI t
                rw [mMin_l nl, g3]
          · rw [if_neg z, if_neg z]
            exact ⟨e, n, by omega, en, h0, fun q => by
              obtain ⟨g1, g2, t, ht, g3⟩ := h1 q
              exact ⟨g1, g2, t, by omega, g3⟩⟩) (2 ^ np) 0 FU (0, -1, 0) (by omega) fu ⟨rfl, 0, by omega, rfl, fun _ => ⟨rfl, rfl, rfl, rfl⟩, fun q => absurd q (by omega)⟩
    have q1 : l10_whose_40 (mW I 119 0 0) x0 FU 0 (-1) 0 0 = some y := q1
    generalize sUp (wOp (I 5) np x0) (0, 1000000, nI (2 ^ np - 1)) 0 (2 ^ np) = cc at cls q2
    obtain ⟨e, n, hn, en, h0, h1⟩ := q2
    have val : ((if x1 = 0 then some cc.1 else (if x1 = 1 then if cc.1 ≤ 0 then some (-1) else some cc.2.1 else if cc.1 ≤ 0 then some 0 else some cc.2.2 : Option Int32).bind fun z1 => some z1) : Option Int32) = (if x1 = 0 then some y.1 else if x1 = 1 then some y.2.1 else some y.2.2 : Option Int32) := by
      by_cases z0 : x1 = 0
      · rw [if_pos z0, if_pos z0, e]
      · rw [if_neg z0, if_neg z0]
        by_cases n0 : n = 0
        · obtain ⟨g1, g2, g3, g4⟩ := h0 n0
          have le : cc.1 ≤ 0 := by rw [en, n0]; decide
          rw [if_pos le, if_pos le, g3, g4]
          by_cases z1 : x1 = 1
          · rw [if_pos z1, Option.bind_some]
          · rw [if_neg z1, Option.bind_some]
        · obtain ⟨g1, g2, t, ht, g3⟩ := h1 (by omega)
          have le : ¬ cc.1 ≤ 0 := by rw [en]; exact nI_nle (by omega) (by omega)
          rw [if_neg le, if_neg le, g1, g2]
          by_cases z1 : x1 = 1
          · rw [if_pos z1, Option.bind_some]
          · rw [if_neg z1, Option.bind_some]
    have c9 : r9_whose I x0 x1 = (if x1 = 0 then some y.1 else if x1 = 1 then some y.2.1 else some y.2.2 : Option Int32) := by
      unfold r9_whose r8_setsThatWept
      rw [if_neg a, if_neg b, if_neg c, if_pos d, cls, Option.bind_some, val]
      by_cases z0 : x1 = 0
      · rw [if_pos z0, Option.bind_some, Option.bind_some]
      · rw [if_neg z0]
        by_cases z1 : x1 = 1
        · rw [if_pos z1, Option.bind_some, Option.bind_some]
        · rw [if_neg z1, Option.bind_some, Option.bind_some]
    have c10 : r10_whose I x0 x1 = (if x1 = 0 then some y.1 else if x1 = 1 then some y.2.1 else some y.2.2 : Option Int32).bind fun z1 => some (z1, mW I 119 0 0) := by
      unfold r10_whose
      rw [isIn_1 a b, if_neg one_n0, isIn_1 c (i32_nlt.mpr d), if_neg one_n0, q1, Option.bind_some]
    rw [ite_some, ite_some] at c9
    rw [ite_some, ite_some, Option.bind_some] at c10
    exact ex1 c9 c10 rfl (Inv_told 0 h)
  · refine bad ?_ ?_
    · unfold r9_whose; rw [if_neg a, if_neg b, if_neg c, if_neg d, Option.bind_some]
    · unfold r10_whose; rw [isIn_1 a b, if_neg one_n0, isIn_0b (i32_nle.mp d), if_pos rfl]

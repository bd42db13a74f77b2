/-! TUNE: the tables of the fingers -/
def yv (n k : Nat) : Int32 := if k < n then nI (n - 1 - k) else -1
theorem yv_0 (n : Nat) : nI n - 1 = yv n 0 := by
  unfold yv
  by_cases z : 0 < n
  · rw [if_pos z]
    exact nI_sub (b := 1) z
  · rw [if_neg z, show n = 0 by omega]; rfl
theorem yv_s {n k : Nat} (hk : k < n) : yv n k + (-1) = yv n (k + 1) := by
  unfold yv
  rw [if_pos hk, ← Int32.sub_eq_add_neg]
  by_cases z : k + 1 < n
  · rw [if_pos z, show n - 1 - k = (n - 1 - (k + 1)) + 1 by omega, nI_pred]
  · rw [if_neg z, show n - 1 - k = 0 by omega]; rfl
theorem yv_n (n : Nat) : yv n n = -1 := if_neg (Nat.lt_irrefl n)
theorem yv_k {n k : Nat} (hk : k < n) : yv n k = nI (n - 1 - k) := if_pos hk
/-- the table from the last tone on, k tones -/
def TbC (c : mI) (t : Nat → Nat) (n k : Nat) : Prop := ∀ r, r < k → ∀ f, f < 5 → c 33 (5 * (n - 1 - r) + f) = nI (Fr t n r f)
def TbM (m : mI) (t : Nat → Nat) (n k : Nat) : Prop := ∀ r, r < k → ∀ f, f < 5 → m 147 (6 * (n - 1 - r) + (f + 1)) = nI (Fr t n r f)
theorem costC {C c : mI} {n : Nat} {t : Nat → Nat} (hn : n ≤ 16) (e : c 27 5 = nI n) (ht : ∀ i, i < 16 → t i ≤ 60 ∧ c 28 i = nI (t i)) {k f : Nat} (hk : k < n) (hf : f < 5) (hT : TbC c t n k) : r1_costFrom c (nI (n - 1 - k)) (nI f) = some (nI (Fr t n k f)) := by
  unfold r1_costFrom
  rw [nI_1, e]
  cases k with
  | zero =>
    rw [if_neg (nI_nlt (by omega) (by omega))]
    rfl
  | succ k =>
    have ht2 : ∀ i, i < 16 → t i ≤ 60 := fun i hi => (ht i hi).1
    rw [if_pos (nI_lt (by omega) (by omega))]
    obtain ⟨u, q1, q2⟩ := loop1 (fun g j (y : Int32) => l1_costFrom_18 c (nI (n - 1 - (k + 1))) (nI f) g y (nI j)) (fun j y => y = nI (mk 1000000 (fun g => stp t (n - 2 - k) f g + Fr t n k g) j)) (fun y => y = nI (Fr t n (k + 1) f)) 5
      (fun y hy => ⟨y, fun g => by show l1_costFrom_18 _ _ _ (g + 1) _ _ = _; rw [l1_costFrom_18, if_pos (by decide)], hy⟩)
      (fun j y hj hy => .inr ⟨nI (mk 1000000 (fun g => stp t (n - 2 - k) f g + Fr t n k g) (j + 1)), fun g _ => by
        have sc := (step_e (C := c) (M := fun _ i => nI (t i)) hn (fun i hi => ⟨(ht i hi).1, (ht i hi).2, rfl⟩) (i := n - 1 - (k + 1)) (f := f) (g := j) (by omega) hf hj).1
        have b1 := (mk_le 1000000 (fun g => stp t (n - 2 - k) f g + Fr t n k g) j).1
        have b2 := stp_le (t := t) (i := n - 1 - (k + 1)) (f := f) (g := j) (ht2 _ (by omega)) (ht2 _ (by omega)) hf hj
        have b3 := Fr_le ht2 hn k j (by omega) hj
        have tb := hT k (by omega) j hj
        show l1_costFrom_18 _ _ _ (g + 1) _ _ = _
        rw [l1_costFrom_18, if_neg (show ¬ (5 : Int32) ≤ nI j from nI_ge (b := 5) hj (by decide)), sc, Option.bind_some, nI_1, show (5 : Int32) = nI 5 from rfl, nI_mul, nI_add, mLd_n (by omega) (by decide), Option.bind_some, show (n - 1 - (k + 1) + 1) * 5 + j = 5 * (n - 1 - k) + j by omega, tb, nI_add, hy, min_nI (by omega) (by omega), nI_1]
        show _ = l1_costFrom_18 _ _ _ g (nI (min (mk 1000000 (fun g => stp t (n - 2 - k) f g + Fr t n k g) j) (stp t (n - 2 - k) f j + Fr t n k j))) _
        rw [show n - 1 - (k + 1) = n - 2 - k by omega], rfl⟩) 5 0 FU 1000000 (by omega) (FU_lt (by omega)) rfl
    rw [show l1_costFrom_18 c (nI (n - 1 - (k + 1))) (nI f) FU 1000000 0 = some u from q1, Option.bind_some, q2]
theorem fingC {C : mI} {n : Nat} {t : Nat → Nat} (hn : n ≤ 16) (e : C 27 5 = nI n) (ht : ∀ i, i < 16 → t i ≤ 60 ∧ C 28 i = nI (t i)) : ∃ C', r1_reckonFingers C = some C' ∧ (∀ b, b ≠ 33 → C' b = C b) ∧ TbC C' t n n := by
  obtain ⟨u, q1, q2⟩ := loop1 (fun g k (c : mI) => l1_reckonFingers_7 g (yv n k) c) (fun k c => (∀ b, b ≠ 33 → c b = C b) ∧ TbC c t n k) (fun c => (∀ b, b ≠ 33 → c b = C b) ∧ TbC c t n n) n
    (fun c hc => ⟨c, fun g => by show l1_reckonFingers_7 (g + 1) _ _ = _; rw [l1_reckonFingers_7, yv_n, if_pos (by decide)], hc⟩)
    (fun k c hk ⟨hf, hT⟩ => by
      obtain ⟨v, r1, r2, r3, r4⟩ := loop1 (fun g j (s : mI) => l1_reckonFingers_13 (nI (n - 1 - k)) g (nI j) s) (fun j s => (∀ b, b ≠ 33 → s b = c b) ∧ (∀ f, f < j → s 33 (5 * (n - 1 - k) + f) = nI (Fr t n k f)) ∧ (∀ i, ¬ (5 * (n - 1 - k) ≤ i ∧ i < 5 * (n - 1 - k) + j) → s 33 i = c 33 i)) (fun s => (∀ b, b ≠ 33 → s b = c b) ∧ (∀ f, f < 5 → s 33 (5 * (n - 1 - k) + f) = nI (Fr t n k f)) ∧ (∀ i, ¬ (5 * (n - 1 - k) ≤ i ∧ i < 5 * (n - 1 - k) + 5) → s 33 i = c 33 i)) 5
        (fun s hs => ⟨s, fun g => by show l1_reckonFingers_13 _ (g + 1) _ _ = _; rw [l1_reckonFingers_13, if_pos (by decide)], hs⟩)
        (fun j s hj ⟨h1, h2, h3⟩ => by
          have cost := costC (C := C) (c := s) hn (by rw [h1 27 (by decide), hf 27 (by decide), e]) (fun i hi => by rw [h1 28 (by decide), hf 28 (by decide)]; exact ht i hi) hk hj (fun r hr f hf' => by rw [h3 _ (by omega), hT r hr f hf'])
          refine .inr ⟨mW s 33 (5 * (n - 1 - k) + j) (nI (Fr t n k j)), fun g _ => ?_, fun b hb => by rw [mW_ne _ _ _ hb, h1 b hb], fun f hf' => ?_, fun i hi => by rw [mW_off _ _ (by omega), h3 i (by omega)]⟩
          · show l1_reckonFingers_13 _ (g + 1) _ _ = _
            rw [l1_reckonFingers_13, if_neg (show ¬ (5 : Int32) ≤ nI j from nI_ge (b := 5) hj (by decide)), cost, Option.bind_some, show (5 : Int32) = nI 5 from rfl, nI_mul, nI_add, mSto_n (by omega) (by decide), Option.bind_some, nI_1, Nat.mul_comm (n - 1 - k) 5]
          · by_cases e' : f = j
            · rw [e', mW_at]
            · rw [mW_off _ _ (by omega), h2 f (by omega)]) 5 0 FU c (by omega) (FU_lt (by omega)) ⟨fun _ _ => rfl, fun f hf' => absurd hf' (Nat.not_lt_zero _), fun _ _ => rfl⟩
      refine .inr ⟨v, fun g _ => ?_, fun b hb => by rw [r2 b hb, hf b hb], fun r hr f hf' => ?_⟩
      · show l1_reckonFingers_7 (g + 1) _ _ = _
        rw [l1_reckonFingers_7, yv_k hk, if_neg (nI_pos (by omega)), show l1_reckonFingers_13 (nI (n - 1 - k)) FU 0 c = some v from r1, Option.bind_some, ← yv_k hk, yv_s hk]
      · by_cases e' : r = k
        · rw [e']; exact r3 f hf'
        · rw [r4 _ (by omega), hT r (by omega) f hf']) n 0 FU C (by omega) (FU_lt (by omega)) ⟨fun _ _ => rfl, fun r hr => absurd hr (Nat.not_lt_zero _)⟩
  refine ⟨u, ?_, q2⟩
  unfold r1_reckonFingers
  rw [e, yv_0, show l1_reckonFingers_7 FU (yv n 0) C = some u from q1, Option.bind_some]
theorem costM {m : mI} {n : Nat} {t : Nat → Nat} (hn : n ≤ 16) (e : m 119 48 = nI n) (ht : ∀ i, i < 16 → t i ≤ 60 ∧ m 146 i = nI (t i)) {k f : Nat} (hk : k < n) (hf : f < 5) (hT : TbM m t n k) : l10_findsFingers_40 m (nI (n - 1 - k)) (nI (f + 1)) FU (if nI (n - 1 - k) = nI n - 1 then 0 else 100000000) 1 = some (nI (Fr t n k f)) := by
  have en : nI n - 1 = nI (n - 1) := nI_sub (b := 1) (by omega)
  have fu := FU_lt (n := 100) (by omega)
  cases k with
  | zero =>
    rw [en, Nat.sub_zero, if_pos rfl, show FU = (FU - 1) + 1 by omega, l10_findsFingers_40, if_neg (by decide), e, en, if_pos (nI_le (by omega) (by omega))]
    rfl
  | succ k =>
    have ht2 : ∀ i, i < 16 → t i ≤ 60 := fun i hi => (ht i hi).1
    rw [en, if_neg (fun q => by have := (nI_eq (by omega) (by omega)).mp q; omega)]
    obtain ⟨u, q1, q2⟩ := loop1 (fun g j (y : Int32) => l10_findsFingers_40 m (nI (n - 1 - (k + 1))) (nI (f + 1)) g y (nI (j + 1))) (fun j y => y = nI (mk 100000000 (fun g => stp t (n - 2 - k) f g + Fr t n k g) j)) (fun y => y = nI (Fr t n (k + 1) f)) 5
      (fun y hy => ⟨y, fun g => by show l10_findsFingers_40 _ _ _ (g + 1) _ _ = _; rw [l10_findsFingers_40, if_pos (by decide)], by
        rw [hy]
        have b2 := stp_le (t := t) (i := n - 2 - k) (f := f) (g := 0) (ht2 _ (by omega)) (ht2 _ (by omega)) hf (by omega)
        have b3 := Fr_le ht2 hn k 0 (by omega) (by omega)
        show nI (mk 100000000 (fun g => stp t (n - 2 - k) f g + Fr t n k g) 5) = nI (mk 1000000 (fun g => stp t (n - 2 - k) f g + Fr t n k g) 5)
        rw [mk_B (B := 100000000) (B' := 1000000) (show stp t (n - 2 - k) f 0 + Fr t n k 0 ≤ _ by omega) (show stp t (n - 2 - k) f 0 + Fr t n k 0 ≤ _ by omega)]⟩)
      (fun j y hj hy => .inr ⟨nI (mk 100000000 (fun g => stp t (n - 2 - k) f g + Fr t n k g) (j + 1)), fun g _ => by
        have sc := (step_e (C := fun _ i => nI (t i)) (M := m) hn (fun i hi => ⟨(ht i hi).1, rfl, (ht i hi).2⟩) (i := n - 1 - (k + 1)) (f := f) (g := j) (by omega) hf hj).2
        have b1 := (mk_le 100000000 (fun g => stp t (n - 2 - k) f g + Fr t n k g) j).1
        have b2 := stp_le (t := t) (i := n - 1 - (k + 1)) (f := f) (g := j) (ht2 _ (by omega)) (ht2 _ (by omega)) hf hj
        have b3 := Fr_le ht2 hn k j (by omega) hj
        have tb := hT k (by omega) j hj
        show l10_findsFingers_40 _ _ _ (g + 1) _ _ = _
        rw [l10_findsFingers_40, if_neg (show ¬ (6 : Int32) ≤ nI (j + 1) from nI_ge (b := 6) (by omega) (by decide)), e, en, if_neg (nI_ge (by omega) (by omega)), sc, Option.bind_some, nI_1, show (6 : Int32) = nI 6 from rfl, nI_mul, nI_add, mLd_n (by omega) (by decide), Option.bind_some, show 6 * (n - 1 - (k + 1) + 1) + (j + 1) = 6 * (n - 1 - k) + (j + 1) by omega, tb, nI_add, hy, lesser_min, min_nI (by omega) (by omega), nI_1]
        show _ = l10_findsFingers_40 _ _ _ g (nI (min (mk 100000000 (fun g => stp t (n - 2 - k) f g + Fr t n k g) j) (stp t (n - 2 - k) f j + Fr t n k j))) _
        rw [show n - 1 - (k + 1) = n - 2 - k by omega], rfl⟩) 5 0 FU 100000000 (by omega) (FU_lt (by omega)) rfl
    rw [show l10_findsFingers_40 m (nI (n - 1 - (k + 1))) (nI (f + 1)) FU 100000000 1 = some u from q1, q2]
theorem fingM {M : mI} {n : Nat} {t : Nat → Nat} (hn : n ≤ 16) (e : M 119 48 = nI n) (ht : ∀ i, i < 16 → t i ≤ 60 ∧ M 146 i = nI (t i)) : ∃ M', r10_findsFingers M = some M' ∧ (∀ b, b ≠ 147 → M' b = M b) ∧ TbM M' t n n := by
  obtain ⟨u, q1, q2⟩ := loop1 (fun g k (c : mI) => l10_findsFingers_7 g (yv n k) c) (fun k c => (∀ b, b ≠ 147 → c b = M b) ∧ TbM c t n k) (fun c => (∀ b, b ≠ 147 → c b = M b) ∧ TbM c t n n) n
    (fun c hc => ⟨c, fun g => by show l10_findsFingers_7 (g + 1) _ _ = _; rw [l10_findsFingers_7, yv_n, if_pos (by decide)], hc⟩)
    (fun k c hk ⟨hf, hT⟩ => by
      obtain ⟨v, r1, r2, r3, r4⟩ := loop1 (fun g j (s : mI) => l10_findsFingers_13 (nI (n - 1 - k)) g (nI (j + 1)) s) (fun j s => (∀ b, b ≠ 147 → s b = c b) ∧ (∀ f, f < j → s 147 (6 * (n - 1 - k) + (f + 1)) = nI (Fr t n k f)) ∧ (∀ i, ¬ (6 * (n - 1 - k) < i ∧ i < 6 * (n - 1 - k) + (j + 1)) → s 147 i = c 147 i)) (fun s => (∀ b, b ≠ 147 → s b = c b) ∧ (∀ f, f < 5 → s 147 (6 * (n - 1 - k) + (f + 1)) = nI (Fr t n k f)) ∧ (∀ i, ¬ (6 * (n - 1 - k) < i ∧ i < 6 * (n - 1 - k) + 6) → s 147 i = c 147 i)) 5
        (fun s hs => ⟨s, fun g => by show l10_findsFingers_13 _ (g + 1) _ _ = _; rw [l10_findsFingers_13, if_pos (by decide)], hs⟩)
        (fun j s hj ⟨h1, h2, h3⟩ => by
          have es : s 119 48 = nI n := by rw [h1 119 (by decide), hf 119 (by decide), e]
          have cost := costM (m := s) hn es (fun i hi => by rw [h1 146 (by decide), hf 146 (by decide)]; exact ht i hi) hk hj (fun r hr f hf' => by rw [h3 _ (by omega), hT r hr f hf'])
          refine .inr ⟨mW s 147 (6 * (n - 1 - k) + (j + 1)) (nI (Fr t n k j)), fun g _ => ?_, fun b hb => by rw [mW_ne _ _ _ hb, h1 b hb], fun f hf' => ?_, fun i hi => by rw [mW_off _ _ (by omega), h3 i (by omega)]⟩
          · show l10_findsFingers_13 _ (g + 1) _ _ = _
            rw [l10_findsFingers_13, if_neg (show ¬ (6 : Int32) ≤ nI (j + 1) from nI_ge (b := 6) (by omega) (by decide)), es, ite_some, Option.bind_some, cost, Option.bind_some, show (6 : Int32) = nI 6 from rfl, nI_mul, nI_add, mSto_n (by omega) (by decide), Option.bind_some, nI_1]
          · by_cases e' : f = j
            · rw [e', mW_at]
            · rw [mW_off _ _ (by omega), h2 f (by omega)]) 5 0 FU c (by omega) (FU_lt (by omega)) ⟨fun _ _ => rfl, fun f hf' => absurd hf' (Nat.not_lt_zero _), fun _ _ => rfl⟩
      refine .inr ⟨v, fun g _ => ?_, fun b hb => by rw [r2 b hb, hf b hb], fun r hr f hf' => ?_⟩
      · show l10_findsFingers_7 (g + 1) _ _ = _
        rw [l10_findsFingers_7, yv_k hk, if_neg (nI_pos (by omega)), show l10_findsFingers_13 (nI (n - 1 - k)) FU 1 c = some v from r1, Option.bind_some, ← yv_k hk, yv_s hk]
      · by_cases e' : r = k
        · rw [e']; exact r3 f hf'
        · rw [r4 _ (by omega), hT r (by omega) f hf']) n 0 FU M (by omega) (FU_lt (by omega)) ⟨fun _ _ => rfl, fun r hr => absurd hr (Nat.not_lt_zero _)⟩
  refine ⟨u, ?_, q2⟩
  unfold r10_findsFingers
  rw [e, yv_0, show l10_findsFingers_7 FU (yv n 0) M = some u from q1, Option.bind_some]
theorem first_e {c m : mI} {t : Nat → Nat} {n : Nat} (hn : n ≤ 16) (h1 : 1 ≤ n) (ht : ∀ i, i < 16 → t i ≤ 60) (hC : TbC c t n n) (hM : TbM m t n n) : ∃ a, a < 5 ∧ r1_cheapestFirst c = some (nI a) ∧ r10_firstFinger m = some (nI (a + 1)) := by
  have vC : ∀ f, f < 5 → c 33 f = nI (Fr t n (n - 1) f) := fun f hf => by
    have := hC (n - 1) (by omega) f hf
    rw [show 5 * (n - 1 - (n - 1)) + f = f by omega] at this
    exact this
  have vM : ∀ f, f < 5 → m 147 (f + 1) = nI (Fr t n (n - 1) f) := fun f hf => by
    have := hM (n - 1) (by omega) f hf
    rw [show 6 * (n - 1 - (n - 1)) + (f + 1) = f + 1 by omega] at this
    exact this
  obtain ⟨x, y, q1, q2, a, ha, ex, ey⟩ := loop2x (fun f k (a : Int32) => l1_cheapestFirst_4 c f a (nI (k + 1))) (fun f k (b : Int32) => l10_firstFinger_4 m f b (nI (k + 2))) (fun k x y => ∃ a, a < 5 ∧ x = nI a ∧ y = nI (a + 1)) (fun x y => ∃ a, a < 5 ∧ x = nI a ∧ y = nI (a + 1)) 4
    (fun x y h => ⟨x, y, fun f => by show l1_cheapestFirst_4 _ (f + 1) _ _ = _; rw [l1_cheapestFirst_4, if_pos (by decide)], fun f => by show l10_firstFinger_4 _ (f + 1) _ _ = _; rw [l10_firstFinger_4, if_pos (by decide)], h⟩)
    (fun k x y hk ⟨a, ha, ex, ey⟩ => by
      refine .inr ⟨if nI (Fr t n (n - 1) a) ≤ nI (Fr t n (n - 1) (k + 1)) then nI a else nI (k + 1), if nI (Fr t n (n - 1) a) ≤ nI (Fr t n (n - 1) (k + 1)) then nI (a + 1) else nI (k + 2), fun f _ => ?_, fun f _ => ?_, ?_⟩
      · show l1_cheapestFirst_4 _ (f + 1) _ _ = _
        rw [l1_cheapestFirst_4, if_neg (show ¬ (5 : Int32) ≤ nI (k + 1) from nI_ge (b := 5) (by omega) (by decide)), mLd_n (by omega) (by decide), Option.bind_some, ex, mLd_n (by omega) (by decide), Option.bind_some, vC (k + 1) (by omega), vC a ha, ite_some, Option.bind_some, nI_1]
      · show l10_firstFinger_4 _ (f + 1) _ _ = _
        rw [l10_firstFinger_4, if_neg (show ¬ (6 : Int32) ≤ nI (k + 2) from nI_ge (b := 6) (by omega) (by decide)), mLd_n (by omega) (by decide), Option.bind_some, ey, mLd_n (by omega) (by decide), Option.bind_some, vM _ ha, show k + 2 = (k + 1) + 1 from rfl, vM (k + 1) (by omega), ite_some, Option.bind_some, nI_1]
      · by_cases z : nI (Fr t n (n - 1) a) ≤ nI (Fr t n (n - 1) (k + 1))
        · rw [if_pos z, if_pos z]; exact ⟨a, ha, rfl, rfl⟩
        · rw [if_neg z, if_neg z]; exact ⟨k + 1, by omega, rfl, rfl⟩) 4 0 FU FU 0 1 (by omega) (FU_lt (by omega)) (FU_lt (by omega)) ⟨0, by omega, rfl, rfl⟩
  refine ⟨a, ha, ?_, ?_⟩
  · unfold r1_cheapestFirst
    rw [show l1_cheapestFirst_4 c FU 0 1 = some x from q1, Option.bind_some, ex]
  · unfold r10_firstFinger
    rw [show l10_firstFinger_4 m FU 1 2 = some y from q2, Option.bind_some, ey]
theorem next_e {c m : mI} {t : Nat → Nat} {n : Nat} (hn : n ≤ 16) (ht : ∀ i, i < 16 → t i ≤ 60 ∧ c 28 i = nI (t i) ∧ m 146 i = nI (t i)) (hC : TbC c t n n) (hM : TbM m t n n) {i a : Nat} (hi : i + 1 < n) (ha : a < 5) : ∃ g, g < 5 ∧ l1_fingerOf_32 c (nI i) (nI a) FU 0 = some (nI g) ∧ l10_fingerOf_15 m (nI (a + 1)) (nI i) FU 1 = some (nI (g + 1)) := by
  have ht2 : ∀ i, i < 16 → t i ≤ 60 := fun i hi => (ht i hi).1
  obtain ⟨r, hr⟩ : ∃ r, n - 1 - i = r + 1 := ⟨n - 2 - i, by omega⟩
  have er : n - 2 - r = i := by omega
  have F1 : Fr t n (r + 1) a = mk 1000000 (fun g => stp t i a g + Fr t n r g) 5 := by
    show mk 1000000 (fun g => stp t (n - 2 - r) a g + Fr t n r g) 5 = _
    rw [er]
  have Fb := Fr_le ht2 hn (r + 1) a (by omega) ha
  have hb : ∀ g, g < 5 → stp t i a g + Fr t n r g ≤ 77 + 77 * 15 := fun g hg => by
    have b2 := stp_le (t := t) (i := i) (f := a) (g := g) (ht2 _ (by omega)) (ht2 _ (by omega)) ha hg
    have b3 := Fr_le ht2 hn r g (by omega) hg
    have : 77 * r ≤ 77 * 15 := Nat.mul_le_mul_left _ (by omega)
    omega
  have att : ∃ g, g < 5 ∧ stp t i a g + Fr t n r g = Fr t n (r + 1) a := by
    rcases mk_at 1000000 (fun g => stp t i a g + Fr t n r g) 5 with q | ⟨g, hg, q⟩
    · have := (mk_le 1000000 (fun g => stp t i a g + Fr t n r g) 5).2 0 (by omega)
      have b := hb 0 (by omega)
      have this : mk 1000000 (fun g => stp t i a g + Fr t n r g) 5 ≤ stp t i a 0 + Fr t n r 0 := this
      omega
    · exact ⟨g, hg, by rw [F1, q]⟩
  have c0 : c 33 (5 * i + a) = nI (Fr t n (r + 1) a) := by
    have := hC (r + 1) (by omega) a ha
    rw [show 5 * (n - 1 - (r + 1)) + a = 5 * i + a by omega] at this
    exact this
  have m0 : m 147 (6 * i + (a + 1)) = nI (Fr t n (r + 1) a) := by
    have := hM (r + 1) (by omega) a ha
    rw [show 6 * (n - 1 - (r + 1)) + (a + 1) = 6 * i + (a + 1) by omega] at this
    exact this
  have c1 : ∀ g, g < 5 → c 33 (5 * (i + 1) + g) = nI (Fr t n r g) := fun g hg => by
    have := hC r (by omega) g hg
    rw [show 5 * (n - 1 - r) + g = 5 * (i + 1) + g by omega] at this
    exact this
  have m1 : ∀ g, g < 5 → m 147 (6 * (i + 1) + (g + 1)) = nI (Fr t n r g) := fun g hg => by
    have := hM r (by omega) g hg
    rw [show 6 * (n - 1 - r) + (g + 1) = 6 * (i + 1) + (g + 1) by omega] at this
    exact this
  have Fbb : Fr t n (r + 1) a < 2 ^ 31 := by
    have : 77 * (r + 1) ≤ 77 * 15 := Nat.mul_le_mul_left _ (by omega)
    omega
  have stC : ∀ g, g < 4 → ∀ f, l1_fingerOf_32 c (nI i) (nI a) (f + 1) (nI g) = if stp t i a g + Fr t n r g = Fr t n (r + 1) a then some (nI g) else l1_fingerOf_32 c (nI i) (nI a) f (nI (g + 1)) := fun g hg f => by
    have sc := (step_e (C := c) (M := m) hn ht (i := i) (f := a) (g := g) hi ha (by omega)).1
    have b := hb g (by omega)
    rw [l1_fingerOf_32, if_neg (show ¬ (4 : Int32) ≤ nI g from nI_ge (b := 4) hg (by decide)), sc, Option.bind_some, nI_1, show (5 : Int32) = nI 5 from rfl, nI_mul, nI_add, mLd_n (by omega) (by decide), Option.bind_some, nI_mul, nI_add, mLd_n (by omega) (by decide), Option.bind_some, Nat.mul_comm (i + 1) 5, Nat.mul_comm i 5, c1 g (by omega), c0, nI_add]
    by_cases z : stp t i a g + Fr t n r g = Fr t n (r + 1) a
    · rw [if_pos z, if_pos (by rw [z])]
    · rw [if_neg z, if_neg (fun q => z ((nI_eq (by omega) Fbb).mp q)), nI_1]
  have stM : ∀ g, g < 5 → ∀ f, l10_fingerOf_15 m (nI (a + 1)) (nI i) (f + 1) (nI (g + 1)) = if stp t i a g + Fr t n r g = Fr t n (r + 1) a then some (nI (g + 1)) else l10_fingerOf_15 m (nI (a + 1)) (nI i) f (nI (g + 1 + 1)) := fun g hg f => by
    have sc := (step_e (C := c) (M := m) hn ht (i := i) (f := a) (g := g) hi ha (by omega)).2
    have b := hb g (by omega)
    rw [l10_fingerOf_15, sc, Option.bind_some, nI_1 i, show (6 : Int32) = nI 6 from rfl, nI_mul, nI_add, mLd_n (by omega) (by decide), Option.bind_some, nI_mul, nI_add, mLd_n (by omega) (by decide), Option.bind_some, m1 g (by omega), m0, nI_add]
    by_cases z : stp t i a g + Fr t n r g = Fr t n (r + 1) a
    · rw [if_pos z, if_pos (by rw [z])]
    · rw [if_neg z, if_neg (fun q => z ((nI_eq (by omega) Fbb).mp q)), nI_1]
  obtain ⟨x, y, q1, q2, g, hg, ex, ey⟩ := loop2x (fun f g (_ : Unit) => l1_fingerOf_32 c (nI i) (nI a) f (nI g)) (fun f g (_ : Unit) => l10_fingerOf_15 m (nI (a + 1)) (nI i) f (nI (g + 1))) (fun k _ _ => ∀ g, g < k → ¬ stp t i a g + Fr t n r g = Fr t n (r + 1) a) (fun x y => ∃ g, g < 5 ∧ x = nI g ∧ y = nI (g + 1)) 4
    (fun _ _ h => ⟨nI 4, nI (4 + 1), fun f => by show l1_fingerOf_32 _ _ _ (f + 1) _ = _; rw [l1_fingerOf_32, if_pos (by decide)], fun f => by
      obtain ⟨g, hg, e⟩ := att
      have : g = 4 := by
        apply Classical.byContradiction
        intro q
        exact h g (by omega) e
      subst this
      show l10_fingerOf_15 _ _ _ (f + 1) _ = _
      rw [stM 4 (by omega) f, if_pos e], 4, by omega, rfl, rfl⟩)
    (fun k _ _ hk h => by
      by_cases z : stp t i a k + Fr t n r k = Fr t n (r + 1) a
      · exact .inl ⟨nI k, nI (k + 1), fun f _ => by show l1_fingerOf_32 _ _ _ (f + 1) _ = _; rw [stC k hk f, if_pos z], fun f _ => by show l10_fingerOf_15 _ _ _ (f + 1) _ = _; rw [stM k (by omega) f, if_pos z], k, by omega, rfl, rfl⟩
      · exact .inr ⟨(), (), fun f _ => by show l1_fingerOf_32 _ _ _ (f + 1) _ = _; rw [stC k hk f, if_neg z], fun f _ => by show l10_fingerOf_15 _ _ _ (f + 1) _ = _; rw [stM k (by omega) f, if_neg z], fun g hg => by
          by_cases e : g = k
          · rw [e]; exact z
          · exact h g (by omega)⟩) 4 0 FU FU () () (by omega) (FU_lt (by omega)) (FU_lt (by omega)) (fun g hg => absurd hg (Nat.not_lt_zero _))
  exact ⟨g, hg, by rw [← ex]; exact q1, by rw [← ey]; exact q2⟩
theorem op_tune : S_tune Inv := by
  intro I s h x0
  obtain ⟨_, _, _, _, _, _, ⟨⟨r1, r2, r3, r4, r5, r6, r7⟩, ⟨n, hn, en⟩, w2, w3, w4, w5, w6, w7⟩, _⟩ := h.1
  have eC : I 27 5 = nI n := by rw [r1, en]
  obtain ⟨t, htM⟩ := bd_fun w3
  have Mrow : ∀ M : mI, (∀ a, 119 ≤ a → M a = I a) → (mW M 119 0 0) 119 48 = nI n ∧ (mW M 119 0 0) 146 = I 146 := fun M hM => by
    rw [mW_off _ _ (by decide), mW_ne _ _ _ (by decide), hM 119 (by decide), hM 146 (by decide), en]
    exact ⟨rfl, rfl⟩
  obtain ⟨eM, e146⟩ := Mrow I (fun _ _ => rfl)
  have same : (outF (Alk (I 28) n) n n) = outF (Alk (I 146) n) n n := outF_eq (fun i j hi hj => Alk_eq hn r3 hi hj) n (Nat.le_refl _)
  have tw : l10_twice_7 (mW I 119 0 0) FU 1 (-1) 0 = some (nI (outF (Alk (I 146) n) n n).1, (outF (Alk (I 146) n) n n).2) := by
    have := twM hn eM
    rw [e146] at this
    exact this
  by_cases z0 : x0 = 0
  · subst z0
    refine ex2 (v := if nI (outF (Alk (I 146) n) n n).1 ≤ 1 then 0 else nI (outF (Alk (I 146) n) n n).1) (v' := if nI (outF (Alk (I 146) n) n n).1 ≤ 1 then 0 else nI (outF (Alk (I 146) n) n n).1) (I1 := I) (I2 := mW I 119 0 0) ?_ ?_ rfl (Inv_told 0 h)
    · unfold r9_tune r1_twiceLength
      rw [if_pos rfl, twLen hn eC, same, Option.bind_some, ite_some, Option.bind_some, Option.bind_some]
    · unfold r10_tune r10_twice
      rw [if_pos rfl, if_neg (by decide), Option.bind_some, tw, Option.bind_some, if_pos rfl]
      dsimp only
      rw [ite_some, Option.bind_some, Option.bind_some]
  by_cases z1 : x0 = 1
  · subst z1
    refine ex2 (v := (outF (Alk (I 146) n) n n).2) (v' := (outF (Alk (I 146) n) n n).2) (I1 := I) (I2 := mW I 119 0 0) ?_ ?_ rfl (Inv_told 0 h)
    · unfold r9_tune r1_twicePlace
      rw [if_neg one_n0, if_pos rfl, twPl hn eC, same, Option.bind_some, Option.bind_some]
    · unfold r10_tune r10_twice
      rw [if_neg one_n0, if_pos rfl, if_pos rfl, Option.bind_some, tw, Option.bind_some, if_neg one_n0, Option.bind_some, Option.bind_some]
  by_cases z2 : x0 = 2
  · subst z2
    obtain ⟨v, q1, q2⟩ := rises_e hn eC eM (by rw [e146]; exact r3)
    refine ex2 (v := v) (v' := v) (I1 := I) (I2 := mW I 119 0 0) ?_ ?_ rfl (Inv_told 0 h)
    · unfold r9_tune
      rw [if_neg z0, if_neg z1, if_pos rfl, q1, Option.bind_some]
    · unfold r10_tune
      rw [if_neg z0, if_neg z1, if_pos rfl, q2, Option.bind_some]
  have htC : ∀ i, i < 16 → t i ≤ 60 ∧ I 28 i = nI (t i) := fun i hi => ⟨(htM i hi).1, by rw [r3 i hi, (htM i hi).2]⟩
  have htm : ∀ M : mI, (∀ a, 119 ≤ a → M a = I a) → ∀ i, i < 16 → t i ≤ 60 ∧ (mW M 119 0 0) 146 i = nI (t i) := fun M hM i hi => ⟨(htM i hi).1, by rw [(Mrow M hM).2, (htM i hi).2]⟩
  by_cases z3 : x0 = 3
  · subst z3
    by_cases n0 : n = 0
    · subst n0
      obtain ⟨M', m1, m2, m3⟩ := fingM hn eM (htm I (fun _ _ => rfl))
      refine ex2 (v := 0) (v' := 0) (I1 := I) (I2 := M') ?_ ?_ rfl (Inv_frame h h.2.2.2.2.2.2 (fun a ha => by rw [m2 a (by omega), mW_ne _ _ _ (by omega)]) (fun k hk => by rw [m2 119 (by decide), mW_off _ _ (by omega)]))
      · unfold r9_tune r1_fingersCost
        rw [if_neg z0, if_neg z1, if_neg z2, if_pos rfl, eC, if_pos nI_0, Option.bind_some]
      · unfold r10_tune
        rw [if_neg z0, if_neg z1, if_neg z2, if_pos rfl, m1, Option.bind_some, if_pos (by decide), m2 119 (by decide), eM, if_pos nI_0, Option.bind_some]
    · refine fin_rows h 33 147 (by omega) (by omega) (fun M hM => ?_)
      obtain ⟨C', c1, c2, c3⟩ := fingC hn eC htC
      obtain ⟨M', m1, m2, m3⟩ := fingM hn (Mrow M hM).1 (htm M hM)
      obtain ⟨a, ha, f1, f2⟩ := first_e hn (by omega) (fun i hi => (htM i hi).1) c3 m3
      have vC : C' 33 a = nI (Fr t n (n - 1) a) := by
        have := c3 (n - 1) (by omega) a ha
        rw [show 5 * (n - 1 - (n - 1)) + a = a by omega] at this
        exact this
      have vM : M' 147 (a + 1) = nI (Fr t n (n - 1) a) := by
        have := m3 (n - 1) (by omega) a ha
        rw [show 6 * (n - 1 - (n - 1)) + (a + 1) = a + 1 by omega] at this
        exact this
      refine ⟨nI (Fr t n (n - 1) a), C', M', ?_, ?_, c2, m2⟩
      · unfold r9_tune r1_fingersCost
        rw [if_neg z0, if_neg z1, if_neg z2, if_pos rfl, eC, if_neg (nI_ne0 (by omega) (by omega)), c1, Option.bind_some, f1, Option.bind_some, mLd_n (by omega) (by decide), Option.bind_some, Option.bind_some, vC]
      · unfold r10_tune
        rw [if_neg z0, if_neg z1, if_neg z2, if_pos rfl, m1, Option.bind_some, if_pos (by decide), m2 119 (by decide), (Mrow M hM).1, if_neg (nI_ne0 (by omega) (by omega)), f2, Option.bind_some, mLd_n (by omega) (by decide), Option.bind_some, Option.bind_some, vM]
  by_cases c : x0 < 10
  · refine ex2 (v := -1) (v' := -1) (I1 := I) (I2 := mW I 119 0 0) ?_ ?_ rfl (Inv_told 0 h)
    · unfold r9_tune
      rw [if_neg z0, if_neg z1, if_neg z2, if_neg z3, if_pos c, Option.bind_some]
    · unfold r10_tune
      rw [if_neg z0, if_neg z1, if_neg z2, if_neg z3, isIn_0a c, if_pos rfl]
  obtain ⟨m, hm, rfl⟩ := nI_of (lt0_of (c := 10) (by decide) c)
  have m10 : 10 ≤ m := by
    rw [nI_ltk 10 10 rfl (by decide) hm] at c
    omega
  have e10 : nI m - 10 = nI (m - 10) := nI_sub (b := 10) m10
  have e9 : (9 : Int32) + nI n = nI (9 + n) := nI_addl rfl
  by_cases d : n ≤ m - 10
  · refine ex2 (v := -1) (v' := -1) (I1 := I) (I2 := mW I 119 0 0) ?_ ?_ rfl (Inv_told 0 h)
    · unfold r9_tune
      rw [if_neg z0, if_neg z1, if_neg z2, if_neg z3, if_neg c, e10, eC, if_pos (nI_le d (by omega)), Option.bind_some]
    · unfold r10_tune
      rw [if_neg z0, if_neg z1, if_neg z2, if_neg z3, en, e9, isIn_0b (nI_lt (by omega) hm), if_pos rfl]
  · refine fin_rows h 33 147 (by omega) (by omega) (fun M hM => ?_)
    obtain ⟨C', c1, c2, c3⟩ := fingC hn eC htC
    obtain ⟨M', m1, m2, m3⟩ := fingM hn (Mrow M hM).1 (htm M hM)
    obtain ⟨a, ha, f1, f2⟩ := first_e hn (by omega) (fun i hi => (htM i hi).1) c3 m3
    have tt : ∀ i, i < 16 → t i ≤ 60 ∧ C' 28 i = nI (t i) ∧ M' 146 i = nI (t i) := fun i hi => ⟨(htM i hi).1, by rw [c2 28 (by decide)]; exact (htC i hi).2, by rw [m2 146 (by decide)]; exact (htm M hM i hi).2⟩
    obtain ⟨x, y, q1, q2, g, hg, ex, ey⟩ := loop2x (fun f k (x : Int32) => l1_fingerOf_11 C' (nI (m - 10)) f x (nI k)) (fun f k (y : Int32) => l10_fingerOf_7 M' (nI (m - 10)) f y (nI k)) (fun k x y => ∃ a, a < 5 ∧ x = nI a ∧ y = nI (a + 1)) (fun x y => ∃ a, a < 5 ∧ x = nI a ∧ y = nI (a + 1)) (m - 10)
      (fun x y h => ⟨x, y, fun f => by show l1_fingerOf_11 _ _ (f + 1) _ _ = _; rw [l1_fingerOf_11, if_pos (by rw [i32_le]; omega)], fun f => by show l10_fingerOf_7 _ _ (f + 1) _ _ = _; rw [l10_fingerOf_7, if_pos (by rw [i32_le]; omega)], h⟩)
      (fun k x y hk ⟨a, ha, ex, ey⟩ => by
        obtain ⟨g, hg, g1, g2⟩ := next_e hn tt c3 m3 (i := k) (a := a) (by omega) ha
        refine .inr ⟨nI g, nI (g + 1), fun f _ => ?_, fun f _ => ?_, g, hg, rfl, rfl⟩
        · show l1_fingerOf_11 _ _ (f + 1) _ _ = _
          rw [l1_fingerOf_11, if_neg (nI_ge hk (by omega)), nI_1, c2 27 (by decide), eC, if_neg (nI_ge (by omega) (by omega)), ex, g1, Option.bind_some]
        · show l10_fingerOf_7 _ _ (f + 1) _ _ = _
          rw [l10_fingerOf_7, if_neg (nI_ge hk (by omega)), ey, g2, Option.bind_some, nI_1]) (m - 10) 0 FU FU (nI a) (nI (a + 1)) (by omega) (FU_lt (by omega)) (FU_lt (by omega)) ⟨a, ha, rfl, rfl⟩
    refine ⟨nI (g + 1), C', M', ?_, ?_, c2, m2⟩
    · unfold r9_tune r1_fingerOf
      rw [if_neg z0, if_neg z1, if_neg z2, if_neg z3, if_neg c, e10, eC, if_neg (nI_ge (by omega) (by omega)), c1, Option.bind_some, f1, Option.bind_some, show l1_fingerOf_11 C' (nI (m - 10)) FU (nI a) 0 = some x from q1, Option.bind_some, Option.bind_some, Option.bind_some, ex, nI_1]
    · unfold r10_tune r10_fingerOf
      rw [if_neg z0, if_neg z1, if_neg z2, if_neg z3, hM 119 (by decide), en, e9, isIn_1 c (nI_nlt (by omega) (by omega)), if_neg one_n0, m1, Option.bind_some, if_neg (show ¬ nI m ≤ (3 : Int32) from nI_ge (a := 3) (by omega) hm), e10, f2, Option.bind_some, show l10_fingerOf_7 M' (nI (m - 10)) FU (nI (a + 1)) 0 = some y from q2, Option.bind_some, Option.bind_some, Option.bind_some, ey]

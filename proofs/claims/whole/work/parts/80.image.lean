/-! AN IMAGE -/
def cellOf (t : Nat) : Nat × Nat := if t < 47 then (120, t) else if t < 54 then (119, [6, 7, 37, 39, 41, 48, 53].getD (t - 47) 0) else if t < 102 then ([123, 124, 125, 141].getD ((t - 54) % 4) 0, (t - 54) / 4) else if t < 114 then (126 + (t - 102) % 2, (t - 102) / 2) else if t < 122 then (149, t - 114) else if t < 138 then (146, t - 122) else if t < 165 then (150 + (t - 138) % 3, (t - 138) / 3) else if t < 309 then (139, t - 165) else if t < 357 then (140, t - 309) else if t < 957 then (128, t - 357) else if t < 958 then (131, 0) else if t < 1022 then (132 + (t - 958) % 4, (t - 958) / 4) else (136 + (t - 1022) % 2, (t - 1022) / 2)
def posOf (a i : Nat) : Nat := if a = 120 then i else if a = 123 then (54 + 4 * i) else if a = 124 then (55 + 4 * i) else if a = 125 then (56 + 4 * i) else if a = 141 then (57 + 4 * i) else if a = 126 then (102 + 2 * i) else if a = 127 then (103 + 2 * i) else if a = 149 then (114 + i) else if a = 146 then (122 + i) else if a = 150 then (138 + 3 * i) else if a = 151 then (139 + 3 * i) else if a = 152 then (140 + 3 * i) else if a = 139 then (165 + i) else if a = 140 then (309 + i) else if a = 128 then (357 + i) else if a = 131 then 957 else if a = 132 then (958 + 4 * i) else if a = 133 then (959 + 4 * i) else if a = 134 then (960 + 4 * i) else if a = 135 then (961 + 4 * i) else if a = 136 then (1022 + 2 * i) else if a = 137 then (1023 + 2 * i) else if i = 6 then 47 else if i = 7 then 48 else if i = 37 then 49 else if i = 39 then 50 else if i = 41 then 51 else if i = 48 then 52 else 53
theorem unf_pos (V : Nat → Int32) (a i : Nat) : unf V a i = V (posOf a i) := by
  unfold unf posOf
  simp only [apply_ite V]
theorem cell_ok2 : ∀ a, a < 43 → ∀ b, b < 43 → 43 * a + b < 1822 → (posOf (cellOf (43 * a + b)).1 (cellOf (43 * a + b)).2 = 43 * a + b ∧ (cellOf (43 * a + b)).1 ≠ 154 ∧ ¬ ((cellOf (43 * a + b)).1 = 119 ∧ ((cellOf (43 * a + b)).2 = 58 ∨ (cellOf (43 * a + b)).2 = 60))) := by decide +kernel
theorem cell_ok {t : Nat} (h : t < 1822) : posOf (cellOf t).1 (cellOf t).2 = t ∧ (cellOf t).1 ≠ 154 ∧ ¬ ((cellOf t).1 = 119 ∧ ((cellOf t).2 = 58 ∨ (cellOf t).2 = 60)) := by
  have := cell_ok2 (t / 43) (by omega) (t % 43) (by omega)
  rw [show 43 * (t / 43) + t % 43 = t by omega] at this
  exact this h
theorem cell_inj {t j : Nat} (ht : t < 1822) (hj : j < 1822) (h : cellOf j = cellOf t) : j = t := by
  rw [← (cell_ok ht).1, ← (cell_ok hj).1, h]
abbrev mRow (a : Nat) : Prop := a = 119 ∨ a = 120 ∨ (123 ≤ a ∧ a ≤ 128) ∨ (131 ≤ a ∧ a ≤ 137) ∨ (139 ≤ a ∧ a ≤ 141) ∨ a = 146 ∨ (149 ≤ a ∧ a ≤ 152) ∨ a = 154
abbrev mFld (k : Nat) : Prop := k = 6 ∨ k = 7 ∨ k = 37 ∨ k = 39 ∨ k = 41 ∨ k = 48 ∨ k = 53 ∨ k = 60
def mRb (a : Nat) : Bool := a == 119 || a == 120 || (decide (123 ≤ a) && decide (a ≤ 128)) || (decide (131 ≤ a) && decide (a ≤ 137)) || (decide (139 ≤ a) && decide (a ≤ 141)) || a == 146 || (decide (149 ≤ a) && decide (a ≤ 152)) || a == 154
def mFb (k : Nat) : Bool := k == 6 || k == 7 || k == 37 || k == 39 || k == 41 || k == 48 || k == 53 || k == 60
theorem mRb_t {a : Nat} (h : mRb a = true) : mRow a := by
  unfold mRb at h
  simp only [Bool.or_eq_true, Bool.and_eq_true, decide_eq_true_eq, beq_iff_eq] at h
  unfold mRow
  omega
theorem mFb_t {a : Nat} (h : mFb a = true) : mFld a := by
  unfold mFb at h
  simp only [Bool.or_eq_true, Bool.and_eq_true, decide_eq_true_eq, beq_iff_eq] at h
  unfold mFld
  omega
theorem cell_row2 : ∀ a, a < 43 → ∀ b, b < 43 → 43 * a + b < 1822 → (mRb (cellOf (43 * a + b)).1 = true ∧ ((cellOf (43 * a + b)).1 = 119 → mFb (cellOf (43 * a + b)).2 = true ∧ (cellOf (43 * a + b)).2 ≠ 60)) := by decide +kernel
theorem cell_row {t : Nat} (h : t < 1822) : mRow (cellOf t).1 ∧ ((cellOf t).1 = 119 → mFld (cellOf t).2 ∧ (cellOf t).2 ≠ 60) := by
  have := cell_row2 (t / 43) (by omega) (t % 43) (by omega)
  rw [show 43 * (t / 43) + t % 43 = t by omega] at this
  obtain ⟨a, b⟩ := this h
  exact ⟨mRb_t a, fun e => ⟨mFb_t (b e).1, (b e).2⟩⟩
def KP (w : Int32) (Z : mI) (t : Nat) (J : mI) : Prop := J 119 58 = w ∧ J 119 60 = nI t ∧ (∀ j, j < t → J (cellOf j).1 (cellOf j).2 = J 154 j) ∧ (∀ a, ¬ mRow a → J a = Z a) ∧ (∀ k, ¬ mFld k → J 119 k = Z 119 k) ∧ (w = 0 → J 154 = Z 154) ∧ (w = 1 → (∀ a, a ≠ 119 → a ≠ 154 → J a = Z a) ∧ (∀ k, k ≠ 60 → J 119 k = Z 119 k))
theorem mW_id {I : mI} {a i : Nat} {x : Int32} (h : I a i = x) : mW I a i x = I := by
  rw [mW_0, mU_same h, mU_self]
theorem kst1 {w : Int32} {Z J : mI} {t a i : Nat} (hw : w = 0 ∨ w = 1) (h : KP w Z t J) (ht : t < 1822) (hc : cellOf t = (a, i)) : ∃ x J1, r10_keeps J (J a i) = some (x, J1) ∧ KP w Z (t + 1) (mW J1 a i x) := by
  obtain ⟨h58, h60, hd, hr, hk, h0, h1⟩ := h
  obtain ⟨p1, p2, p3⟩ := cell_ok ht
  obtain ⟨m1, m2⟩ := cell_row ht
  rw [hc] at p1 p2 p3 m1 m2
  have p2 : a ≠ 154 := p2
  have p3 : ¬ (a = 119 ∧ (i = 58 ∨ i = 60)) := p3
  have m1 : mRow a := m1
  have m2 : a = 119 → mFld i ∧ i ≠ 60 := m2
  have r119 : ∀ z : mI, ¬ mRow 119 → False := fun _ q => q (by decide)
  have ld : mLd (mW J 119 60 (nI t + 1)) 154 2300 (nI t + 1 - 1) = some (J 154 t) := by
    rw [nI_a1s1, mLd_n (by omega) (by decide), mW_ne _ _ _ (by decide)]
  have st : ∀ x, mSto (mW J 119 60 (nI t + 1)) 154 2300 (nI t + 1 - 1) x = some (mW (mW J 119 60 (nI t + 1)) 154 t x) := fun x => by
    rw [nI_a1s1, mSto_n (by omega) (by decide)]
  rcases hw with rfl | rfl
  · refine ⟨J 154 t, mW J 119 60 (nI (t + 1)), ?_, ?_⟩
    · unfold r10_keeps
      rw [h58, if_pos rfl, h60, ld, Option.bind_some, nI_1]
    · have e154 : (mW (mW J 119 60 (nI (t + 1))) a i (J 154 t)) 154 = J 154 := by rw [mW_ne _ _ _ (fun q => p2 q.symm), mW_ne _ _ _ (by decide)]
      refine ⟨?_, ?_, fun j hj => ?_, fun b hb => ?_, fun k hb => ?_, fun _ => by rw [e154, h0 rfl], fun q => absurd q (by decide)⟩
      · rw [mW_rd, mW_rd]
        by_cases z : 119 = a ∧ 58 = i
        · exact absurd ⟨z.1.symm, .inl z.2.symm⟩ p3
        · by_cases z1 : 119 = a
          · rw [if_pos z1, if_neg (fun q => z ⟨z1, q⟩), if_pos rfl, if_neg (by decide), h58]
          · rw [if_neg z1, if_pos rfl, if_neg (by decide), h58]
      · rw [mW_rd]
        by_cases z1 : 119 = a
        · rw [if_pos z1, if_neg (fun q => p3 ⟨z1.symm, .inr q.symm⟩), mW_at]
        · rw [if_neg z1, mW_at]
      · rw [e154]
        by_cases e : j = t
        · subst e
          rw [hc]
          exact mW_at _ _ _ _
        · have ne : ¬ ((cellOf j).1 = a ∧ (cellOf j).2 = i) := fun q => e (cell_inj ht (by omega) (by rw [hc]; exact Prod.ext q.1 q.2))
          have n60 : ¬ ((cellOf j).1 = 119 ∧ (cellOf j).2 = 60) := fun q => (cell_ok (show j < 1822 by omega)).2.2 ⟨q.1, .inr q.2⟩
          rw [← hd j (by omega), mW_rd]
          by_cases z1 : (cellOf j).1 = a
          · rw [if_pos z1, if_neg (fun q => ne ⟨z1, q⟩), mW_rd]
            by_cases z2 : (cellOf j).1 = 119
            · rw [if_pos z2, if_neg (fun q => n60 ⟨z2, q⟩)]
            · rw [if_neg z2]
          · rw [if_neg z1, mW_rd]
            by_cases z2 : (cellOf j).1 = 119
            · rw [if_pos z2, if_neg (fun q => n60 ⟨z2, q⟩)]
            · rw [if_neg z2]
      · rw [mW_ne _ _ _ (fun q => hb (by rw [q]; exact m1)), mW_ne _ _ _ (fun q => hb (by rw [q]; decide)), hr b hb]
      · rw [mW_rd]
        by_cases z1 : 119 = a
        · rw [if_pos z1, if_neg (fun q => hb (by rw [q]; exact (m2 z1.symm).1)), mW_off _ _ (fun q => hb (by rw [q]; decide)), hk k hb]
        · rw [if_neg z1, mW_off _ _ (fun q => hb (by rw [q]; decide)), hk k hb]
  · have e1 : (mW (mW J 119 60 (nI (t + 1))) 154 t (J a i)) a i = J a i := by
      rw [mW_ne _ _ _ p2, mW_rd]
      by_cases z1 : a = 119
      · rw [if_pos z1, if_neg (fun q => p3 ⟨z1, .inr q⟩)]
      · rw [if_neg z1]
    refine ⟨J a i, mW (mW J 119 60 (nI (t + 1))) 154 t (J a i), ?_, ?_⟩
    · unfold r10_keeps
      rw [h58, if_neg one_n0, h60, st, Option.bind_some, nI_1]
    · rw [mW_id e1]
      have rr : ∀ b, b ≠ 119 → b ≠ 154 → (mW (mW J 119 60 (nI (t + 1))) 154 t (J a i)) b = J b := fun b h1 h2 => by rw [mW_ne _ _ _ h2, mW_ne _ _ _ h1]
      have r9 : ∀ k, k ≠ 60 → (mW (mW J 119 60 (nI (t + 1))) 154 t (J a i)) 119 k = J 119 k := fun k h1 => by rw [mW_ne _ _ _ (by decide), mW_off _ _ h1]
      refine ⟨by rw [r9 58 (by decide), h58], ?_, fun j hj => ?_, fun b hb => ?_, fun k hb => ?_, fun q => absurd q one_n0, fun _ => ⟨fun b q1 q2 => by rw [rr b q1 q2, (h1 rfl).1 b q1 q2], fun k q => by rw [r9 k q, (h1 rfl).2 k q]⟩⟩
      · rw [mW_ne _ _ _ (by decide), mW_at]
      · have n60 : ¬ ((cellOf j).1 = 119 ∧ (cellOf j).2 = 60) := fun q => (cell_ok (show j < 1822 by omega)).2.2 ⟨q.1, .inr q.2⟩
        have n154 := (cell_ok (show j < 1822 by omega)).2.1
        have ec : (mW (mW J 119 60 (nI (t + 1))) 154 t (J a i)) (cellOf j).1 (cellOf j).2 = J (cellOf j).1 (cellOf j).2 := by
          rw [mW_ne _ _ _ n154, mW_rd]
          by_cases z2 : (cellOf j).1 = 119
          · rw [if_pos z2, if_neg (fun q => n60 ⟨z2, q⟩)]
          · rw [if_neg z2]
        rw [ec]
        by_cases e : j = t
        · subst e
          rw [hc, mW_at]
        · rw [mW_off _ _ e, mW_ne _ _ _ (by decide), hd j (by omega)]
      · rw [rr b (fun q => hb (by rw [q]; decide)) (fun q => hb (by rw [q]; decide)), hr b hb]
      · rw [r9 k (fun q => hb (by rw [q]; decide)), hk k hb]
theorem kst {α : Type} {w : Int32} {Z J : mI} {t a i N : Nat} (hw : w = 0 ∨ w = 1) (h : KP w Z t J) (ht : t < 1822) (hc : cellOf t = (a, i)) (hi : i < N) (hN : N < 2 ^ 31) : ∃ J', KP w Z (t + 1) J' ∧ ∀ K : mI → Option α, ((mLd J a N (nI i)).bind fun z0 => (r10_keeps J z0).bind fun z1 => (mSto z1.2 a N (nI i) z1.1).bind fun z2 => K z2) = K J' := by
  obtain ⟨x, J1, q, h'⟩ := kst1 hw h ht hc
  refine ⟨_, h', fun K => ?_⟩
  rw [mLd_n hi hN, Option.bind_some, q, Option.bind_some, mSto_n hi hN, Option.bind_some]
/-- a loop of one, two, three or four cells a round -/
theorem kloop {w : Int32} {Z : mI} (L : Nat → Int32 → mI → Option mI) (t0 c N : Nat) (hN : N < 10000) (hend : ∀ f I, L (f + 1) (nI N) I = some I) (hstep : ∀ k I, k < N → KP w Z (t0 + c * k) I → ∃ I', KP w Z (t0 + c * k + c) I' ∧ ∀ f, L (f + 1) (nI k) I = L f (nI (k + 1)) I') {J : mI} (h : KP w Z t0 J) : ∃ J', L FU 0 J = some J' ∧ KP w Z (t0 + c * N) J' := by
  exact loop1 (fun f k (a : mI) => L f (nI k) a) (fun k a => KP w Z (t0 + c * k) a) (fun a => KP w Z (t0 + c * N) a) N
    (fun a ha => ⟨a, fun f => hend f a, ha⟩)
    (fun k a hk ha => by
      obtain ⟨I', h1, h2⟩ := hstep k a hk ha
      exact .inr ⟨I', fun f _ => h2 f, by rw [Nat.mul_succ, ← Nat.add_assoc]; exact h1⟩) N 0 FU J (by omega) (FU_lt hN) h

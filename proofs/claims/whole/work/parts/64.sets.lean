/-! OPS THAT SET -/
theorem one_n0 : ¬ ((1 : Int32) = 0) := by decide
theorem zero_0 : (0 : Int32) = 0 := rfl
theorem m1_m1 : (-1 : Int32) = -1 := rfl
theorem mW_rd (I : mI) (a i : Nat) (x : Int32) (b j : Nat) : mW I a i x b j = if b = a then (if j = i then x else I b j) else I b j := by
  unfold mW mU
  by_cases h : b = a
  · rw [if_pos h, if_pos h, h]
  · rw [if_neg h, if_neg h]
theorem nI_m1 {k : Nat} (h : k < 2 ^ 31) : ¬ nI k = -1 := by
  rw [i32_eq, nI_toInt h, show (-1 : Int32).toInt = -1 by decide]
  omega
theorem nI_a1s1 (k : Nat) : nI k + 1 - 1 = nI k := by rw [nI_1, nI_pred]
theorem nI_lts {p n : Nat} (hn : n ≤ 1000) (hp : p < 12) (h : nI p < nI n) : nI p < nI (n + 1) := by
  rw [i32_lt] at h ⊢
  rw [nI_toInt (by omega), nI_toInt (by omega)] at h ⊢
  omega
theorem nI_les {p n : Nat} (hn : n ≤ 1000) (hp : p < 12) (h : nI (n + 1) ≤ nI p) : nI n ≤ nI p := by
  rw [i32_le] at h ⊢
  rw [nI_toInt (by omega), nI_toInt (by omega)] at h ⊢
  omega
theorem RelP_mono {f c : Nat → Int32} {m : Int32} {g : Nat → Int32} {np nq np' nq' : Int32} (h : RelP f c m np nq g) (h1 : ∀ p, p < 12 → nI p < np → nI p < np') (h2 : ∀ p, p < 12 → nI p < nq → nI p < nq') : RelP f c m np' nq' g := by
  obtain ⟨n, a, b, d, e⟩ := h
  refine ⟨n, a, b, d, fun l hl => ?_⟩
  obtain ⟨e1, ⟨p, hp, hpq, e2, e3⟩, q, q1, q2, e4, e5, e6⟩ := e l hl
  refine ⟨e1, ⟨p, hp, h2 p (by omega) hpq, e2, e3⟩, q, q1, q2, e4, e5, fun j hj => ?_⟩
  obtain ⟨p', u1, u2, u3, u4⟩ := e6 j hj
  exact ⟨p', u1, h1 _ u1 u2, u3, u4⟩
theorem RelL_mono {f c : Nat → Int32} {m : Int32} {g : Nat → Int32} {np np' : Int32} (h : RelL f c m np g) (h1 : ∀ p, p < 12 → nI p < np → nI p < np') : RelL f c m np' g := by
  obtain ⟨n, a, b, d, e, e2⟩ := h
  refine ⟨n, a, b, d, fun l hl => ?_, e2⟩
  obtain ⟨x, y, u1, u2, u3, u4, u5, u6, u7⟩ := e l hl
  exact ⟨x, y, u1, u2, u3, h1 _ u1 u4, h1 _ u2 u5, u6, u7⟩
theorem mU_same {f : Nat → Int32} {k : Nat} {x : Int32} (h : f k = x) : mU f k x = f := by rw [← h, mU_self]
theorem bd_of {x : Int32} {n : Nat} {M : Int32} (hM : M.toInt = n) (h : ¬ x < 0) (h5 : ¬ M < x) : bd x n := by
  obtain ⟨j, hj, e⟩ := nI_of2 hM h (by rw [i32_le]; rw [i32_lt] at h5; omega)
  exact ⟨j, hj, e⟩
theorem lt0_of {x : Int32} {c : Int32} (hc : 0 ≤ c.toInt) (h : ¬ x < c) : ¬ x < 0 := by
  rw [i32_lt] at h ⊢
  rw [show (0 : Int32).toInt = 0 by decide]
  omega
theorem nI_eqk {k : Nat} (j : Nat) (c : Int32) (hc : c = nI j) (hj : j < 2 ^ 31) (hk : k < 2 ^ 31) : nI k = c ↔ k = j := by rw [hc]; exact nI_eq hk hj
theorem nI_ltk {k : Nat} (j : Nat) (c : Int32) (hc : c = nI j) (hj : j < 2 ^ 31) (hk : k < 2 ^ 31) : nI k < c ↔ k < j := by rw [hc]; exact nI_ltI hk hj
theorem Inv_U0 {I J : mI} {s : Nat} (h : Inv I s) (hW : RelW J J) (h2 : J 77 2 = 0) (h3 : J 119 3 = 0) (h1 : J 77 1 = I 77 1) (hI : RelI (J 0 3) (J 119 59) (fun k => J (k + 42)) (unf (J 154))) (hT : RelT (J 109 1) (J 119 15) (J 110) (J 129)) (hF : J 109 11 = J 119 35 ∧ J 109 12 = J 119 36) (hC : J 119 5 = 0 ∧ eqOn 143 (J 130) (fun k => mWords.getD k 0)) : Inv J s := by
  obtain ⟨f, hf, ef⟩ := RelU_first h.2.1
  exact ⟨hW, RelU_zero hf h2 h3 (by rw [h1, ef]), hI, hT, hF, hC, h.2.2.2.2.2.2⟩
theorem op_piece : S_piece Inv := by
  intro I s h x0 x1 x2
  obtain ⟨np, nq, hp, hq, e1, e2, e3, e4⟩ := RelC_n h.1
  have fail : r9_piece I x0 x1 x2 = some (-1, I) → r10_piece I x0 x1 x2 = some (-1, mW I 119 0 0) → ∃ v I1 I2, r9_piece I x0 x1 x2 = some (v, I1) ∧ r10_piece I1 x0 x1 x2 = some (v, I2) ∧ Inv I2 s := fun g1 g2 => ⟨-1, I, _, g1, g2, Inv_told 0 h⟩
  unfold r9_piece r0_addPiece r10_piece r0_isGrade r10_isIn at *
  by_cases c1 : x0 < 1
  · exact fail (by simp only [if_pos c1, Option.bind_some, reduceIte]) (by simp only [if_pos c1, reduceIte])
  by_cases c2 : (30 : Int32) < x0
  · exact fail (by simp only [if_neg c1, if_pos c2, Option.bind_some, reduceIte]) (by simp only [if_neg c1, if_pos c2, reduceIte])
  by_cases c3 : x1 < 0
  · exact fail (by simp only [if_neg c1, if_neg c2, if_pos c3, Option.bind_some, reduceIte, reduceIte]) (by simp only [if_neg c1, if_neg c2, if_pos c3, if_neg one_n0, reduceIte])
  by_cases c4 : (9 : Int32) < x1
  · exact fail (by simp only [if_neg c1, if_neg c2, if_neg c3, if_pos c4, Option.bind_some, reduceIte, reduceIte]) (by simp only [if_neg c1, if_neg c2, if_neg c3, if_pos c4, if_neg one_n0, reduceIte])
  by_cases c5 : x2 < 0
  · exact fail (by simp only [if_neg c1, if_neg c2, if_neg c3, if_neg c4, if_pos c5, Option.bind_some, reduceIte, reduceIte, if_neg one_n0]) (by simp only [if_neg c1, if_neg c2, if_neg c3, if_neg c4, if_pos c5, if_neg one_n0, reduceIte])
  by_cases c6 : (9 : Int32) < x2
  · exact fail (by simp only [if_neg c1, if_neg c2, if_neg c3, if_neg c4, if_neg c5, if_pos c6, Option.bind_some, reduceIte, reduceIte, if_neg one_n0]) (by simp only [if_neg c1, if_neg c2, if_neg c3, if_neg c4, if_neg c5, if_pos c6, if_neg one_n0, reduceIte])
  by_cases c7 : np = 12
  · have c7a : ¬ (nI np < 12) := by rw [nI_ltk 12 12 rfl (by decide) (by omega)]; omega
    have c7b : nI np = 12 := by rw [c7]; rfl
    exact fail (by simp only [if_neg c1, if_neg c2, if_neg c3, if_neg c4, if_neg c5, if_neg c6, e1, if_neg c7a, Option.bind_some, reduceIte, if_neg one_n0]) (by simp only [if_neg c1, if_neg c2, if_neg c3, if_neg c4, if_neg c5, if_neg c6, if_neg one_n0, e2, if_pos c7b])
  clear fail
  have c7a : nI np < 12 := by rw [nI_ltk 12 12 rfl (by decide) (by omega)]; omega
  have c7b : ¬ nI np = 12 := by rw [nI_eqk 12 12 rfl (by decide) (by omega)]; exact c7
  have i12 : np < 12 := by omega
  refine ⟨nI np, mW (mW (mW (mW (mW I 9 np x0) 10 np x1) 11 np x2) 8 6 (nI np + 1)) 77 2 0, mW (mW (mW (mW (mW (mW (mW (mW (mW (mW (mW (mW (mW I 9 np x0) 10 np x1) 11 np x2) 8 6 (nI np + 1)) 77 2 0) 119 0 0) 123 np x0) 124 np x1) 125 np x2) 120 (17 + np) 0) 120 (29 + np) 0) 119 6 (nI np + 1)) 119 3 0, ?_, ?_, ?_⟩
  · simp only [if_neg c1, if_neg c2, if_neg c3, if_neg c4, if_neg c5, if_neg c6, if_neg one_n0, e1, if_pos c7a, mSto_n i12 (show 12 < 2 ^ 31 by decide), Option.bind_some, mW_rd, Nat.reduceEqDiff, reduceIte, nI_a1s1, if_neg (nI_m1 (show np < 2 ^ 31 by omega)), r3_forget]
  · simp only [if_neg c1, if_neg c2, if_neg c3, if_neg c4, if_neg c5, if_neg c6, if_neg one_n0, e2, mW_rd, Nat.reduceEqDiff, reduceIte, if_neg c7b, mSto_n i12 (show 12 < 2 ^ 31 by decide), Option.bind_some, nI_addl (show (17 : Int32) = nI 17 by decide), nI_addl (show (29 : Int32) = nI 29 by decide), mSto_n (show 17 + np < 47 by omega) (show 47 < 2 ^ 31 by decide), mSto_n (show 29 + np < 47 by omega) (show 47 < 2 ^ 31 by decide), nI_a1s1]
  · obtain ⟨⟨hS, s1, s2, s3, s4⟩, ⟨⟨r1, r2, r3, r4, r5, r6, r7⟩, w1, w2, w3, w4, w5, w6, w7⟩, hP, hK, hL, hLaw, hD, hB⟩ := h.1
    rw [e2] at s3 hP hL
    rw [e4] at s4
    have hz : mU (mU (I 120) (17 + np) 0) (29 + np) 0 = I 120 := by
      have q := s3 np i12 (nI_le (Nat.le_refl _) (by omega))
      rw [mU_same q.1, mU_same q.2]
    refine Inv_U0 h ?_ rfl rfl rfl h.2.2.1 h.2.2.2.1 h.2.2.2.2.1 h.2.2.2.2.2.1
    refine ⟨⟨?_, ?_⟩, ⟨⟨rfl, r2, eqOn_up r3 _ _, eqOn_up r4 _ _, eqOn_up r5 _ _, r6, r7⟩, ⟨np + 1, by omega, nI_1 np⟩, w2, up_all (P := fun x => bd x 30) w3 np (bd_of (by decide) (lt0_of (by decide) c1) c2), up_all (P := fun x => bd x 9) w4 np (bd_of (by decide) c3 c4), up_all (P := fun x => bd x 9) w5 np (bd_of (by decide) c5 c6), w6, w7⟩, ?_, hK, ?_, hLaw, hD, hB⟩
    · show RelS _ _ _ _ _ (mU (mU (I 120) (17 + np) 0) (29 + np) 0)
      rw [hz]; exact hS
    · show WfS (mU (mU (I 120) (17 + np) 0) (29 + np) 0) (nI np + 1) (I 119 7)
      rw [hz, e4, nI_1]
      exact ⟨s1, s2, fun k hk e => s3 k hk (nI_les (by omega) (by omega) e), s4⟩
    · show RelP _ _ _ (nI np + 1) _ _
      rw [nI_1]
      exact RelP_mono hP (fun p hp => nI_lts (by omega) hp) (fun p hp => id)
    · show RelL _ _ _ (nI np + 1) _
      rw [nI_1]
      exact RelL_mono hL (fun p hp => nI_lts (by omega) hp)
theorem op_player : S_player Inv := by
  intro I s h x0 x1
  obtain ⟨np, nq, hp, hq, e1, e2, e3, e4⟩ := RelC_n h.1
  have fail : r9_player I x0 x1 = some (-1, I) → r10_player I x0 x1 = some (-1, mW I 119 0 0) → ∃ v I1 I2, r9_player I x0 x1 = some (v, I1) ∧ r10_player I1 x0 x1 = some (v, I2) ∧ Inv I2 s := fun g1 g2 => ⟨-1, I, _, g1, g2, Inv_told 0 h⟩
  unfold r9_player r0_addPlayer r10_player r0_isGrade r10_isIn at *
  by_cases c3 : x0 < 0
  · exact fail (by simp only [if_pos c3, Option.bind_some, reduceIte, reduceIte]) (by simp only [if_pos c3, if_neg one_n0, reduceIte])
  by_cases c4 : (9 : Int32) < x0
  · exact fail (by simp only [if_neg c3, if_pos c4, Option.bind_some, reduceIte, reduceIte]) (by simp only [if_neg c3, if_pos c4, if_neg one_n0, reduceIte])
  by_cases c5 : x1 < 0
  · exact fail (by simp only [if_neg c3, if_neg c4, if_pos c5, Option.bind_some, reduceIte, reduceIte, if_neg one_n0]) (by simp only [if_neg c3, if_neg c4, if_pos c5, if_neg one_n0, reduceIte])
  by_cases c6 : (9 : Int32) < x1
  · exact fail (by simp only [if_neg c3, if_neg c4, if_neg c5, if_pos c6, Option.bind_some, reduceIte, reduceIte, if_neg one_n0]) (by simp only [if_neg c3, if_neg c4, if_neg c5, if_pos c6, if_neg one_n0, reduceIte])
  by_cases c7 : nq = 6
  · have c7a : ¬ (nI nq < 6) := by rw [nI_ltk 6 6 rfl (by decide) (by omega)]; omega
    have c7b : nI nq = 6 := by rw [c7]; rfl
    exact fail (by simp only [if_neg c3, if_neg c4, if_neg c5, if_neg c6, e3, if_neg c7a, Option.bind_some, reduceIte, if_neg one_n0]) (by simp only [if_neg c3, if_neg c4, if_neg c5, if_neg c6, if_neg one_n0, e4, if_pos c7b])
  clear fail
  have c7a : nI nq < 6 := by rw [nI_ltk 6 6 rfl (by decide) (by omega)]; omega
  have c7b : ¬ nI nq = 6 := by rw [nI_eqk 6 6 rfl (by decide) (by omega)]; exact c7
  have i12 : nq < 6 := by omega
  refine ⟨nI nq, mW (mW (mW (mW I 12 nq x0) 13 nq x1) 8 7 (nI nq + 1)) 77 2 0, mW (mW (mW (mW (mW (mW (mW (mW (mW (mW I 12 nq x0) 13 nq x1) 8 7 (nI nq + 1)) 77 2 0) 119 0 0) 126 nq x0) 127 nq x1) 120 (41 + nq) 0) 119 7 (nI nq + 1)) 119 3 0, ?_, ?_, ?_⟩
  · simp only [if_neg c3, if_neg c4, if_neg c5, if_neg c6, if_neg one_n0, e3, if_pos c7a, mSto_n i12 (show 6 < 2 ^ 31 by decide), Option.bind_some, mW_rd, Nat.reduceEqDiff, reduceIte, nI_a1s1, if_neg (nI_m1 (show nq < 2 ^ 31 by omega)), r3_forget]
  · simp only [if_neg c3, if_neg c4, if_neg c5, if_neg c6, if_neg one_n0, e4, mW_rd, Nat.reduceEqDiff, reduceIte, if_neg c7b, mSto_n i12 (show 6 < 2 ^ 31 by decide), Option.bind_some, nI_addl (show (41 : Int32) = nI 41 by decide), mSto_n (show 41 + nq < 47 by omega) (show 47 < 2 ^ 31 by decide), nI_a1s1]
  · obtain ⟨⟨hS, s1, s2, s3, s4⟩, ⟨⟨r1, r2, r3, r4, r5, r6, r7⟩, w1, w2, w3, w4, w5, w6, w7⟩, hP, hK, hL, hLaw, hD, hB⟩ := h.1
    rw [e4] at s4 hP
    have hz : mU (I 120) (41 + nq) 0 = I 120 := mU_same (s4 nq i12 (nI_le (Nat.le_refl _) (by omega)))
    refine Inv_U0 h ?_ rfl rfl rfl h.2.2.1 h.2.2.2.1 h.2.2.2.2.1 h.2.2.2.2.2.1
    refine ⟨⟨?_, ?_⟩, ⟨⟨r1, rfl, r3, r4, r5, eqOn_up r6 _ _, eqOn_up r7 _ _⟩, w1, ⟨nq + 1, by omega, nI_1 nq⟩, w3, w4, w5, up_all (P := fun x => bd x 9) w6 nq (bd_of (by decide) c3 c4), up_all (P := fun x => bd x 9) w7 nq (bd_of (by decide) c5 c6)⟩, ?_, hK, hL, hLaw, hD, hB⟩
    · show RelS _ _ _ _ _ (mU (I 120) (41 + nq) 0)
      rw [hz]; exact hS
    · show WfS (mU (I 120) (41 + nq) 0) (I 119 6) (nI nq + 1)
      rw [hz, nI_1]
      exact ⟨s1, s2, s3, fun k hk e => s4 k hk (nI_les (by omega) (by omega) e)⟩
    · show RelP _ _ _ _ (nI nq + 1) _
      rw [nI_1]
      exact RelP_mono hP (fun p hp => id) (fun p hp => nI_lts (by omega) hp)

/-! TEXT: a line of likeness -/
theorem hi_ix {v : Int32} {np : Nat} (hn : np ≤ 1000) (h1 : ¬ v < 0) (h2 : ¬ nI np - 1 < v) : ∃ a, a < np ∧ v = nI a := by
  obtain ⟨a, ha, rfl⟩ := nI_of h1
  refine ⟨a, ?_, rfl⟩
  cases np with
  | zero =>
    exfalso
    exact h2 (by rw [show nI 0 - 1 = -1 by decide, i32_lt, nI_toInt ha]; show (-1 : Int) < a; omega)
  | succ np =>
    rw [nI_pred, nI_ltI (by omega) ha] at h2
    omega
def LikeR (C C' M M' : mI) (l np : Nat) : Prop := FrC C C' ∧ FrM M M' ∧ C' 114 = C 114 ∧ C' 116 = C 116 ∧ (∀ i, ¬ (9 * l ≤ i ∧ i < 9 * l + 9) → C' 115 i = C 115 i) ∧ ∃ a b, a < np ∧ b < np ∧ a ≠ b ∧ C' 115 (9 * l) = nI a ∧ C' 115 (9 * l + 1) = nI b ∧ ∀ i, i < 12 → M' 141 (12 + i) = M 141 (12 + i) ||| (if i = a then (1 : Int32) <<< (nI b &&& 31) else if i = b then (1 : Int32) <<< (nI a &&& 31) else 0)
theorem like_s {C M : mI} {t : Nat → Nat} {n J : Nat} {P : Nat → Nat} {j l np : Nat} (h : Syn C M t n J P j) (hl : l < 16) (e2 : C 114 2 = nI l) (hnp : np ≤ 12) (e8 : C 109 8 = nI np) (e6 : M 119 6 = nI np) : (∃ C' M' j' v, r4_likenessLine C = some (1, C') ∧ r10_readLike M = some (v, M') ∧ ¬ v = -1 ∧ Syn C' M' t n J P j' ∧ LikeR C C' M M' l np) ∨ (∃ C' M', r4_likenessLine C = some (0, C') ∧ r10_readLike M = some (-1, M') ∧ Flt C' M' ∧ FrC C C' ∧ FrM M M') := by
  unfold r4_likenessLine r10_readLike
  have s0 : ∀ i, 12 ≤ i → Sf 141 i := fun i hi => .inr (.inr (.inl ⟨rfl, hi⟩))
  rw [e6]
  rcases told_s h (w := 21) (c := 0) (col := 0) (low := 0) (high := nI np - 1) hl (by decide) (by decide) e2 rfl with ⟨C1, C2, M2, j2, v, p1, p18, _, p2, p3, p4, p5, p6, p7, p8, p9, p10⟩ | ⟨C', M', p1, p2, p3, p4, p5⟩
  · obtain ⟨a, ha, rfl⟩ := hi_ix (by omega) p4 p5
    have vm : ¬ nI a = -1 := nI_m1 (by omega)
    have p1 : r4_pass C 21 = some (1, C1) := p1
    have p3 : r10_readTold M 21 0 (nI np - 1) = some (nI a, M2) := p3
    rw [p1, Option.bind_some]
    dsimp only
    rw [if_neg one_n0, p18, e8, p2, Option.bind_some]
    dsimp only
    rw [if_neg one_n0, p3, Option.bind_some]
    dsimp only
    rw [if_neg vm]
    have F2 : FrC C C2 := ⟨fun a ha => p8 a (by omega) (by omega), fun k a _ _ _ => p9 k a⟩
    have G2 : FrM M M2 := fsM_F p7
    have w26 : r10_isWord M2 26 = if C2 111 j2 = nI 26 then 1 else 0 := word_e p6 (w := 26) (by omega)
    rw [w26]
    by_cases k : C2 111 j2 = nI 26
    · obtain ⟨C3, M3, j3, q1, q2, q3, q4, q5⟩ := pass_y p6 k
      have q1 : r4_pass C2 26 = some (1, C3) := q1
      rw [q1, Option.bind_some]
      dsimp only
      rw [if_neg one_n0, kind_e q3, Option.bind_some, if_pos k, if_neg one_n0, q2, Option.bind_some]
      have F3 : FrC C C3 := FrC_t F2 (fsC_F q4)
      have G3 : FrM M M3 := FrM_t G2 (fsM_F q5)
      have e23 : C3 114 2 = nI l := by rw [q4.1 114 (by decide), p8 114 (by decide) (by decide), e2]
      have e83 : C3 109 8 = nI np := by rw [q4.2 8 (by decide), p9 8 (by decide), e8]
      have e63 : M3 119 6 = nI np := by rw [q5.2 6 (by omega), p7.2 6 (by omega), e6]
      have c115 : C3 115 = mU (C 115) (9 * l + 0) (nI a) := by rw [q4.1 115 (by decide), p10]
      have m141 : M3 141 = M 141 := by rw [q5.1 141 (by decide), p7.1 141 (by decide)]
      have cl : r6_cell_114 C3 (C3 114 2) 0 = some (nI a) := by
        unfold r6_cell_114
        rw [e23, show (9 : Int32) = nI 9 from rfl, nI_mul, Int32.add_zero, if_neg (nI_pos (by omega)), if_neg (show ¬ (144 : Int32) ≤ nI (l * 9) from nI_ge (b := 144) (by omega) (by decide)), mLd_n (by omega) (by decide), Option.bind_some, Option.bind_some, c115, show l * 9 = 9 * l + 0 by omega, mU_eq]
      rw [e83, e63]
      -- the second number
      have second : ¬ (C3 111 j3 = 128 ∧ C3 112 j3 = nI a) → ∃ A B, (((r4_number C3 1 0 (nI np - 1)).bind fun z9 => (if z9.1 = 0 then some (0, z9.2) else (r4_pass z9.2 59).bind fun z11 => if z11.1 = 0 then some (0, z11.2) else some (1, z11.2) : Option (Int32 × mI)).bind fun z10 => some (z10.1 &&& 1, z10.2)) = A) ∧ (((r10_readNumber M3 0 (nI np - 1)).bind fun z8 => if z8.1 = -1 then some (-1, z8.2) else (mLd z8.2 141 24 (12 + nI a)).bind fun z9 => (mSto z8.2 141 24 (12 + nI a) (z9 ||| ((1 : Int32) <<< (z8.1 &&& 31)))).bind fun z10 => (mLd z10 141 24 (12 + z8.1)).bind fun z11 => (mSto z10 141 24 (12 + z8.1) (z11 ||| ((1 : Int32) <<< (nI a &&& 31)))).bind fun z12 => (r10_readMark z12 59).bind fun z13 => some (z13.1, z13.2)) = B) ∧ ((∃ C' M' j' v, A = some (1, C') ∧ B = some (v, M') ∧ ¬ v = -1 ∧ Syn C' M' t n J P j' ∧ LikeR C C' M M' l np) ∨ (∃ C' M', A = some (0, C') ∧ B = some (-1, M') ∧ Flt C' M' ∧ FrC C C' ∧ FrM M M')) := by
        intro hne
        refine ⟨_, _, rfl, rfl, ?_⟩
        by_cases g : C3 111 j3 = 128 ∧ ¬ C3 112 j3 < 0 ∧ ¬ nI np - 1 < C3 112 j3
        · obtain ⟨C5, M5, j5, r1, r2, r3, r4, r5, r6, r7⟩ := num_y q3 (c := 1) (col := 1) hl (by decide) e23 rfl g.1 g.2.1 g.2.2
          obtain ⟨b, hb, eb⟩ := hi_ix (by omega) g.2.1 g.2.2
          rw [eb] at r2 r7
          have ab : a ≠ b := fun q => hne ⟨g.1, by rw [eb, q]⟩
          have i1 : (12 : Int32) + nI a = nI (12 + a) := nI_addl rfl
          have i2 : (12 : Int32) + nI b = nI (12 + b) := nI_addl rfl
          rw [r1, Option.bind_some, r2, Option.bind_some]
          dsimp only
          rw [if_neg one_n0, if_neg (nI_m1 (show b < 2 ^ 31 by omega)), i1, i2, mLd_n (by omega) (by decide), Option.bind_some, mSto_n (by omega) (by decide), Option.bind_some, mLd_n (by omega) (by decide), Option.bind_some, mSto_n (by omega) (by decide), Option.bind_some, mW_off _ _ (show 12 + b ≠ 12 + a by omega)]
          have h6 : Syn C5 (mW (mW M5 141 (12 + a) (M5 141 (12 + a) ||| ((1 : Int32) <<< (nI b &&& 31)))) 141 (12 + b) (M5 141 (12 + b) ||| ((1 : Int32) <<< (nI a &&& 31)))) t n J P j5 := Syn_w (Syn_w r3 (by decide)) (by decide)
          have F5 : FrC C C5 := FrC_t F3 ⟨fun a ha => r5 a (by omega) (by omega), fun k a _ _ _ => r6 k a⟩
          have G5 : FrM M (mW (mW M5 141 (12 + a) (M5 141 (12 + a) ||| ((1 : Int32) <<< (nI b &&& 31)))) 141 (12 + b) (M5 141 (12 + b) ||| ((1 : Int32) <<< (nI a &&& 31)))) := FrM_t G3 (FrM_t (fsM_F r4) (FrM_t (FrM_w (s0 _ (by omega)) (by decide)) (FrM_w (s0 _ (by omega)) (by decide))))
          rcases mark_s h6 with ⟨C6, M6, j6, m1, m2, m3, m4, m5⟩ | ⟨C6, M6, m1, m2, m3, m4, m5⟩
          · refine .inl ⟨C6, M6, j6, 0, ?_, ?_, by decide, m3, FrC_t F5 (fsC_F m4), FrM_t G5 (fsM_F m5), by rw [m4.1 114 (by decide), r5 114 (by decide) (by decide), q4.1 114 (by decide), p8 114 (by decide) (by decide)], by rw [m4.1 116 (by decide), r5 116 (by decide) (by decide), q4.1 116 (by decide), p8 116 (by decide) (by decide)], fun i hi => ?_, a, b, ha, hb, ab, ?_, ?_, fun i hi => ?_⟩
            · rw [m1, Option.bind_some]
              dsimp only
              rw [if_neg one_n0, Option.bind_some]
              show some ((1 : Int32) &&& 1, C6) = _
              rw [and1.1]
            · rw [m2, Option.bind_some]
            · rw [m4.1 115 (by decide), r7, mU_ne _ _ (by omega), c115, mU_ne _ _ (by omega)]
            · rw [m4.1 115 (by decide), r7, mU_ne _ _ (by omega), c115, Nat.add_zero, mU_eq]
            · rw [m4.1 115 (by decide), r7, mU_eq]
            · rw [m5.1 141 (by decide)]
              by_cases ib : i = b
              · rw [ib, mW_at, if_neg (fun q => ab q.symm), if_pos rfl, r4.1 141 (by decide), m141]
              · rw [mW_off _ _ (by omega)]
                by_cases ia : i = a
                · rw [ia, mW_at, if_pos rfl, r4.1 141 (by decide), m141]
                · rw [mW_off _ _ (by omega), if_neg ia, if_neg ib, r4.1 141 (by decide), m141, Int32.or_zero]
          · refine .inr ⟨C6, M6, ?_, ?_, m3, FrC_t F5 m4, FrM_t G5 m5⟩
            · rw [m1, Option.bind_some]
              dsimp only
              rw [if_pos rfl, Option.bind_some]
              show some ((0 : Int32) &&& 1, C6) = _
              rw [and1.2]
            · rw [m2, Option.bind_some]
        · obtain ⟨C5, M5, r1, r2, r3, r4, r5⟩ := num_n q3 1 g
          refine .inr ⟨C5, M5, ?_, ?_, r3, FrC_t F3 r4, FrM_t G3 r5⟩
          · rw [r1, Option.bind_some]
            dsimp only
            rw [if_pos rfl, Option.bind_some]
            show some ((0 : Int32) &&& 1, C5) = _
            rw [and1.2]
          · rw [r2, Option.bind_some]
            dsimp only
            rw [if_pos rfl]
      by_cases k128 : C3 111 j3 = 128
      · rw [if_pos k128, value_e q3, Option.bind_some, cl, Option.bind_some, if_pos ((num_e q3).1.mpr k128), (num_e q3).2 k128]
        by_cases sa : C3 112 j3 = nI a
        · obtain ⟨C', M', b1, b2, b3, b4, b5⟩ := blame_e q3 (w := 2) (by decide)
          refine .inr ⟨C', M', ?_, ?_, b3, FrC_t F3 b4, FrM_t G3 b5⟩
          · rw [if_pos sa, b1, Option.bind_some]
            show some ((0 : Int32) &&& 1, C') = _
            rw [and1.2]
          · rw [if_pos sa, b2, Option.bind_some]
        · rw [if_neg sa, if_neg sa]
          obtain ⟨A, B, x, y, r⟩ := second (fun q => sa q.2)
          rw [x, y]; exact r
      · rw [if_neg k128, if_neg (fun q => k128 ((num_e q3).1.mp q))]
        obtain ⟨A, B, x, y, r⟩ := second (fun q => k128 q.1)
        rw [x, y]; exact r
    · obtain ⟨C', M', q1, q2, q3, q4, q5⟩ := pass_n p6 k
      have q1 : r4_pass C2 26 = some (0, C') := q1
      refine .inr ⟨C', M', ?_, ?_, q3, FrC_t F2 q4, FrM_t G2 q5⟩
      · rw [q1, Option.bind_some]
        dsimp only
        rw [if_pos rfl]
      · rw [if_neg k, if_pos rfl, q2, Option.bind_some]
  · have p2 : r10_readTold M 21 0 (nI np - 1) = some (-1, M') := p2
    refine .inr ⟨C', M', ?_, ?_, p3, p4, p5⟩
    · rcases p1 with p1 | ⟨C1, p1, p18, _, p1'⟩
      · have p1 : r4_pass C 21 = some (0, C') := p1
        rw [p1, Option.bind_some]
        dsimp only
        rw [if_pos rfl]
      · have p1 : r4_pass C 21 = some (1, C1) := p1
        rw [p1, Option.bind_some]
        dsimp only
        rw [if_neg one_n0, p18, e8, p1', Option.bind_some]
        dsimp only
        rw [if_pos rfl]
    · rw [p2, Option.bind_some]
      dsimp only
      rw [if_pos rfl]

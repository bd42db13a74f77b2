/-! TEXT: words, numbers and marks in step -/
theorem write_e {C : mI} {l c : Nat} (hl : l < 16) (hc : c < 9) (e2 : C 114 2 = nI l) {k : Int32} (hk : k = nI c) (x : Int32) : r6_write_114 C k x = some (mW C 115 (9 * l + c) x) := by
  unfold r6_write_114
  rw [e2, hk, show (9 : Int32) = nI 9 from rfl, nI_mul, nI_add, Nat.mul_comm l 9, if_neg (nI_pos (by omega)), if_neg (show ¬ (144 : Int32) ≤ nI (9 * l + c) from nI_ge (b := 144) (by omega) (by decide)), mSto_n (by omega) (by decide), Option.bind_some, Option.bind_some]
/-- a step's frame, class's side and reference's -/
def fsC (C C' : mI) : Prop := (∀ a, a ≠ 109 → C' a = C a) ∧ (∀ k, k ≠ 6 → C' 109 k = C 109 k)
def fsM (M M' : mI) : Prop := (∀ a, a ≠ 119 → M' a = M a) ∧ (∀ k, ¬ (16 ≤ k ∧ k ≤ 19) → M' 119 k = M 119 k)
theorem fsC_F {C C' : mI} (h : fsC C C') : FrC C C' := ⟨fun a ha => h.1 a (by omega), fun k h6 _ _ _ => h.2 k h6⟩
theorem fsM_F {M M' : mI} (h : fsM M M') : FrM M M' := ⟨fun a i ha _ => by rw [h.1 a ha], fun k h1 _ => h.2 k h1⟩
theorem and1 : ((1 : Int32) &&& 1) = 1 ∧ ((0 : Int32) &&& 1) = 0 := by decide
theorem pass_y {C M : mI} {t : Nat → Nat} {n J : Nat} {P : Nat → Nat} {j : Nat} (h : Syn C M t n J P j) {κ : Int32} (hk : C 111 j = κ) : ∃ C' M' j', r4_pass C κ = some (1, C') ∧ r10_reads M = some M' ∧ Syn C' M' t n J P j' ∧ fsC C C' ∧ fsM M M' := by
  obtain ⟨C', M', j', s1, s2, s3, _, s5, s6, s7, s8⟩ := step_s h
  refine ⟨C', M', j', ?_, s2, s3, ⟨s5, s6⟩, ⟨s7, s8⟩⟩
  unfold r4_pass
  rw [kind_e h, Option.bind_some, if_pos hk, s1, Option.bind_some]
theorem pass_n {C M : mI} {t : Nat → Nat} {n J : Nat} {P : Nat → Nat} {j : Nat} (h : Syn C M t n J P j) {κ : Int32} (hk : ¬ C 111 j = κ) : ∃ C' M', r4_pass C κ = some (0, C') ∧ r10_errs M 1 = some (-1, M') ∧ Flt C' M' ∧ FrC C C' ∧ FrM M M' := by
  obtain ⟨C', M', b1, b2, b3, b4, b5⟩ := blame_e h (w := 1) (by decide)
  refine ⟨C', M', ?_, b2, b3, b4, b5⟩
  unfold r4_pass
  rw [kind_e h, Option.bind_some, if_neg hk, b1, Option.bind_some]
  show some ((0 : Int32) &&& 1, C') = _
  rw [and1.2]
theorem num_y {C M : mI} {t : Nat → Nat} {n J : Nat} {P : Nat → Nat} {j : Nat} (h : Syn C M t n J P j) {l c : Nat} (hl : l < 16) (hc : c < 9) (e2 : C 114 2 = nI l) {col : Int32} (hcol : col = nI c) {low high : Int32} (hk : C 111 j = 128) (h1 : ¬ C 112 j < low) (h2 : ¬ high < C 112 j) : ∃ C' M' j', r4_number C col low high = some (1, C') ∧ r10_readNumber M low high = some (C 112 j, M') ∧ Syn C' M' t n J P j' ∧ fsM M M' ∧ (∀ a, a ≠ 109 → a ≠ 115 → C' a = C a) ∧ (∀ k, k ≠ 6 → C' 109 k = C 109 k) ∧ C' 115 = mU (C 115) (9 * l + c) (C 112 j) := by
  have hs : Syn (mW C 115 (9 * l + c) (C 112 j)) M t n J P j := Syn_C h (mW_ne _ _ _ (by decide)) (mW_ne _ _ _ (by decide)) (mW_ne _ _ _ (by decide)) (by rw [mW_ne _ _ _ (by decide)]) (by rw [mW_ne _ _ _ (by decide)])
  obtain ⟨C', M', j', s1, s2, s3, _, s5, s6, s7, s8⟩ := step_s hs
  refine ⟨C', M', j', ?_, ?_, s3, ⟨s7, s8⟩, fun a h9 h5 => by rw [s5 a h9, mW_ne _ _ _ h5], fun k hk => by rw [s6 k hk, mW_ne _ _ _ (by decide)], by rw [s5 115 (by decide), mW_row]⟩
  · unfold r4_number
    rw [kind_e h, Option.bind_some, if_pos hk, value_e h, Option.bind_some, if_neg h1, Option.bind_some, if_pos (i32_nlt.mp h2), Option.bind_some, write_e hl hc e2 hcol, Option.bind_some, s1, Option.bind_some]
  · unfold r10_readNumber
    rw [if_pos ((num_e h).1.mpr hk), (num_e h).2 hk, isIn_1 h1 h2, if_neg one_n0, s2, Option.bind_some]
theorem num_n {C M : mI} {t : Nat → Nat} {n J : Nat} {P : Nat → Nat} {j : Nat} (h : Syn C M t n J P j) (col : Int32) {low high : Int32} (hk : ¬ (C 111 j = 128 ∧ ¬ C 112 j < low ∧ ¬ high < C 112 j)) : ∃ C' M', r4_number C col low high = some (0, C') ∧ r10_readNumber M low high = some (-1, M') ∧ Flt C' M' ∧ FrC C C' ∧ FrM M M' := by
  unfold r4_number r10_readNumber
  rw [kind_e h, Option.bind_some]
  by_cases k : C 111 j = 128
  · obtain ⟨C', M', b1, b2, b3, b4, b5⟩ := blame_e h (w := 2) (by decide)
    refine ⟨C', M', ?_, ?_, b3, b4, b5⟩
    · rw [if_pos k, value_e h, Option.bind_some]
      by_cases a : C 112 j < low
      · rw [if_pos a, b1, Option.bind_some]
        show some ((0 : Int32) &&& 1, C') = _
        rw [and1.2]
      · have b : high < C 112 j := Classical.byContradiction fun q => hk ⟨k, a, q⟩
        rw [if_neg a, Option.bind_some, if_neg (i32_nle.mpr b), b1, Option.bind_some]
        show some ((0 : Int32) &&& 1, C') = _
        rw [and1.2]
    · have : r10_isIn (M 119 19) low high = 0 := by
        rw [(num_e h).2 k]
        by_cases a : C 112 j < low
        · exact isIn_0a a
        · exact isIn_0b (Classical.byContradiction fun q => hk ⟨k, a, q⟩)
      rw [if_pos ((num_e h).1.mpr k), this, if_pos rfl, b2, Option.bind_some]
  · obtain ⟨C', M', b1, b2, b3, b4, b5⟩ := blame_e h (w := 1) (by decide)
    refine ⟨C', M', ?_, ?_, b3, b4, b5⟩
    · rw [if_neg k, b1, Option.bind_some]
      show some ((0 : Int32) &&& 1, C') = _
      rw [and1.2]
    · rw [if_neg (fun q => k ((num_e h).1.mp q)), b2, Option.bind_some]
/-- the reference's row written aside -/
theorem Syn_w {C M : mI} {t : Nat → Nat} {n J : Nat} {P : Nat → Nat} {j : Nat} (h : Syn C M t n J P j) {a i : Nat} {x : Int32} (ha : 132 ≤ a) : Syn C (mW M a i x) t n J P j := Syn_M h (by rw [mW_ne _ _ _ (by omega)]) (mW_ne _ _ _ (by omega)) (mW_ne _ _ _ (by omega)) (by rw [mW_ne _ _ _ (by omega)]) (by rw [mW_ne _ _ _ (by omega)]) (by rw [mW_ne _ _ _ (by omega)]) (by rw [mW_ne _ _ _ (by omega)])
/-- 'word number', as in a line's head -/
theorem told_s {C M : mI} {t : Nat → Nat} {n J : Nat} {P : Nat → Nat} {j : Nat} (h : Syn C M t n J P j) {l c w : Nat} (hl : l < 16) (hc : c < 9) (hw : w < 27) (e2 : C 114 2 = nI l) {col low high : Int32} (hcol : col = nI c) : (∃ C1 C' M' j' v, r4_pass C (nI w) = some (1, C1) ∧ C1 109 8 = C 109 8 ∧ C1 109 9 = C 109 9 ∧ r4_number C1 col low high = some (1, C') ∧ r10_readTold M (nI w) low high = some (v, M') ∧ ¬ v < low ∧ ¬ high < v ∧ Syn C' M' t n J P j' ∧ fsM M M' ∧ (∀ a, a ≠ 109 → a ≠ 115 → C' a = C a) ∧ (∀ k, k ≠ 6 → C' 109 k = C 109 k) ∧ C' 115 = mU (C 115) (9 * l + c) v) ∨ (∃ C' M', ((r4_pass C (nI w) = some (0, C')) ∨ (∃ C1, r4_pass C (nI w) = some (1, C1) ∧ C1 109 8 = C 109 8 ∧ C1 109 9 = C 109 9 ∧ r4_number C1 col low high = some (0, C'))) ∧ r10_readTold M (nI w) low high = some (-1, M') ∧ Flt C' M' ∧ FrC C C' ∧ FrM M M') := by
  by_cases k : C 111 j = nI w
  · obtain ⟨C1, M1, j1, p1, p2, p3, p4, p5⟩ := pass_y h k
    have e21 : C1 114 2 = nI l := by rw [p4.1 114 (by decide), e2]
    have tl : ∀ r, r10_readNumber M1 low high = some r → r10_readTold M (nI w) low high = some r := fun r hr => by
      unfold r10_readTold
      rw [word_e h hw, if_pos k, if_neg one_n0, p2, Option.bind_some, hr, Option.bind_some]
    by_cases g : C1 111 j1 = 128 ∧ ¬ C1 112 j1 < low ∧ ¬ high < C1 112 j1
    · obtain ⟨C', M', j', q1, q2, q3, q4, q5, q6, q7⟩ := num_y p3 hl hc e21 hcol g.1 g.2.1 g.2.2
      exact .inl ⟨C1, C', M', j', C1 112 j1, p1, p4.2 8 (by decide), p4.2 9 (by decide), q1, tl _ q2, g.2.1, g.2.2, q3, ⟨fun a ha => by rw [q4.1 a ha, p5.1 a ha], fun k hk => by rw [q4.2 k hk, p5.2 k hk]⟩, fun a h9 h5 => by rw [q5 a h9 h5, p4.1 a h9], fun k hk => by rw [q6 k hk, p4.2 k hk], by rw [q7, p4.1 115 (by decide)]⟩
    · obtain ⟨C', M', q1, q2, q3, q4, q5⟩ := num_n p3 col g
      exact .inr ⟨C', M', .inr ⟨C1, p1, p4.2 8 (by decide), p4.2 9 (by decide), q1⟩, tl _ q2, q3, FrC_t (fsC_F p4) q4, FrM_t (fsM_F p5) q5⟩
  · obtain ⟨C', M', q1, q2, q3, q4, q5⟩ := pass_n h k
    refine .inr ⟨C', M', .inl q1, ?_, q3, q4, q5⟩
    unfold r10_readTold
    rw [word_e h hw, if_neg k, if_pos rfl, q2, Option.bind_some]
/-- a mark at the end -/
theorem mark_s {C M : mI} {t : Nat → Nat} {n J : Nat} {P : Nat → Nat} {j : Nat} (h : Syn C M t n J P j) : (∃ C' M' j', r4_pass C 59 = some (1, C') ∧ r10_readMark M 59 = some (0, M') ∧ Syn C' M' t n J P j' ∧ fsC C C' ∧ fsM M M') ∨ (∃ C' M', r4_pass C 59 = some (0, C') ∧ r10_readMark M 59 = some (-1, M') ∧ Flt C' M' ∧ FrC C C' ∧ FrM M M') := by
  unfold r10_readMark
  rw [show (59 : Int32) = nI 59 from rfl, sign_e h (by omega)]
  by_cases k : C 111 j = nI 59
  · obtain ⟨C1, M1, j1, p1, p2, p3, p4, p5⟩ := pass_y h k
    refine .inl ⟨C1, M1, j1, p1, ?_, p3, p4, p5⟩
    rw [if_pos k, if_neg one_n0, p2, Option.bind_some]
  · obtain ⟨C', M', q1, q2, q3, q4, q5⟩ := pass_n h k
    refine .inr ⟨C', M', q1, ?_, q3, q4, q5⟩
    rw [if_neg k, if_pos rfl, q2, Option.bind_some]

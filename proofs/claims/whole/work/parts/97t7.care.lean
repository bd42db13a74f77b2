/-! TEXT: a line of care -/
theorem deed_e {C M : mI} {t : Nat → Nat} {n J : Nat} {P : Nat → Nat} {j : Nat} (h : Syn C M t n J P j) : r10_kindOfDeed M = if C 111 j = 15 then 3 else if C 111 j = 25 then 4 else if C 111 j = 22 then 0 else if C 111 j = 23 then 1 else if C 111 j = 24 then 2 else -1 := by
  unfold r10_kindOfDeed
  rw [show (15 : Int32) = nI 15 from rfl, show (25 : Int32) = nI 25 from rfl, word_e h (by omega), word_e h (by omega)]
  by_cases a : C 111 j = nI 15
  · rw [if_pos a, if_neg one_n0, if_pos a]
  · rw [if_neg a, if_pos rfl, if_neg a]
    by_cases b : C 111 j = nI 25
    · rw [if_pos b, if_neg one_n0, if_pos b]
    · rw [if_neg b, if_pos rfl, if_neg b]
      have hc := h.2.2.2.2.1
      rcases hc with ⟨c1, c2⟩ | ⟨c1, c2⟩ | ⟨x, hx, c1, c2, c3⟩ | ⟨c1, c2, c3⟩ | ⟨c, hc, hs, c1, c2, c3⟩
      · rw [c1, c2, if_neg (by decide)]; decide
      · rw [c1, c2, if_neg (by decide)]; decide
      · rw [c2, if_pos rfl, c3, c1]
        have : ∀ x, x < 27 → (if r10_isIn (nI x) 22 24 = 0 then (-1 : Int32) else nI x - 22) = if nI x = 22 then 0 else if nI x = 23 then 1 else if nI x = 24 then 2 else -1 := by decide
        exact this x hx
      · rw [c1, c2, if_neg (by decide)]; decide
      · have := sgn_lt hs
        have ne : ∀ w : Nat, w < 40 → ¬ nI c = nI w := fun w hw q => by have := (nI_eq (by omega) (by omega)).mp q; omega
        rw [c2, if_neg (by decide), c1, if_neg (show ¬ nI c = (22 : Int32) from ne 22 (by omega)), if_neg (show ¬ nI c = (23 : Int32) from ne 23 (by omega)), if_neg (show ¬ nI c = (24 : Int32) from ne 24 (by omega))]
/-- what a line of care has left -/
def CareR (C C' M M' : mI) (l : Nat) : Prop := FrC C C' ∧ FrM M M' ∧ C' 114 = C 114 ∧ C' 116 = C 116 ∧ (∀ i, ¬ (9 * l ≤ i ∧ i < 9 * l + 9) → C' 115 i = C 115 i) ∧ (∀ i, ¬ (48 + 3 * l ≤ i ∧ i < 48 + 3 * l + 3) → M' 140 i = M 140 i) ∧ C' 115 (9 * l) = M' 140 (48 + 3 * l) ∧ ((C' 115 (9 * l + 1) = 23 ∧ M' 140 (48 + 3 * l + 1) = 1) ∨ (C' 115 (9 * l + 2) = M' 140 (48 + 3 * l + 2) ∧ ((C' 115 (9 * l + 1) = 22 ∧ M' 140 (48 + 3 * l + 1) = 0 ∧ bd (M' 140 (48 + 3 * l + 2)) 7) ∨ (C' 115 (9 * l + 1) = 24 ∧ M' 140 (48 + 3 * l + 1) = 2) ∨ (C' 115 (9 * l + 1) = 15 ∧ M' 140 (48 + 3 * l + 1) = 3) ∨ (C' 115 (9 * l + 1) = 25 ∧ M' 140 (48 + 3 * l + 1) = 4))))
theorem care_s {C M : mI} {t : Nat → Nat} {n J : Nat} {P : Nat → Nat} {j l : Nat} (h : Syn C M t n J P j) (hl : l < 16) (e2 : C 114 2 = nI l) : (∃ C' M' j' v, r4_careLine C = some (1, C') ∧ r10_readDeed M (nI (48 + 3 * l)) = some (v, M') ∧ ¬ v = -1 ∧ Syn C' M' t n J P j' ∧ CareR C C' M M' l) ∨ (∃ C' M', r4_careLine C = some (0, C') ∧ r10_readDeed M (nI (48 + 3 * l)) = some (-1, M') ∧ Flt C' M' ∧ FrC C C' ∧ FrM M M') := by
  unfold r4_careLine r10_readDeed
  have s0 : ∀ i, 48 ≤ i → Sf 140 i := fun i hi => .inr (.inl ⟨rfl, hi⟩)
  rcases told_s h (w := 19) (c := 0) (col := 0) (low := 0) (high := 999) hl (by decide) (by decide) e2 rfl with ⟨C1, C2, M2, j2, v, p1, _, _, p2, p3, p4, p5, p6, p7, p8, p9, p10⟩ | ⟨C', M', p1, p2, p3, p4, p5⟩
  · have vm : ¬ v = -1 := fun q => p4 (by rw [q]; decide)
    have p1 : r4_pass C 19 = some (1, C1) := p1
    have p3 : r10_readTold M 19 0 999 = some (v, M2) := p3
    rw [p1, Option.bind_some]
    dsimp only
    rw [if_neg one_n0, p2, Option.bind_some]
    dsimp only
    rw [if_neg one_n0, kind_e p6, Option.bind_some, write_e (C := C2) (k := 1) hl (by decide) (c := 1) (by rw [p8 114 (by decide) (by decide), e2]) rfl, Option.bind_some, p3, Option.bind_some, mSto_n (by omega) (by decide), Option.bind_some, mLd_n (by omega) (by decide), Option.bind_some, mW_at, if_neg vm]
    have h3 : Syn (mW C2 115 (9 * l + 1) (C2 111 j2)) (mW M2 140 (48 + 3 * l) v) t n J P j2 := Syn_w (Syn_C p6 (mW_ne _ _ _ (by decide)) (mW_ne _ _ _ (by decide)) (mW_ne _ _ _ (by decide)) (by rw [mW_ne _ _ _ (by decide)]) (by rw [mW_ne _ _ _ (by decide)])) (by decide)
    have F2 : FrC C (mW C2 115 (9 * l + 1) (C2 111 j2)) := FrC_t ⟨fun a ha => p8 a (by omega) (by omega), fun k a _ _ _ => p9 k a⟩ (FrC_w (by omega))
    have G2 : FrM M (mW M2 140 (48 + 3 * l) v) := FrM_t (fsM_F p7) (FrM_w (s0 _ (by omega)) (by decide))
    have kd := deed_e h3
    have k111 : (mW C2 115 (9 * l + 1) (C2 111 j2)) 111 j2 = C2 111 j2 := by rw [mW_ne _ _ _ (by decide)]
    rw [k111] at kd
    have c115 : ∀ i, (mW C2 115 (9 * l + 1) (C2 111 j2)) 115 i = if i = 9 * l + 1 then C2 111 j2 else if i = 9 * l then v else C 115 i := fun i => by
      rw [mW_row, p10]
      unfold mU
      by_cases e : i = 9 * l + 1
      · rw [if_pos e, if_pos e]
      · rw [if_neg e, if_neg e, Nat.add_zero]
    have m140 : ∀ i, (mW M2 140 (48 + 3 * l) v) 140 i = if i = 48 + 3 * l then v else M 140 i := fun i => by
      rw [mW_rd, if_pos rfl, p7.1 140 (by decide)]
    have c114 : (mW C2 115 (9 * l + 1) (C2 111 j2)) 114 = C 114 := by rw [mW_ne _ _ _ (by decide), p8 114 (by decide) (by decide)]
    have c116 : (mW C2 115 (9 * l + 1) (C2 111 j2)) 116 = C 116 := by rw [mW_ne _ _ _ (by decide), p8 116 (by decide) (by decide)]
    generalize hκ : C2 111 j2 = κ at *
    generalize mW C2 115 (9 * l + 1) κ = C3 at *
    generalize mW M2 140 (48 + 3 * l) v = M3 at *
    -- a deed with a number
    have deed : ∀ (κ' d low high : Int32), κ = κ' → r10_kindOfDeed M3 = d → ¬ d = -1 → ¬ d = 1 → (if d = 2 then 1 else 0 : Int32) = low → (if d = 0 then 7 else if d = 3 then 9 else 99 : Int32) = high → ¬ low < 0 → ((κ' = 22 ∧ d = 0) ∨ (κ' = 24 ∧ d = 2) ∨ (κ' = 15 ∧ d = 3) ∨ (κ' = 25 ∧ d = 4)) → ∃ A B, (((r4_step C3).bind fun z4 => ((r4_number z4 2 low high).bind fun z6 => some (z6.1, z6.2)).bind fun z5 => (if z5.1 = 0 then some (0, z5.2) else (r4_pass z5.2 59).bind fun z11 => if z11.1 = 0 then some (0, z11.2) else some (1, z11.2) : Option (Int32 × mI)).bind fun z10 => some (z10.1 &&& 1, z10.2)) = A) ∧ (((r10_reads M3).bind fun z3 => (mSto z3 140 96 (nI (48 + 3 * l) + 1) d).bind fun z4 => (r10_readDeedMore z4 d).bind fun z5 => (mSto z5.2 140 96 (nI (48 + 3 * l) + 2) z5.1).bind fun z6 => (mLd z6 140 96 (nI (48 + 3 * l) + 2)).bind fun z7 => (if z7 = -1 then some (-1, z6) else (r10_readMark z6 59).bind fun z9 => some (z9.1, z9.2) : Option (Int32 × mI)).bind fun z8 => some (z8.1, z8.2)) = B) ∧ ((∃ C' M' j' v, A = some (1, C') ∧ B = some (v, M') ∧ ¬ v = -1 ∧ Syn C' M' t n J P j' ∧ CareR C C' M M' l) ∨ (∃ C' M', A = some (0, C') ∧ B = some (-1, M') ∧ Flt C' M' ∧ FrC C C' ∧ FrM M M')) := by
      intro κ' d low high hk hd hd1 hd2 hlow hhigh hl0 hcase
      subst hk
      refine ⟨_, _, rfl, rfl, ?_⟩
      obtain ⟨C4, M4, j4, s1, s2, s3, _, s5, s6, s7, s8⟩ := step_s h3
      have n1 : nI (48 + 3 * l) + 1 = nI (48 + 3 * l + 1) := nI_1 _
      have n2 : nI (48 + 3 * l) + 2 = nI (48 + 3 * l + 2) := nI_add _ 2
      have h4 : Syn C4 (mW M4 140 (48 + 3 * l + 1) d) t n J P j4 := Syn_w s3 (by decide)
      have more : ∀ r, r10_readNumber (mW M4 140 (48 + 3 * l + 1) d) low high = some r → r10_readDeedMore (mW M4 140 (48 + 3 * l + 1) d) d = some r := fun r hr => by
        unfold r10_readDeedMore
        rw [if_neg hd2, ite_some, Option.bind_some, ite_some, ite_some, Option.bind_some, hlow, hhigh, hr, Option.bind_some]
      have F4 : FrC C C4 := FrC_t F2 (fsC_F ⟨s5, s6⟩)
      have G4 : FrM M (mW M4 140 (48 + 3 * l + 1) d) := FrM_t G2 (FrM_t (fsM_F ⟨s7, s8⟩) (FrM_w (s0 _ (by omega)) (by decide)))
      rw [s1, Option.bind_some, s2, Option.bind_some, n1, n2, mSto_n (by omega) (by decide), Option.bind_some]
      by_cases g : C4 111 j4 = 128 ∧ ¬ C4 112 j4 < low ∧ ¬ high < C4 112 j4
      · obtain ⟨C5, M5, j5, q1, q2, q3, q4, q5, q6, q7⟩ := num_y h4 (c := 2) (col := 2) hl (by decide) (by rw [s5 114 (by decide), c114, e2]) rfl g.1 g.2.1 g.2.2
        generalize hx : C4 112 j4 = x at *
        have xm : ¬ x = -1 := fun q => by
          rw [q] at g
          exact g.2.1 (by rw [i32_lt]; rw [i32_lt] at hl0; have : (-1 : Int32).toInt = -1 := by decide
                          have : (0 : Int32).toInt = 0 := by decide
                          omega)
        rw [q1, Option.bind_some, Option.bind_some, more _ q2, Option.bind_some]
        dsimp only
        rw [if_neg one_n0, mSto_n (by omega) (by decide), Option.bind_some, mLd_n (by omega) (by decide), Option.bind_some, mW_at, if_neg xm]
        have h6 : Syn C5 (mW M5 140 (48 + 3 * l + 2) x) t n J P j5 := Syn_w q3 (by decide)
        have F5 : FrC C C5 := FrC_t F4 ⟨fun a ha => q5 a (by omega) (by omega), fun k a _ _ _ => q6 k a⟩
        have G5 : FrM M (mW M5 140 (48 + 3 * l + 2) x) := FrM_t G4 (FrM_t (fsM_F q4) (FrM_w (s0 _ (by omega)) (by decide)))
        rcases mark_s h6 with ⟨C6, M6, j6, m1, m2, m3, m4, m5⟩ | ⟨C6, M6, m1, m2, m3, m4, m5⟩
        · refine .inl ⟨C6, M6, j6, 0, ?_, ?_, by decide, m3, FrC_t F5 (fsC_F m4), FrM_t G5 (fsM_F m5), by rw [m4.1 114 (by decide), q5 114 (by decide) (by decide), s5 114 (by decide), c114], by rw [m4.1 116 (by decide), q5 116 (by decide) (by decide), s5 116 (by decide), c116], fun i hi => ?_, fun i hi => ?_, ?_, ?_⟩
          · rw [m1, Option.bind_some]
            dsimp only
            rw [if_neg one_n0, Option.bind_some]
            show some ((1 : Int32) &&& 1, C6) = _
            rw [and1.1]
          · rw [m2, Option.bind_some, Option.bind_some]
          · rw [m4.1 115 (by decide), q7, mU_ne _ _ (by omega), s5 115 (by decide), c115, if_neg (by omega), if_neg (by omega)]
          · rw [m5.1 140 (by decide), mW_off _ _ (by omega), q4.1 140 (by decide), mW_off _ _ (by omega), s7 140 (by decide), m140, if_neg (by omega)]
          · rw [m4.1 115 (by decide), q7, mU_ne _ _ (by omega), s5 115 (by decide), c115, if_neg (by omega), if_pos rfl, m5.1 140 (by decide), mW_off _ _ (by omega), q4.1 140 (by decide), mW_off _ _ (by omega), s7 140 (by decide), m140, if_pos rfl]
          · have a1 : C6 115 (9 * l + 1) = κ := by rw [m4.1 115 (by decide), q7, mU_ne _ _ (by omega), s5 115 (by decide), c115, if_pos rfl]
            have a2 : C6 115 (9 * l + 2) = x := by rw [m4.1 115 (by decide), q7, mU_eq]
            have b1 : M6 140 (48 + 3 * l + 1) = d := by rw [m5.1 140 (by decide), mW_off _ _ (by omega), q4.1 140 (by decide), mW_at]
            have b2 : M6 140 (48 + 3 * l + 2) = x := by rw [m5.1 140 (by decide), mW_at]
            rw [a1, a2, b1, b2]
            refine .inr ⟨rfl, ?_⟩
            rcases hcase with ⟨e1, e2⟩ | hc | hc | hc
            · refine .inl ⟨e1, e2, ?_⟩
              rw [e2, if_neg (by decide)] at hlow
              rw [e2, if_pos rfl] at hhigh
              exact bd_of (M := 7) (by decide) (by rw [hlow]; exact g.2.1) (by rw [hhigh]; exact g.2.2)
            · exact .inr (.inl hc)
            · exact .inr (.inr (.inl hc))
            · exact .inr (.inr (.inr hc))
        · refine .inr ⟨C6, M6, ?_, ?_, m3, FrC_t F5 m4, FrM_t G5 m5⟩
          · rw [m1, Option.bind_some]
            dsimp only
            rw [if_pos rfl, Option.bind_some]
            show some ((0 : Int32) &&& 1, C6) = _
            rw [and1.2]
          · rw [m2, Option.bind_some, Option.bind_some]
      · obtain ⟨C5, M5, q1, q2, q3, q4, q5⟩ := num_n h4 2 g
        refine .inr ⟨C5, mW M5 140 (48 + 3 * l + 2) (-1), ?_, ?_, ⟨q3.1, by rw [mW_ne _ _ _ (by decide)]; exact q3.2.1, by rw [mW_ne _ _ _ (by decide)]; exact q3.2.2⟩, FrC_t F4 q4, FrM_t G4 (FrM_t q5 (FrM_w (s0 _ (by omega)) (by decide)))⟩
        · rw [q1, Option.bind_some, Option.bind_some]
          dsimp only
          rw [if_pos rfl, Option.bind_some]
          show some ((0 : Int32) &&& 1, C5) = _
          rw [and1.2]
        · rw [more _ q2, Option.bind_some]
          dsimp only
          rw [mSto_n (by omega) (by decide), Option.bind_some, mLd_n (by omega) (by decide), Option.bind_some, mW_at, if_pos rfl, Option.bind_some]
    by_cases k22 : κ = 22
    · subst k22
      rw [show r10_kindOfDeed M3 = 0 by rw [kd]; decide]
      simp (decide := true) only [reduceIte]
      obtain ⟨A, B, a, b, r⟩ := deed 22 0 0 7 rfl (by rw [kd]; decide) (by decide) (by decide) (by decide) (by decide) (by decide) (.inl ⟨rfl, rfl⟩)
      rw [a, b]; exact r
    by_cases k24 : κ = 24
    · subst k24
      rw [show r10_kindOfDeed M3 = 2 by rw [kd]; decide]
      simp (decide := true) only [reduceIte]
      obtain ⟨A, B, a, b, r⟩ := deed 24 2 1 99 rfl (by rw [kd]; decide) (by decide) (by decide) (by decide) (by decide) (by decide) (.inr (.inl ⟨rfl, rfl⟩))
      rw [a, b]; exact r
    by_cases k15 : κ = 15
    · subst k15
      rw [show r10_kindOfDeed M3 = 3 by rw [kd]; decide]
      simp (decide := true) only [reduceIte]
      obtain ⟨A, B, a, b, r⟩ := deed 15 3 0 9 rfl (by rw [kd]; decide) (by decide) (by decide) (by decide) (by decide) (by decide) (.inr (.inr (.inl ⟨rfl, rfl⟩)))
      rw [a, b]; exact r
    by_cases k25 : κ = 25
    · subst k25
      rw [show r10_kindOfDeed M3 = 4 by rw [kd]; decide]
      simp (decide := true) only [reduceIte]
      obtain ⟨A, B, a, b, r⟩ := deed 25 4 0 99 rfl (by rw [kd]; decide) (by decide) (by decide) (by decide) (by decide) (by decide) (.inr (.inr (.inr ⟨rfl, rfl⟩)))
      rw [a, b]; exact r
    by_cases k23 : κ = 23
    · subst k23
      rw [show r10_kindOfDeed M3 = 1 by rw [kd]; decide]
      simp (decide := true) only [reduceIte]
      obtain ⟨C4, M4, j4, s1, s2, s3, _, s5, s6, s7, s8⟩ := step_s h3
      have n1 : nI (48 + 3 * l) + 1 = nI (48 + 3 * l + 1) := nI_1 _
      have n2 : nI (48 + 3 * l) + 2 = nI (48 + 3 * l + 2) := nI_add _ 2
      have more : r10_readDeedMore (mW M4 140 (48 + 3 * l + 1) 1) 1 = some (0, mW M4 140 (48 + 3 * l + 1) 1) := if_pos rfl
      rw [s1, Option.bind_some, Option.bind_some, s2, Option.bind_some, n1, n2, mSto_n (by omega) (by decide), Option.bind_some, more, Option.bind_some]
      dsimp only
      rw [if_neg one_n0, mSto_n (by omega) (by decide), Option.bind_some, mLd_n (by omega) (by decide), Option.bind_some, mW_at, if_neg (show ¬ (0 : Int32) = -1 by decide)]
      have h6 : Syn C4 (mW (mW M4 140 (48 + 3 * l + 1) 1) 140 (48 + 3 * l + 2) 0) t n J P j4 := Syn_w (Syn_w s3 (by decide)) (by decide)
      have F5 : FrC C C4 := FrC_t F2 (fsC_F ⟨s5, s6⟩)
      have G5 : FrM M (mW (mW M4 140 (48 + 3 * l + 1) 1) 140 (48 + 3 * l + 2) 0) := FrM_t G2 (FrM_t (fsM_F ⟨s7, s8⟩) (FrM_t (FrM_w (s0 _ (by omega)) (by decide)) (FrM_w (s0 _ (by omega)) (by decide))))
      rcases mark_s h6 with ⟨C6, M6, j6, m1, m2, m3, m4, m5⟩ | ⟨C6, M6, m1, m2, m3, m4, m5⟩
      · refine .inl ⟨C6, M6, j6, 0, ?_, ?_, by decide, m3, FrC_t F5 (fsC_F m4), FrM_t G5 (fsM_F m5), by rw [m4.1 114 (by decide), s5 114 (by decide), c114], by rw [m4.1 116 (by decide), s5 116 (by decide), c116], fun i hi => ?_, fun i hi => ?_, ?_, .inl ⟨?_, ?_⟩⟩
        · rw [m1, Option.bind_some]
          dsimp only
          rw [if_neg one_n0, Option.bind_some]
          show some ((1 : Int32) &&& 1, C6) = _
          rw [and1.1]
        · rw [m2, Option.bind_some, Option.bind_some]
        · rw [m4.1 115 (by decide), s5 115 (by decide), c115, if_neg (by omega), if_neg (by omega)]
        · rw [m5.1 140 (by decide), mW_off _ _ (by omega), mW_off _ _ (by omega), s7 140 (by decide), m140, if_neg (by omega)]
        · rw [m4.1 115 (by decide), s5 115 (by decide), c115, if_neg (by omega), if_pos rfl, m5.1 140 (by decide), mW_off _ _ (by omega), mW_off _ _ (by omega), s7 140 (by decide), m140, if_pos rfl]
        · rw [m4.1 115 (by decide), s5 115 (by decide), c115, if_pos rfl]
        · rw [m5.1 140 (by decide), mW_off _ _ (by omega), mW_at]
      · refine .inr ⟨C6, M6, ?_, ?_, m3, FrC_t F5 m4, FrM_t G5 m5⟩
        · rw [m1, Option.bind_some]
          dsimp only
          rw [if_pos rfl, Option.bind_some]
          show some ((0 : Int32) &&& 1, C6) = _
          rw [and1.2]
        · rw [m2, Option.bind_some, Option.bind_some]
    · have nk : r10_kindOfDeed M3 = -1 := by rw [kd, if_neg k15, if_neg k25, if_neg k22, if_neg k23, if_neg k24]
      obtain ⟨C', M', b1, b2, b3, b4, b5⟩ := blame_e h3 (w := 1) (by decide)
      have bl : ((r4_blame C3 1).bind fun z12 => some (z12.1 &&& 1, z12.2)) = some ((0 : Int32), C') := by
        rw [b1, Option.bind_some]
        show some ((0 : Int32) &&& 1, C') = _
        rw [and1.2]
      refine .inr ⟨C', M', ?_, ?_, b3, FrC_t F2 b4, FrM_t G2 b5⟩
      · by_cases a : (22 : Int32) ≤ κ
        · have b : ¬ κ ≤ 25 := fun b => by
            rw [i32_le] at a b
            have e22 : (22 : Int32).toInt = 22 := by decide
            have e25 : (25 : Int32).toInt = 25 := by decide
            have : κ.toInt = 22 ∨ κ.toInt = 23 ∨ κ.toInt = 24 ∨ κ.toInt = 25 := by omega
            rcases this with q | q | q | q
            · exact k22 (by rw [i32_eq, q]; decide)
            · exact k23 (by rw [i32_eq, q]; decide)
            · exact k24 (by rw [i32_eq, q]; decide)
            · exact k25 (by rw [i32_eq, q]; decide)
          rw [if_pos a, if_neg b, bl]
        · rw [if_neg a, if_neg k15, bl]
      · rw [nk, if_pos rfl, b2, Option.bind_some]
  · have p2 : r10_readTold M 19 0 999 = some (-1, M') := p2
    refine .inr ⟨C', mW M' 140 (48 + 3 * l) (-1), ?_, ?_, ⟨p3.1, by rw [mW_ne _ _ _ (by decide)]; exact p3.2.1, by rw [mW_ne _ _ _ (by decide)]; exact p3.2.2⟩, p4, FrM_t p5 (FrM_w (s0 _ (by omega)) (by decide))⟩
    · rcases p1 with p1 | ⟨C1, p1, _, _, p1'⟩
      · have p1 : r4_pass C 19 = some (0, C') := p1
        rw [p1, Option.bind_some]
        dsimp only
        rw [if_pos rfl]
      · have p1 : r4_pass C 19 = some (1, C1) := p1
        rw [p1, Option.bind_some]
        dsimp only
        rw [if_neg one_n0, p1', Option.bind_some]
        dsimp only
        rw [if_pos rfl]
    · rw [p2, Option.bind_some, mSto_n (by omega) (by decide), Option.bind_some, mLd_n (by omega) (by decide), Option.bind_some, mW_at, if_pos rfl]

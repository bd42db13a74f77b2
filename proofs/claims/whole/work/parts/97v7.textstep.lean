/-! TEXT: in step, whole -/
theorem cOne_to {code code' op op' ar ar' : Nat → Int32} {u c i : Nat} (hu : eqOn u code' code) (hi : i < u) (hc : cMi code u ≤ c) (h1 : ∀ k, k < c → op' k = op k) (h2 : ∀ k, k < c → ar' k = ar k) (h : cOne code op ar i) : cOne code' op' ar' i := by
  unfold cOne at *
  have lt := cMi_lt (code := code) hi
  rw [cMi_rg hu i (by omega), hu i hi]
  by_cases z : code i &&& 15 = 5
  · have le := cMi_le (code := code) (show i + 1 ≤ u by omega)
    have e : cMi code (i + 1) = cMi code i + 2 := by rw [cMi, if_pos z]
    rw [if_pos z] at h ⊢
    rw [h1 _ (by omega), h2 _ (by omega), h1 _ (by omega)]
    exact h
  · rw [if_neg z] at h ⊢
    rw [h1 _ (by omega), h2 _ (by omega)]
    exact h
theorem bind_pair (X : Option (Int32 × mI)) : (X.bind fun z => some (z.1, z.2)) = X := by cases X <;> rfl
theorem text_law {C M : mI} {t : Nat → Nat} {n np nq : Nat} (H : TxH C M t n np nq) : ∃ v C' M', r9_text C 0 = some (v, C') ∧ r10_text M 0 = some (v, M') ∧ TxR C C' M M' := by
  obtain ⟨z1, Ms, J, P, hz, hr, hS, ⟨d2, d3, d11, d12, d7, d8, d9, d1⟩, fC, fM, fk, m28, m29, m30, m35, m36⟩ := text_start H
  have rt : r10_readsText (hdM M) 0 = r10_readLaw Ms := by
    unfold r10_readsText
    rw [hr, Option.bind_some, if_neg (by decide), if_neg (by decide), if_neg (by decide), bind_pair, bind_pair]
  rcases law_lines d7 m30 m29 hS d2 d3 d11 d12 with ⟨C', M', n', j', q0, q1, q2, q3, q4⟩ | ⟨C', M', q1, q2, q3, q4, q5⟩
  · obtain ⟨⟨g1, g2, g11, g12⟩, _, _, u, c, hR, _, hlines⟩ := q4
    have hu := CR_u hR
    have hc4 := hR.2.2.2.2
    obtain ⟨Jc, j1, j2, j3, j4, j5, j6⟩ := cp_t15 C' (u := u) (by omega) hR.1
    have k28 : (mW M' 119 15 0) 119 28 = 0 := by rw [mW_off _ _ (by decide), g2.2 28 (by omega) (by omega), m28]
    obtain ⟨M2, t1, t2, t3, t4, t5⟩ := tkLaw (M := mW M' 119 15 0) q0 hc4 k28 (by rw [mW_off _ _ (by decide)]; exact hR.2.1)
    refine ⟨nI n', Jc, M2, ?_, ?_, ⟨?_, ?_⟩, .inr (.inl ⟨⟨fun a ha hs => ?_, ?_⟩, ⟨fun a i ha hs hsm => ?_, fun k a b c _ => ?_, ?_⟩, ?_⟩)⟩
    · unfold r9_text
      rw [rs_ok hz (by decide) (by decide) q1 g11 q3, Option.bind_some, if_pos rfl]
      dsimp only
      rw [if_neg (nI_m1 (by omega)), j1, Option.bind_some, if_neg (by decide), if_neg (by decide), Option.bind_some]
    · rw [tm_ok q0 (by decide) (by rw [rt]; exact q2), if_pos rfl, t1, Option.bind_some, Option.bind_some]
    · rw [j2 109 (by omega), g11, t2 119 (by omega), mW_off _ _ (by decide), g2.2 35 (by omega) (by omega), m35]
    · rw [j2 109 (by omega), g12, t2 119 (by omega), mW_off _ _ (by decide), g2.2 36 (by omega) (by omega), m36]
    · rw [j2 a hs, g1.1 a (by omega), fC a ha]
    · rw [j2 109 (by omega), g1.2 1 (by decide) (by decide) (by decide) (by decide), d1]
    · rw [t2 a hsm, mW_ne _ _ _ ha, g2.1 a i ha hs, fM a ha]
    · rw [t2 119 (by omega), mW_off _ _ (by omega), g2.2 k (by omega) (by omega), fk k a (by omega) (by omega) (by omega) (by omega)]
    · rw [t2 119 (by omega), mW_at]
    · have e116 := hR.2.2.1
      refine ⟨n', u, q0, by omega, by rw [cMi_rg j6 u (Nat.le_refl _), e116]; exact hc4, t3, by rw [j3, q3], j4, fun i hi => ?_, fun l hl => ?_⟩
      · exact cOne_to (c := c) j6 hi (by omega) (fun k hk => by rw [t5 136 k (by decide) (by decide) hk, mW_ne _ _ _ (by decide)]) (fun k hk => by rw [t5 137 k (by decide) (by decide) hk, mW_ne _ _ _ (by decide)]) (hR.2.2.2.1 i hi)
      · have R : ∀ a, 132 ≤ a → a ≤ 135 → M2 a l = M' a (32 + l) := fun a h1 h2 => by rw [t4 a l h1 h2 hl, mW_ne _ _ _ (by omega)]
        exact lawAt_to (c' := Jc 16) (code' := Jc 17) (wd' := M2 132) (fr' := M2 133) (wh' := M2 134) (to' := M2 135) (hlines l hl) (Nat.le_refl _) (fun i hi => j5 _ (by omega)) (fun i hi => j6 i hi) (R 132 (by decide) (by decide)) (R 133 (by decide) (by decide)) (R 134 (by decide) (by decide)) (R 135 (by decide) (by decide))
  · exact tx_fail (by decide) (by decide) (by decide) hz fC d1 fM fk q1 (by rw [rt]; exact q2) q3 q4 q5
theorem text_prog {C M : mI} {t : Nat → Nat} {n np nq : Nat} (H : TxH C M t n np nq) : ∃ v C' M', r9_text C 1 = some (v, C') ∧ r10_text M 1 = some (v, M') ∧ TxR C C' M M' := by
  obtain ⟨z1, Ms, J, P, hz, hr, hS, ⟨d2, d3, d11, d12, d7, d8, d9, d1⟩, fC, fM, fk, m28, m29, m30, m35, m36⟩ := text_start H
  obtain ⟨_, _, _, _, hnp, hnq, _, m6, m7⟩ := H
  have rt : r10_readsText (hdM M) 1 = r10_readProgramme Ms := by
    unfold r10_readsText
    rw [hr, Option.bind_some, if_pos rfl, bind_pair]
  have s6 : Ms 119 6 = nI np := by rw [fk 6 (by decide) (by omega) (by omega) (by decide) (by decide), m6]
  have s7 : Ms 119 7 = nI nq := by rw [fk 7 (by decide) (by omega) (by omega) (by decide) (by decide), m7]
  rcases prog_lines hnp hnq d8 s6 d9 s7 hS d2 d3 d11 d12 with ⟨C', M', n', q0, q1, q2, q3, q4⟩ | ⟨C', M', q1, q2, q3, q4, q5⟩
  · obtain ⟨⟨g1, g2, g11, g12⟩, p3, hlines⟩ := q4
    obtain ⟨Jc, j1, j2, j3, j4, j5⟩ := cp_t18 C' p3
    refine ⟨nI n', mW Jc 77 2 0, mW (mW (mU (mW M' 119 15 0) 139 (cpf ((mW M' 119 15 0) 139) ((mW M' 119 15 0) 139) 144 0 (9 * n'))) 119 37 (nI n')) 119 3 0, ?_, ?_, ⟨?_, ?_⟩, .inr (.inr (.inl ⟨⟨fun a ha hs => ?_, ?_⟩, ⟨?_, ?_⟩, ⟨fun a i ha hs hsm => ?_, fun k a b c d => ?_, ?_⟩, mW_at _ _ _ _, ?_⟩))⟩
    · unfold r9_text
      rw [rs_ok hz (by decide) (by decide) q1 g11 q3, Option.bind_some, if_neg (by decide), if_pos rfl]
      dsimp only
      rw [if_neg (nI_m1 (by omega)), j1, Option.bind_some, if_pos rfl]
      rfl
    · rw [tm_ok q0 (by decide) (by rw [rt]; exact q2), if_neg (by decide)]
      unfold r10_takesOther
      rw [if_neg (by decide), if_pos rfl, tk47 _ q0, Option.bind_some, Option.bind_some, Option.bind_some, Option.bind_some]
    · rw [mW_ne _ _ _ (by decide), j2 109 (by omega), g11, mW_off _ _ (by decide), mW_off _ _ (by decide), mU_ne _ _ (by decide), mW_off _ _ (by decide), g2.2 35 (by omega) (by omega), m35]
    · rw [mW_ne _ _ _ (by decide), j2 109 (by omega), g12, mW_off _ _ (by decide), mW_off _ _ (by decide), mU_ne _ _ (by decide), mW_off _ _ (by decide), g2.2 36 (by omega) (by omega), m36]
    · rw [mW_ne _ _ _ (by omega), j2 a (by omega), g1.1 a (by omega), fC a ha]
    · rw [mW_ne _ _ _ (by decide), j2 109 (by omega), g1.2 1 (by decide) (by decide) (by decide) (by decide), d1]
    · rw [mW_row, j2 77 (by omega), g1.1 77 (by omega), fC 77 (by omega)]
    · rw [mW_ne _ _ _ (by decide), j4]
    · rw [mW_ne _ _ _ ha, mW_ne _ _ _ ha, mU_ne _ _ hsm, mW_ne _ _ _ ha, g2.1 a i ha hs, fM a ha]
    · rw [mW_off _ _ (by omega), mW_off _ _ (by omega), mU_ne _ _ (by decide), mW_off _ _ (by omega), g2.2 k (by omega) (by omega), fk k a (by omega) (by omega) (by omega) (by omega)]
    · rw [mW_off _ _ (by decide), mW_off _ _ (by decide), mU_ne _ _ (by decide), mW_at]
    · have x6 : (mW (mW (mU (mW M' 119 15 0) 139 (cpf ((mW M' 119 15 0) 139) ((mW M' 119 15 0) 139) 144 0 (9 * n'))) 119 37 (nI n')) 119 3 0) 119 6 = nI np := by
        rw [mW_off _ _ (by decide), mW_off _ _ (by decide), mU_ne _ _ (by decide), mW_off _ _ (by decide), g2.2 6 (by omega) (by omega), s6]
      have x7 : (mW (mW (mU (mW M' 119 15 0) 139 (cpf ((mW M' 119 15 0) 139) ((mW M' 119 15 0) 139) 144 0 (9 * n'))) 119 37 (nI n')) 119 3 0) 119 7 = nI nq := by
        rw [mW_off _ _ (by decide), mW_off _ _ (by decide), mU_ne _ _ (by decide), mW_off _ _ (by decide), g2.2 7 (by omega) (by omega), s7]
      rw [x6, x7]
      refine ⟨n', q0, by rw [mW_off _ _ (by decide), mW_at], by rw [mW_ne _ _ _ (by decide), j3, q3], fun l hl => ?_⟩
      refine progAt_to (c' := (mW Jc 77 2 0) 19) (hlines l hl) (fun i hi => by rw [mW_ne _ _ _ (by decide), j5 _ (by omega)]) (fun i hi => ?_)
      have e := cpf_in (g := (mW M' 119 15 0) 139) (h := (mW M' 119 15 0) 139) (o := 144) (d := 0) (N := 9 * n') (k := 9 * l + i) (by omega)
      rw [Nat.zero_add] at e
      rw [mW_ne _ _ _ (by decide), mW_ne _ _ _ (by decide), mU_eq, e, mW_ne _ _ _ (by decide)]
  · exact tx_fail (by decide) (by decide) (by decide) hz fC d1 fM fk q1 (by rw [rt]; exact q2) q3 q4 q5
theorem text_care {C M : mI} {t : Nat → Nat} {n np nq : Nat} (H : TxH C M t n np nq) : ∃ v C' M', r9_text C 2 = some (v, C') ∧ r10_text M 2 = some (v, M') ∧ TxR C C' M M' := by
  obtain ⟨z1, Ms, J, P, hz, hr, hS, ⟨d2, d3, d11, d12, d7, d8, d9, d1⟩, fC, fM, fk, m28, m29, m30, m35, m36⟩ := text_start H
  have rt : r10_readsText (hdM M) 2 = r10_readCare Ms := by
    unfold r10_readsText
    rw [hr, Option.bind_some, if_neg (by decide), if_pos rfl, bind_pair]
  rcases care_lines hS d2 d3 d11 d12 with ⟨C', M', n', q0, q1, q2, q3, q4⟩ | ⟨C', M', q1, q2, q3, q4, q5⟩
  · obtain ⟨⟨g1, g2, g11, g12⟩, p3, hlines⟩ := q4
    obtain ⟨Jc, j1, j2, j3, j4, j5⟩ := cp_t21 C' p3
    refine ⟨nI n', mW Jc 77 2 0, mW (mW (mU (mW M' 119 15 0) 140 (cpf ((mW M' 119 15 0) 140) ((mW M' 119 15 0) 140) 48 0 (3 * n'))) 119 39 (nI n')) 119 3 0, ?_, ?_, ⟨?_, ?_⟩, .inr (.inr (.inr (.inl ⟨⟨fun a ha hs => ?_, ?_⟩, ⟨?_, ?_⟩, ⟨fun a i ha hs hsm => ?_, fun k a b c d => ?_, ?_⟩, mW_at _ _ _ _, ?_⟩)))⟩
    · unfold r9_text
      rw [rs_ok hz (by decide) (by decide) q1 g11 q3, Option.bind_some, if_neg (by decide), if_neg (by decide), if_pos rfl]
      dsimp only
      rw [if_neg (nI_m1 (by omega)), j1, Option.bind_some, if_neg (by decide), if_pos rfl]
      rfl
    · rw [tm_ok q0 (by decide) (by rw [rt]; exact q2), if_neg (by decide)]
      unfold r10_takesOther
      rw [if_neg (by decide), if_neg (by decide), tk87 _ q0, Option.bind_some, Option.bind_some, Option.bind_some, Option.bind_some]
    · rw [mW_ne _ _ _ (by decide), j2 109 (by omega), g11, mW_off _ _ (by decide), mW_off _ _ (by decide), mU_ne _ _ (by decide), mW_off _ _ (by decide), g2.2 35 (by omega) (by omega), m35]
    · rw [mW_ne _ _ _ (by decide), j2 109 (by omega), g12, mW_off _ _ (by decide), mW_off _ _ (by decide), mU_ne _ _ (by decide), mW_off _ _ (by decide), g2.2 36 (by omega) (by omega), m36]
    · rw [mW_ne _ _ _ (by omega), j2 a (by omega), g1.1 a (by omega), fC a ha]
    · rw [mW_ne _ _ _ (by decide), j2 109 (by omega), g1.2 1 (by decide) (by decide) (by decide) (by decide), d1]
    · rw [mW_row, j2 77 (by omega), g1.1 77 (by omega), fC 77 (by omega)]
    · rw [mW_ne _ _ _ (by decide), j4]
    · rw [mW_ne _ _ _ ha, mW_ne _ _ _ ha, mU_ne _ _ hsm, mW_ne _ _ _ ha, g2.1 a i ha hs, fM a ha]
    · rw [mW_off _ _ (by omega), mW_off _ _ (by omega), mU_ne _ _ (by decide), mW_off _ _ (by omega), g2.2 k (by omega) (by omega), fk k a (by omega) (by omega) (by omega) (by omega)]
    · rw [mW_off _ _ (by decide), mW_off _ _ (by decide), mU_ne _ _ (by decide), mW_at]
    · refine ⟨n', q0, by rw [mW_off _ _ (by decide), mW_at], by rw [mW_ne _ _ _ (by decide), j3, q3], fun l hl => ?_⟩
      refine careAt_to (c' := (mW Jc 77 2 0) 22) (hlines l hl) (fun i hi => by rw [mW_ne _ _ _ (by decide), j5 _ (by omega)]) (fun i hi => ?_)
      have e := cpf_in (g := (mW M' 119 15 0) 140) (h := (mW M' 119 15 0) 140) (o := 48) (d := 0) (N := 3 * n') (k := 3 * l + i) (by omega)
      rw [Nat.zero_add] at e
      rw [mW_ne _ _ _ (by decide), mW_ne _ _ _ (by decide), mU_eq, e, mW_ne _ _ _ (by decide)]
  · exact tx_fail (by decide) (by decide) (by decide) hz fC d1 fM fk q1 (by rw [rt]; exact q2) q3 q4 q5
theorem text_like {C M : mI} {t : Nat → Nat} {n np nq : Nat} (H : TxH C M t n np nq) : ∃ v C' M', r9_text C 3 = some (v, C') ∧ r10_text M 3 = some (v, M') ∧ TxR C C' M M' := by
  obtain ⟨z1, Ms, J, P, hz, hr, hS, ⟨d2, d3, d11, d12, d7, d8, d9, d1⟩, fC, fM, fk, m28, m29, m30, m35, m36⟩ := text_start H
  obtain ⟨_, _, _, _, hnp, hnq, _, m6, m7⟩ := H
  have fu := FU_lt (n := 500) (by omega)
  obtain ⟨Mz, y1, y2, y3, y4⟩ := zero_l 12 0 rfl Ms FU (by omega)
  have y1 : l10_readLikeness_2 FU 0 Ms = some Mz := y1
  have FZ : FrM Ms Mz := ⟨fun a i ha hs => by
    by_cases e : a = 141
    · subst e
      exact y3 i (by unfold Sf at hs; omega)
    · rw [y2 a e], fun k _ _ => by rw [y2 119 (by decide)]⟩
  have hSz : Syn (mW z1 109 1 0) Mz t n J P 0 := Syn_M hS (by rw [y2 119 (by decide)]) (y2 129 (by decide)) (y2 130 (by decide)) (by rw [y2 119 (by decide)]) (by rw [y2 119 (by decide)]) (by rw [y2 119 (by decide)]) (by rw [y2 119 (by decide)])
  have rt : r10_readsText (hdM M) 3 = (l10_readLikeness_26 FU 0 Mz).bind tlM := by
    unfold r10_readsText
    rw [hr, Option.bind_some, if_neg (by decide), if_neg (by decide), if_pos rfl, bind_pair, bind_pair]
    unfold r10_readLikeness
    rw [y1, Option.bind_some]
    rfl
  have s6 : Mz 119 6 = nI np := by rw [y2 119 (by decide), fk 6 (by decide) (by omega) (by omega) (by decide) (by decide), m6]
  rcases like_lines hnp d8 s6 (fun p hp => y4 p (by omega) hp) hSz d2 d3 d11 d12 with ⟨C', M', n', q0, q1, q2, q3, q4⟩ | ⟨C', M', q1, q2, q3, q4, q5⟩
  · obtain ⟨⟨g1, g2', g11, g12⟩, p3, hlines, hset⟩ := q4
    have g2 : FrM Ms M' := FrM_t FZ g2'
    obtain ⟨Jc, j1, j2, j3, j4, j5⟩ := cp_t24 C' p3
    refine ⟨nI n', Jc, mW (mU (mW M' 119 15 0) 141 (cpf ((mW M' 119 15 0) 141) ((mW M' 119 15 0) 141) 12 0 12)) 119 41 (nI n'), ?_, ?_, ⟨?_, ?_⟩, .inr (.inr (.inr (.inr ⟨⟨fun a ha hs => ?_, ?_⟩, j4, ⟨fun a i ha hs hsm => ?_, fun k a b c d => ?_, ?_⟩, ?_⟩)))⟩
    · unfold r9_text
      rw [rs_ok hz (by decide) (by decide) q1 g11 q3, Option.bind_some, if_neg (by decide), if_neg (by decide), if_neg (by decide), if_pos rfl]
      dsimp only
      rw [if_neg (nI_m1 (by omega)), j1, Option.bind_some, if_neg (by decide), if_neg (by decide)]
      rfl
    · rw [tm_ok q0 (by decide) (by rw [rt]; exact q2), if_neg (by decide)]
      unfold r10_takesOther
      rw [if_pos rfl, tk7, Option.bind_some, Option.bind_some, Option.bind_some]
    · rw [j2 109 (by omega), g11, mW_off _ _ (by decide), mU_ne _ _ (by decide), mW_off _ _ (by decide), g2.2 35 (by omega) (by omega), m35]
    · rw [j2 109 (by omega), g12, mW_off _ _ (by decide), mU_ne _ _ (by decide), mW_off _ _ (by decide), g2.2 36 (by omega) (by omega), m36]
    · rw [j2 a hs, g1.1 a (by omega), fC a ha]
    · rw [j2 109 (by omega), g1.2 1 (by decide) (by decide) (by decide) (by decide), d1]
    · rw [mW_ne _ _ _ ha, mU_ne _ _ hsm, mW_ne _ _ _ ha, g2.1 a i ha hs, fM a ha]
    · rw [mW_off _ _ d, mU_ne _ _ (by decide), mW_off _ _ (by omega), g2.2 k (by omega) (by omega), fk k a (by omega) (by omega) (by omega) (by omega)]
    · rw [mW_off _ _ (by decide), mU_ne _ _ (by decide), mW_at]
    · have x6 : (mW (mU (mW M' 119 15 0) 141 (cpf ((mW M' 119 15 0) 141) ((mW M' 119 15 0) 141) 12 0 12)) 119 41 (nI n')) 119 6 = nI np := by
        rw [mW_off _ _ (by decide), mU_ne _ _ (by decide), mW_off _ _ (by decide), g2'.2 6 (by omega) (by omega), s6]
      rw [x6]
      refine ⟨n', q0, by rw [mW_at], by rw [j3, q3], fun l hl => ?_, fun p hp => ?_⟩
      · obtain ⟨a, b, b1, b2, b3, b4, b5, b6, b7⟩ := hlines l hl
        exact ⟨a, b, b1, b2, b3, b4, b5, by rw [j5 _ (by omega), b6], by rw [j5 _ (by omega), b7]⟩
      · have e := cpf_in (g := (mW M' 119 15 0) 141) (h := (mW M' 119 15 0) 141) (o := 12) (d := 0) (N := 12) (k := p) hp
        rw [Nat.zero_add] at e
        rw [mW_ne _ _ _ (by decide), mU_eq, e, mW_ne _ _ _ (by decide), hset p hp, like_rg j5 _ n' q0]
  · exact tx_fail (by decide) (by decide) (by decide) hz fC d1 fM fk q1 (by rw [rt]; exact q2) q3 q4 (FrM_t FZ q5)
theorem text_s {C M : mI} {t : Nat → Nat} {n np nq : Nat} (H : TxH C M t n np nq) (x : Int32) : ∃ v C' M', r9_text C x = some (v, C') ∧ r10_text M x = some (v, M') ∧ TxR C C' M M' := by
  by_cases x0 : x = 0
  · subst x0; exact text_law H
  by_cases x1 : x = 1
  · subst x1; exact text_prog H
  by_cases x2 : x = 2
  · subst x2; exact text_care H
  by_cases x3 : x = 3
  · subst x3; exact text_like H
  have out : r10_isIn x 0 3 = 0 ∧ (x < 0 ∨ ¬ x ≤ 3) := by
    by_cases a : x < 0
    · exact ⟨isIn_0a a, .inl a⟩
    · by_cases b : x ≤ 3
      · exfalso
        obtain ⟨w, hw, ew⟩ := nI_of2 (x := x) (M := 3) (n := 3) (by decide) a b
        obtain e | e | e | e : w = 0 ∨ w = 1 ∨ w = 2 ∨ w = 3 := by omega
        · exact x0 (by rw [ew, e]; rfl)
        · exact x1 (by rw [ew, e]; rfl)
        · exact x2 (by rw [ew, e]; rfl)
        · exact x3 (by rw [ew, e]; rfl)
      · exact ⟨isIn_0b (i32_nle.mp b), .inr b⟩
  obtain ⟨z1, Ms, J, P, hz, hr, hS, ⟨d2, d3, d11, d12, d7, d8, d9, d1⟩, fC, fM, fk, m28, m29, m30, m35, m36⟩ := text_start H
  have rs : r4_readScript C x = some (-1, mW z1 109 1 0) := by
    rw [rs_text hz]
    rcases out.2 with a | a
    · rw [if_pos a]
    · rw [if_neg a, ite_self]
  have rm : r10_text M x = some (-1, mW (hdM M) 119 15 0) := by
    unfold r10_text
    rw [if_pos out.1, Option.bind_some, if_pos rfl]
    rfl
  obtain ⟨v1, v2, v3, v4, v5⟩ := hdM_v M
  refine ⟨-1, _, _, tx_no rs, rm, ⟨?_, ?_⟩, .inl ⟨⟨fun a ha _ => fC a ha, d1⟩, fun a i ha hs _ => ?_, fun k a b c _ => ?_, mW_at _ _ _ _⟩⟩
  · rw [d11, mW_off _ _ (by decide), v1]
  · rw [d12, mW_off _ _ (by decide), v2]
  · rw [mW_ne _ _ _ ha, hdM_r M ha]
  · rw [mW_off _ _ (by omega), hdM_k M (by omega)]
